/-! walked by program: X12_old, X12_above, X12_begins, X12_liftsAs, X12_bearsAs, X12_losesAs, X12_tellsAs, X12_act, X12_trace, X12_keep, X12_row -/
theorem d_X12_old_0 : decode J_X12_old.2.1 0 = .ok (.aload_n 0, 1) := by decide +kernel
theorem d_X12_old_1 : decode J_X12_old.2.1 1 = .ok (.iload_n 1, 1) := by decide +kernel
theorem d_X12_old_2 : decode J_X12_old.2.1 2 = .ok (.invokevirtual 230, 3) := by decide +kernel
theorem d_X12_old_5 : decode J_X12_old.2.1 5 = .ok (.ifCond .ne 5, 3) := by decide +kernel
theorem d_X12_old_8 : decode J_X12_old.2.1 8 = .ok (.iconst (-1), 1) := by decide +kernel
theorem d_X12_old_9 : decode J_X12_old.2.1 9 = .ok (.ireturn, 1) := by decide +kernel
theorem d_X12_old_10 : decode J_X12_old.2.1 10 = .ok (.ldc_w 346, 3) := by decide +kernel
theorem d_X12_old_13 : decode J_X12_old.2.1 13 = .ok (.istore_n 2, 1) := by decide +kernel
theorem d_X12_old_14 : decode J_X12_old.2.1 14 = .ok (.iconst 0, 1) := by decide +kernel
theorem d_X12_old_15 : decode J_X12_old.2.1 15 = .ok (.istore_n 3, 1) := by decide +kernel
theorem d_X12_old_16 : decode J_X12_old.2.1 16 = .ok (.iload_n 3, 1) := by decide +kernel
theorem d_X12_old_17 : decode J_X12_old.2.1 17 = .ok (.iconst 3, 1) := by decide +kernel
theorem d_X12_old_18 : decode J_X12_old.2.1 18 = .ok (.if_icmp .ge 67, 3) := by decide +kernel
theorem d_X12_old_21 : decode J_X12_old.2.1 21 = .ok (.sipush 1000, 3) := by decide +kernel
theorem d_X12_old_24 : decode J_X12_old.2.1 24 = .ok (.bipush 10, 2) := by decide +kernel
theorem d_X12_old_26 : decode J_X12_old.2.1 26 = .ok (.aload_n 0, 1) := by decide +kernel
theorem d_X12_old_27 : decode J_X12_old.2.1 27 = .ok (.getfield 7, 3) := by decide +kernel
theorem d_X12_old_30 : decode J_X12_old.2.1 30 = .ok (.bipush 18, 2) := by decide +kernel
theorem d_X12_old_32 : decode J_X12_old.2.1 32 = .ok (.iload_n 3, 1) := by decide +kernel
theorem d_X12_old_33 : decode J_X12_old.2.1 33 = .ok (.iadd, 1) := by decide +kernel
theorem d_X12_old_34 : decode J_X12_old.2.1 34 = .ok (.iaload, 1) := by decide +kernel
theorem d_X12_old_35 : decode J_X12_old.2.1 35 = .ok (.imul, 1) := by decide +kernel
theorem d_X12_old_36 : decode J_X12_old.2.1 36 = .ok (.isub, 1) := by decide +kernel
theorem d_X12_old_37 : decode J_X12_old.2.1 37 = .ok (.istore 4, 2) := by decide +kernel
theorem d_X12_old_39 : decode J_X12_old.2.1 39 = .ok (.aload_n 0, 1) := by decide +kernel
theorem d_X12_old_40 : decode J_X12_old.2.1 40 = .ok (.iload_n 1, 1) := by decide +kernel
theorem d_X12_old_41 : decode J_X12_old.2.1 41 = .ok (.iload_n 3, 1) := by decide +kernel
theorem d_X12_old_42 : decode J_X12_old.2.1 42 = .ok (.invokevirtual 279, 3) := by decide +kernel
theorem d_X12_old_45 : decode J_X12_old.2.1 45 = .ok (.istore 5, 2) := by decide +kernel
theorem d_X12_old_47 : decode J_X12_old.2.1 47 = .ok (.iload 5, 2) := by decide +kernel
theorem d_X12_old_49 : decode J_X12_old.2.1 49 = .ok (.ifCond .le 30, 3) := by decide +kernel
theorem d_X12_old_52 : decode J_X12_old.2.1 52 = .ok (.iload_n 2, 1) := by decide +kernel
theorem d_X12_old_53 : decode J_X12_old.2.1 53 = .ok (.i2l, 1) := by decide +kernel
theorem d_X12_old_54 : decode J_X12_old.2.1 54 = .ok (.iload 4, 2) := by decide +kernel
theorem d_X12_old_56 : decode J_X12_old.2.1 56 = .ok (.ifCond .ge 7, 3) := by decide +kernel
theorem d_X12_old_59 : decode J_X12_old.2.1 59 = .ok (.iconst 0, 1) := by decide +kernel
theorem d_X12_old_60 : decode J_X12_old.2.1 60 = .ok (.goto 5, 3) := by decide +kernel
theorem d_X12_old_63 : decode J_X12_old.2.1 63 = .ok (.iload 4, 2) := by decide +kernel
theorem d_X12_old_65 : decode J_X12_old.2.1 65 = .ok (.i2l, 1) := by decide +kernel
theorem d_X12_old_66 : decode J_X12_old.2.1 66 = .ok (.lmul, 1) := by decide +kernel
theorem d_X12_old_67 : decode J_X12_old.2.1 67 = .ok (.ldc2_w 355, 3) := by decide +kernel
theorem d_X12_old_70 : decode J_X12_old.2.1 70 = .ok (.ldiv, 1) := by decide +kernel
theorem d_X12_old_71 : decode J_X12_old.2.1 71 = .ok (.l2i, 1) := by decide +kernel
theorem d_X12_old_72 : decode J_X12_old.2.1 72 = .ok (.istore_n 2, 1) := by decide +kernel
theorem d_X12_old_73 : decode J_X12_old.2.1 73 = .ok (.iinc 5 (-1), 3) := by decide +kernel
theorem d_X12_old_76 : decode J_X12_old.2.1 76 = .ok (.goto (-29), 3) := by decide +kernel
theorem d_X12_old_79 : decode J_X12_old.2.1 79 = .ok (.iinc 3 1, 3) := by decide +kernel
theorem d_X12_old_82 : decode J_X12_old.2.1 82 = .ok (.goto (-66), 3) := by decide +kernel
theorem d_X12_old_85 : decode J_X12_old.2.1 85 = .ok (.iload_n 2, 1) := by decide +kernel
theorem d_X12_old_86 : decode J_X12_old.2.1 86 = .ok (.ireturn, 1) := by decide +kernel
def f_X12_old_65 (N : Nat) (K : oK) (r16 : (Int32 → Int32 → Int32 → oM → Option (Int32 × oM))) (r47 : (Int32 → Int32 → Int32 → Int32 → Int32 → oM → Option (Int32 × oM))) (p1 : Int32) (p3 : Int32) (p4 : Int32) (p5 : Int32) (s0 : Int32) (s1 : Int64) (M : oM) : Option (Int32 × oM) :=
  (r47 p1 ((((s1 * (s0 : Int32).toInt64) / 1000) : Int64).toInt32) p3 p4 (p5 + (-1)) M)
set_option maxRecDepth 20000 in
theorem v_X12_old_65 {X : oX} {d N : Nat} {K : oK} {r16 : (Int32 → Int32 → Int32 → oM → Option (Int32 × oM))} {r47 : (Int32 → Int32 → Int32 → Int32 → Int32 → oM → Option (Int32 × oM))} {p1 : Int32} {p3 : Int32} {p4 : Int32} {p5 : Int32} {s0 : Int32} {s1 : Int64} {M : oM} {v : Int32} {M' : oM}  (hd : 4 ≤ d) (hK : oSR K)  (hr16 : ∀ (p1 : Int32) (p2 : Int32) (p3 : Int32) (M : oM) (v : Int32) (M' : oM) , r16 p1 p2 p3 M = some (v, M') → oEv X d J_X12_old 16 [some (.ref 59), some (.int p1), some (.int p2), some (.int p3), none, none] [] K M (some (.int v)) K M') (hr47 : ∀ (p1 : Int32) (p2 : Int32) (p3 : Int32) (p4 : Int32) (p5 : Int32) (M : oM) (v : Int32) (M' : oM) , r47 p1 p2 p3 p4 p5 M = some (v, M') → oEv X d J_X12_old 47 [some (.ref 59), some (.int p1), some (.int p2), some (.int p3), some (.int p4), some (.int p5)] [] K M (some (.int v)) K M') (h : f_X12_old_65 N K r16 r47 p1 p3 p4 p5 s0 s1 M = some (v, M')) : oEv X d J_X12_old 65 [some (.ref 59), some (.int p1), none, some (.int p3), some (.int p4), some (.int p5)] [(.int s0), (.long s1)] K M (some (.int v)) K M' := by
  unfold f_X12_old_65 at h
  refine oe_i2l (pc := 65) d_X12_old_65 ?_
  refine oe_lmul (pc := 66) d_X12_old_66 ?_
  refine oe_ldc2 (pc := 67) d_X12_old_67 co_X12_355 ?_
  refine oe_ldiv (pc := 70) d_X12_old_70 (by decide) ?_
  refine oe_l2i (pc := 71) d_X12_old_71 ?_
  refine oe_istore_n (pc := 72) (L2 := [_, _, _, _, _, _]) d_X12_old_72 rfl rfl (Nat.le_of_ble_eq_true rfl) rfl ?_
  refine oe_iinc (pc := 73) (v := (p5 + (-1))) (L2 := [_, _, _, _, _, _]) d_X12_old_73 rfl rfl rfl (Nat.le_of_ble_eq_true rfl) rfl ?_
  refine oe_goto (pc := 76) (tgt := 47) d_X12_old_76 (by decide) ?_
  exact hr47 _ _ _ _ _ _ _ _ h
def f_X12_old_47 (N : Nat) (K : oK) (r16 : (Int32 → Int32 → Int32 → oM → Option (Int32 × oM))) : Nat → Int32 → Int32 → Int32 → Int32 → Int32 → oM → Option (Int32 × oM)
  | 0, _, _, _, _, _, _ => none
  | n + 1, p1, p2, p3, p4, p5, M => (fun r47 => (if p5 ≤ 0 then (r16 p1 p2 (p3 + 1) M) else (if 0 ≤ p4 then (f_X12_old_65 N K r16 r47 p1 p3 p4 p5 p4 ((p2 : Int32).toInt64) M) else (f_X12_old_65 N K r16 r47 p1 p3 p4 p5 0 ((p2 : Int32).toInt64) M)))) (f_X12_old_47 N K r16 n)
set_option maxRecDepth 20000 in
theorem v_X12_old_47_L {X : oX} {d N : Nat} {K : oK} {r16 : (Int32 → Int32 → Int32 → oM → Option (Int32 × oM))} (hd : 4 ≤ d) (hK : oSR K) (hr16 : ∀ (p1 : Int32) (p2 : Int32) (p3 : Int32) (M : oM) (v : Int32) (M' : oM) , r16 p1 p2 p3 M = some (v, M') → oEv X d J_X12_old 16 [some (.ref 59), some (.int p1), some (.int p2), some (.int p3), none, none] [] K M (some (.int v)) K M') : ∀ (n : Nat) (p1 : Int32) (p2 : Int32) (p3 : Int32) (p4 : Int32) (p5 : Int32) (M : oM) (v : Int32) (M' : oM)  , f_X12_old_47 N K r16 n p1 p2 p3 p4 p5 M = some (v, M') → oEv X d J_X12_old 47 [some (.ref 59), some (.int p1), some (.int p2), some (.int p3), some (.int p4), some (.int p5)] [] K M (some (.int v)) K M' := by
  intro n
  induction n with
  | zero =>
    intro p1 p2 p3 p4 p5 M v M'   h
    cases h
  | succ n hr47 =>
    intro p1 p2 p3 p4 p5 M v M'   h
    refine oe_iload (pc := 47) d_X12_old_47 rfl ?_
    refine oe_if_le (pc := 49) (tgt := 79) d_X12_old_49 (by decide) (fun c9 => ?_) (fun c9 => ?_)
    · replace h := (if_pos c9).symm.trans h
      refine oe_iinc (pc := 79) (v := (p3 + 1)) (L2 := [_, _, _, _, _, _]) d_X12_old_79 rfl rfl rfl (Nat.le_of_ble_eq_true rfl) rfl ?_
      refine oe_goto (pc := 82) (tgt := 16) d_X12_old_82 (by decide) ?_
      refine oEv.fg [true, true, true, true, false, false] ?_
      exact hr16 _ _ _ _ _ _ h
    · replace h := (if_neg c9).symm.trans h
      refine oe_iload_n (pc := 52) d_X12_old_52 rfl ?_
      refine oe_i2l (pc := 53) d_X12_old_53 ?_
      refine oe_iload (pc := 54) d_X12_old_54 rfl ?_
      refine oe_if_ge (pc := 56) (tgt := 63) d_X12_old_56 (by decide) (fun c10 => ?_) (fun c10 => ?_)
      · replace h := (if_pos c10).symm.trans h
        refine oe_iload (pc := 63) d_X12_old_63 rfl ?_
        refine oEv.fg [true, true, false, true, true, true] ?_
        exact v_X12_old_65 hd hK  hr16 hr47 h
      · replace h := (if_neg c10).symm.trans h
        refine oe_iconst (pc := 59) (v := 0) d_X12_old_59 rfl ?_
        refine oe_goto (pc := 60) (tgt := 65) d_X12_old_60 (by decide) ?_
        refine oEv.fg [true, true, false, true, true, true] ?_
        exact v_X12_old_65 hd hK  hr16 hr47 h
theorem v_X12_old_47 {X : oX} {d N : Nat} {K : oK} {r16 : (Int32 → Int32 → Int32 → oM → Option (Int32 × oM))} {p1 : Int32} {p2 : Int32} {p3 : Int32} {p4 : Int32} {p5 : Int32} {M : oM} {v : Int32} {M' : oM}  (hd : 4 ≤ d) (hK : oSR K)  (hr16 : ∀ (p1 : Int32) (p2 : Int32) (p3 : Int32) (M : oM) (v : Int32) (M' : oM) , r16 p1 p2 p3 M = some (v, M') → oEv X d J_X12_old 16 [some (.ref 59), some (.int p1), some (.int p2), some (.int p3), none, none] [] K M (some (.int v)) K M') (h : f_X12_old_47 N K r16 N p1 p2 p3 p4 p5 M = some (v, M')) : oEv X d J_X12_old 47 [some (.ref 59), some (.int p1), some (.int p2), some (.int p3), some (.int p4), some (.int p5)] [] K M (some (.int v)) K M' := v_X12_old_47_L hd hK hr16 N p1 p2 p3 p4 p5 M v M'   h
def f_X12_old_16 (N : Nat) (K : oK)  : Nat → Int32 → Int32 → Int32 → oM → Option (Int32 × oM)
  | 0, _, _, _, _ => none
  | n + 1, p1, p2, p3, M => (fun r16 => (if 3 ≤ p3 then some (p2, M) else oIx (((18 : Int32) + p3)) 21 (oB2 (f_X12_hoseOf N K p1 p3 M) (fun v6 M7 => (f_X12_old_47 N K r16 N p1 p2 p3 ((1000 : Int32) - ((10 : Int32) * (M.1 60 (((18 : Int32) + p3) : Int32).toNatClampNeg))) v6 M7))))) (f_X12_old_16 N K  n)
set_option maxRecDepth 20000 in
theorem v_X12_old_16_L {X : oX} {d N : Nat} {K : oK}  (hd : 4 ≤ d) (hK : oSR K)  : ∀ (n : Nat) (p1 : Int32) (p2 : Int32) (p3 : Int32) (M : oM) (v : Int32) (M' : oM)  , f_X12_old_16 N K  n p1 p2 p3 M = some (v, M') → oEv X d J_X12_old 16 [some (.ref 59), some (.int p1), some (.int p2), some (.int p3), none, none] [] K M (some (.int v)) K M' := by
  intro n
  induction n with
  | zero =>
    intro p1 p2 p3 M v M'   h
    cases h
  | succ n hr16 =>
    intro p1 p2 p3 M v M'   h
    refine oe_iload_n (pc := 16) d_X12_old_16 rfl ?_
    refine oe_iconst (pc := 17) (v := 3) d_X12_old_17 rfl ?_
    refine oe_icmp_ge (pc := 18) (tgt := 85) d_X12_old_18 (by decide) (fun c4 => ?_) (fun c4 => ?_)
    · replace h := (if_pos c4).symm.trans h
      refine oe_iload_n (pc := 85) d_X12_old_85 rfl ?_
      obtain ⟨rfl, rfl⟩ := oRes h
      exact oe_iret (pc := 86) d_X12_old_86 ⟨_, rfl, rfl⟩
    · replace h := (if_neg c4).symm.trans h
      refine oe_sipush (pc := 21) (v := 1000) d_X12_old_21 rfl ?_
      refine oe_bipush (pc := 24) (v := 10) d_X12_old_24 rfl ?_
      refine oe_aload_n (pc := 26) d_X12_old_26 rfl ?_
      refine oe_getr (pc := 27) d_X12_old_27 fl_X12_7 ock12 (k := 0) (b := 60) (Nat.le_of_ble_eq_true rfl) (by decide) (oLt hK (a := 59) (Nat.le_of_ble_eq_true rfl)) (oSho hK (a := 59) (Nat.le_of_ble_eq_true rfl) rfl) (oRfK hK rfl) ?_
      refine oe_bipush (pc := 30) (v := 18) d_X12_old_30 rfl ?_
      refine oe_iload_n (pc := 32) d_X12_old_32 rfl ?_
      refine oe_iadd (pc := 33) d_X12_old_33 ?_
      obtain ⟨i5, h⟩ := oIx_some h
      refine oe_iald (pc := 34) d_X12_old_34 (oLt hK (a := 60) (Nat.le_of_ble_eq_true rfl)) (oSha hK (a := 60) (Nat.le_of_ble_eq_true rfl) rfl) i5 ?_
      refine oe_imul (pc := 35) d_X12_old_35 ?_
      refine oe_isub (pc := 36) d_X12_old_36 ?_
      refine oe_istore (pc := 37) (L2 := [_, _, _, _, _, _]) d_X12_old_37 rfl (Nat.le_of_ble_eq_true rfl) rfl ?_
      refine oe_aload_n (pc := 39) d_X12_old_39 rfl ?_
      refine oe_iload_n (pc := 40) d_X12_old_40 rfl ?_
      refine oe_iload_n (pc := 41) d_X12_old_41 rfl ?_
      obtain ⟨v6, M7, q8, h⟩ := oB2_some h
      refine oe_callV (pc := 42) (ci := 12) d_X12_old_42 (v_X12_hoseOf hK  q8) (by omega) ml_X12_279 jJ_X12_hoseOf rfl rfl (oLt hK (a := 59) (Nat.le_of_ble_eq_true rfl)) (oSho hK (a := 59) (Nat.le_of_ble_eq_true rfl) rfl) ock12 rfl (Nat.le_of_ble_eq_true rfl) ⟨Nat.le_refl _, Nat.le_refl _⟩ ⟨Nat.le_refl _, Nat.le_refl _⟩ ?_
      refine oe_istore (pc := 45) (L2 := [_, _, _, _, _, _]) d_X12_old_45 rfl (Nat.le_of_ble_eq_true rfl) rfl ?_
      exact v_X12_old_47 hd hK  hr16 h
theorem v_X12_old_16 {X : oX} {d N : Nat} {K : oK}  {p1 : Int32} {p2 : Int32} {p3 : Int32} {M : oM} {v : Int32} {M' : oM}  (hd : 4 ≤ d) (hK : oSR K)   (h : f_X12_old_16 N K  N p1 p2 p3 M = some (v, M')) : oEv X d J_X12_old 16 [some (.ref 59), some (.int p1), some (.int p2), some (.int p3), none, none] [] K M (some (.int v)) K M' := v_X12_old_16_L hd hK  N p1 p2 p3 M v M'   h
def f_X12_old (N : Nat) (K : oK) (p1 : Int32) (M : oM) : Option (Int32 × oM) :=
  oB2 (f_X12_isLaying N K p1 M) (fun v1 M2 => cond v1 ((f_X12_old_16 N K  N p1 1000000 0 M2)) (some ((-1), M2)))
set_option maxRecDepth 20000 in
theorem v_X12_old {X : oX} {N : Nat} {K : oK} {p1 : Int32} {M : oM} {v : Int32} {M' : oM} (hK : oSR K)  (h : f_X12_old N K p1 M = some (v, M')) : oMet X 4 J_X12_old [(.ref 59), (.int p1)] K M (some (.int v)) K M' := by
  unfold f_X12_old at h
  refine oMet_of (L := [some (.ref 59), some (.int p1), none, none, none, none]) jJ_X12_old.1 rfl (Nat.le_of_ble_eq_true rfl) rfl (Nat.le_refl _) (Nat.le_refl _) ?_
  have hd : 4 ≤ 4 := Nat.le_refl _
  refine oe_aload_n (pc := 0) d_X12_old_0 rfl ?_
  refine oe_iload_n (pc := 1) d_X12_old_1 rfl ?_
  obtain ⟨v1, M2, q3, h⟩ := oB2_some h
  cases v1 with
  | true =>
    replace h := oCt h
    refine oe_callV (pc := 2) (ci := 12) d_X12_old_2 (v_X12_isLaying hK  q3) (by omega) ml_X12_230 jJ_X12_isLaying rfl rfl (oLt hK (a := 59) (Nat.le_of_ble_eq_true rfl)) (oSho hK (a := 59) (Nat.le_of_ble_eq_true rfl) rfl) ock12 rfl (Nat.le_of_ble_eq_true rfl) ⟨Nat.le_refl _, Nat.le_refl _⟩ ⟨Nat.le_refl _, Nat.le_refl _⟩ ?_
    refine oe_if_ne (pc := 5) (tgt := 10) d_X12_old_5 (by decide) (fun _ => ?_) (fun c => absurd c (by decide))
    refine oe_ldcw (pc := 10) d_X12_old_10 co_X12_346 ?_
    refine oe_istore_n (pc := 13) (L2 := [_, _, _, _, _, _]) d_X12_old_13 rfl rfl (Nat.le_of_ble_eq_true rfl) rfl ?_
    refine oe_iconst (pc := 14) (v := 0) d_X12_old_14 rfl ?_
    refine oe_istore_n (pc := 15) (L2 := [_, _, _, _, _, _]) d_X12_old_15 rfl rfl (Nat.le_of_ble_eq_true rfl) rfl ?_
    exact v_X12_old_16 hd hK   h
  | false =>
    replace h := oCf h
    refine oe_callV (pc := 2) (ci := 12) d_X12_old_2 (v_X12_isLaying hK  q3) (by omega) ml_X12_230 jJ_X12_isLaying rfl rfl (oLt hK (a := 59) (Nat.le_of_ble_eq_true rfl)) (oSho hK (a := 59) (Nat.le_of_ble_eq_true rfl) rfl) ock12 rfl (Nat.le_of_ble_eq_true rfl) ⟨Nat.le_refl _, Nat.le_refl _⟩ ⟨Nat.le_refl _, Nat.le_refl _⟩ ?_
    refine oe_if_ne (pc := 5) (tgt := 10) d_X12_old_5 (by decide) (fun c => absurd (by decide) c) (fun _ => ?_)
    refine oe_iconst (pc := 8) (v := (-1)) d_X12_old_8 rfl ?_
    obtain ⟨rfl, rfl⟩ := oRes h
    exact oe_iret (pc := 9) d_X12_old_9 ⟨_, rfl, rfl⟩
theorem d_X12_above_0 : decode J_X12_above.2.1 0 = .ok (.iload_n 0, 1) := by decide +kernel
theorem d_X12_above_1 : decode J_X12_above.2.1 1 = .ok (.iconst 3, 1) := by decide +kernel
theorem d_X12_above_2 : decode J_X12_above.2.1 2 = .ok (.if_icmp .ne 7, 3) := by decide +kernel
theorem d_X12_above_5 : decode J_X12_above.2.1 5 = .ok (.iconst 1, 1) := by decide +kernel
theorem d_X12_above_6 : decode J_X12_above.2.1 6 = .ok (.goto 13, 3) := by decide +kernel
theorem d_X12_above_9 : decode J_X12_above.2.1 9 = .ok (.iload_n 0, 1) := by decide +kernel
theorem d_X12_above_10 : decode J_X12_above.2.1 10 = .ok (.iconst 4, 1) := by decide +kernel
theorem d_X12_above_11 : decode J_X12_above.2.1 11 = .ok (.if_icmp .ne 7, 3) := by decide +kernel
theorem d_X12_above_14 : decode J_X12_above.2.1 14 = .ok (.iconst 2, 1) := by decide +kernel
theorem d_X12_above_15 : decode J_X12_above.2.1 15 = .ok (.goto 4, 3) := by decide +kernel
theorem d_X12_above_18 : decode J_X12_above.2.1 18 = .ok (.iconst 0, 1) := by decide +kernel
theorem d_X12_above_19 : decode J_X12_above.2.1 19 = .ok (.ireturn, 1) := by decide +kernel
def f_X12_above (N : Nat) (K : oK) (p0 : Int32) (M : oM) : Option (Int32 × oM) :=
  (if p0 = 3 then some (1, M) else (if p0 = 4 then some (2, M) else some (0, M)))
set_option maxRecDepth 20000 in
theorem v_X12_above {X : oX} {N : Nat} {K : oK} {p0 : Int32} {M : oM} {v : Int32} {M' : oM} (hK : oSR K)  (h : f_X12_above N K p0 M = some (v, M')) : oMet X 1 J_X12_above [(.int p0)] K M (some (.int v)) K M' := by
  unfold f_X12_above at h
  refine oMet_of (L := [some (.int p0)]) jJ_X12_above.1 rfl (Nat.le_of_ble_eq_true rfl) rfl (Nat.le_refl _) (Nat.le_refl _) ?_
  have hd : 1 ≤ 1 := Nat.le_refl _
  refine oe_iload_n (pc := 0) d_X12_above_0 rfl ?_
  refine oe_iconst (pc := 1) (v := 3) d_X12_above_1 rfl ?_
  refine oe_icmp_ne (pc := 2) (tgt := 9) d_X12_above_2 (by decide) (fun c1 => ?_) (fun c1 => ?_)
  · replace h := (if_neg c1).symm.trans h
    refine oe_iload_n (pc := 9) d_X12_above_9 rfl ?_
    refine oe_iconst (pc := 10) (v := 4) d_X12_above_10 rfl ?_
    refine oe_icmp_ne (pc := 11) (tgt := 18) d_X12_above_11 (by decide) (fun c2 => ?_) (fun c2 => ?_)
    · replace h := (if_neg c2).symm.trans h
      refine oe_iconst (pc := 18) (v := 0) d_X12_above_18 rfl ?_
      obtain ⟨rfl, rfl⟩ := oRes h
      exact oe_iret (pc := 19) d_X12_above_19 ⟨_, rfl, rfl⟩
    · replace h := (if_pos c2).symm.trans h
      refine oe_iconst (pc := 14) (v := 2) d_X12_above_14 rfl ?_
      refine oe_goto (pc := 15) (tgt := 19) d_X12_above_15 (by decide) ?_
      obtain ⟨rfl, rfl⟩ := oRes h
      exact oe_iret (pc := 19) d_X12_above_19 ⟨_, rfl, rfl⟩
  · replace h := (if_pos c1).symm.trans h
    refine oe_iconst (pc := 5) (v := 1) d_X12_above_5 rfl ?_
    refine oe_goto (pc := 6) (tgt := 19) d_X12_above_6 (by decide) ?_
    obtain ⟨rfl, rfl⟩ := oRes h
    exact oe_iret (pc := 19) d_X12_above_19 ⟨_, rfl, rfl⟩
theorem d_X12_begins_0 : decode J_X12_begins.2.1 0 = .ok (.aload_n 0, 1) := by decide +kernel
theorem d_X12_begins_1 : decode J_X12_begins.2.1 1 = .ok (.getfield 357, 3) := by decide +kernel
theorem d_X12_begins_4 : decode J_X12_begins.2.1 4 = .ok (.bipush 24, 2) := by decide +kernel
theorem d_X12_begins_6 : decode J_X12_begins.2.1 6 = .ok (.if_icmp .ge 13, 3) := by decide +kernel
theorem d_X12_begins_9 : decode J_X12_begins.2.1 9 = .ok (.aload_n 0, 1) := by decide +kernel
theorem d_X12_begins_10 : decode J_X12_begins.2.1 10 = .ok (.getfield 119, 3) := by decide +kernel
theorem d_X12_begins_13 : decode J_X12_begins.2.1 13 = .ok (.aload_n 0, 1) := by decide +kernel
theorem d_X12_begins_14 : decode J_X12_begins.2.1 14 = .ok (.getfield 357, 3) := by decide +kernel
theorem d_X12_begins_17 : decode J_X12_begins.2.1 17 = .ok (.iload_n 1, 1) := by decide +kernel
theorem d_X12_begins_18 : decode J_X12_begins.2.1 18 = .ok (.iastore, 1) := by decide +kernel
theorem d_X12_begins_19 : decode J_X12_begins.2.1 19 = .ok (.aload_n 0, 1) := by decide +kernel
theorem d_X12_begins_20 : decode J_X12_begins.2.1 20 = .ok (.dup, 1) := by decide +kernel
theorem d_X12_begins_21 : decode J_X12_begins.2.1 21 = .ok (.getfield 357, 3) := by decide +kernel
theorem d_X12_begins_24 : decode J_X12_begins.2.1 24 = .ok (.iconst 1, 1) := by decide +kernel
theorem d_X12_begins_25 : decode J_X12_begins.2.1 25 = .ok (.iadd, 1) := by decide +kernel
theorem d_X12_begins_26 : decode J_X12_begins.2.1 26 = .ok (.putfield 357, 3) := by decide +kernel
theorem d_X12_begins_29 : decode J_X12_begins.2.1 29 = .ok (.return_, 1) := by decide +kernel
def f_X12_begins_19 (N : Nat) (K : oK)   (M : oM) : Option (Unit × oM) :=
  some ((), (oUp M 59 59 ((M.1 59 59) + 1)))
set_option maxRecDepth 20000 in
theorem v_X12_begins_19 {X : oX} {d N : Nat} {K : oK}   {M : oM} {v : Unit} {M' : oM}  (hd : 1 ≤ d) (hK : oSR K)   (h : f_X12_begins_19 N K   M = some (v, M')) : oEv X d J_X12_begins 19 [some (.ref 59), none] [] K M none K M' := by
  unfold f_X12_begins_19 at h
  refine oe_aload_n (pc := 19) d_X12_begins_19 rfl ?_
  refine oe_dup (pc := 20) d_X12_begins_20 rfl ?_
  refine oe_getf (pc := 21) d_X12_begins_21 fl_X12_357 ock12 (k := 59) (Nat.le_of_ble_eq_true rfl) rfl (oLt hK (a := 59) (Nat.le_of_ble_eq_true rfl)) (oSho hK (a := 59) (Nat.le_of_ble_eq_true rfl) rfl) ?_
  refine oe_iconst (pc := 24) (v := 1) d_X12_begins_24 rfl ?_
  refine oe_iadd (pc := 25) d_X12_begins_25 ?_
  refine oe_putf (pc := 26) d_X12_begins_26 fl_X12_357 ock12 (k := 59) (Nat.le_of_ble_eq_true rfl) rfl rfl (oLt hK (a := 59) (Nat.le_of_ble_eq_true rfl)) (oSho hK (a := 59) (Nat.le_of_ble_eq_true rfl) rfl) ?_
  obtain ⟨rfl, rfl⟩ := oRes h
  exact oe_vret (pc := 29) d_X12_begins_29 rfl
def f_X12_begins (N : Nat) (K : oK) (p1 : Int32) (M : oM) : Option (Unit × oM) :=
  (if 24 ≤ (M.1 59 59) then (f_X12_begins_19 N K   M) else oIx ((M.1 59 59)) 24 ((f_X12_begins_19 N K   (oUp M 96 ((M.1 59 59) : Int32).toNatClampNeg p1))))
set_option maxRecDepth 20000 in
theorem v_X12_begins {X : oX} {N : Nat} {K : oK} {p1 : Int32} {M : oM} {v : Unit} {M' : oM} (hK : oSR K)  (h : f_X12_begins N K p1 M = some (v, M')) : oMet X 1 J_X12_begins [(.ref 59), (.int p1)] K M none K M' := by
  unfold f_X12_begins at h
  refine oMet_of (L := [some (.ref 59), some (.int p1)]) jJ_X12_begins.1 rfl (Nat.le_of_ble_eq_true rfl) rfl (Nat.le_refl _) (Nat.le_refl _) ?_
  have hd : 1 ≤ 1 := Nat.le_refl _
  refine oe_aload_n (pc := 0) d_X12_begins_0 rfl ?_
  refine oe_getf (pc := 1) d_X12_begins_1 fl_X12_357 ock12 (k := 59) (Nat.le_of_ble_eq_true rfl) rfl (oLt hK (a := 59) (Nat.le_of_ble_eq_true rfl)) (oSho hK (a := 59) (Nat.le_of_ble_eq_true rfl) rfl) ?_
  refine oe_bipush (pc := 4) (v := 24) d_X12_begins_4 rfl ?_
  refine oe_icmp_ge (pc := 6) (tgt := 19) d_X12_begins_6 (by decide) (fun c1 => ?_) (fun c1 => ?_)
  · replace h := (if_pos c1).symm.trans h
    refine oEv.fg [true, false] ?_
    exact v_X12_begins_19 hd hK   h
  · replace h := (if_neg c1).symm.trans h
    refine oe_aload_n (pc := 9) d_X12_begins_9 rfl ?_
    refine oe_getr (pc := 10) d_X12_begins_10 fl_X12_119 ock12 (k := 58) (b := 96) (Nat.le_of_ble_eq_true rfl) (by decide) (oLt hK (a := 59) (Nat.le_of_ble_eq_true rfl)) (oSho hK (a := 59) (Nat.le_of_ble_eq_true rfl) rfl) (oRfK hK rfl) ?_
    refine oe_aload_n (pc := 13) d_X12_begins_13 rfl ?_
    refine oe_getf (pc := 14) d_X12_begins_14 fl_X12_357 ock12 (k := 59) (Nat.le_of_ble_eq_true rfl) rfl (oLt hK (a := 59) (Nat.le_of_ble_eq_true rfl)) (oSho hK (a := 59) (Nat.le_of_ble_eq_true rfl) rfl) ?_
    refine oe_iload_n (pc := 17) d_X12_begins_17 rfl ?_
    obtain ⟨i2, h⟩ := oIx_some h
    refine oe_iast (pc := 18) d_X12_begins_18 (oLt hK (a := 96) (Nat.le_of_ble_eq_true rfl)) (oSha hK (a := 96) (Nat.le_of_ble_eq_true rfl) rfl) i2 ?_
    refine oEv.fg [true, false] ?_
    exact v_X12_begins_19 hd hK   h
theorem d_X12_liftsAs_0 : decode J_X12_liftsAs.2.1 0 = .ok (.iload_n 1, 1) := by decide +kernel
theorem d_X12_liftsAs_1 : decode J_X12_liftsAs.2.1 1 = .ok (.iconst 3, 1) := by decide +kernel
theorem d_X12_liftsAs_2 : decode J_X12_liftsAs.2.1 2 = .ok (.if_icmp .ne 18, 3) := by decide +kernel
theorem d_X12_liftsAs_5 : decode J_X12_liftsAs.2.1 5 = .ok (.aload_n 0, 1) := by decide +kernel
theorem d_X12_liftsAs_6 : decode J_X12_liftsAs.2.1 6 = .ok (.bipush 40, 2) := by decide +kernel
theorem d_X12_liftsAs_8 : decode J_X12_liftsAs.2.1 8 = .ok (.invokevirtual 360, 3) := by decide +kernel
theorem d_X12_liftsAs_11 : decode J_X12_liftsAs.2.1 11 = .ok (.aload_n 0, 1) := by decide +kernel
theorem d_X12_liftsAs_12 : decode J_X12_liftsAs.2.1 12 = .ok (.iconst 1, 1) := by decide +kernel
theorem d_X12_liftsAs_13 : decode J_X12_liftsAs.2.1 13 = .ok (.iload_n 2, 1) := by decide +kernel
theorem d_X12_liftsAs_14 : decode J_X12_liftsAs.2.1 14 = .ok (.invokevirtual 363, 3) := by decide +kernel
theorem d_X12_liftsAs_17 : decode J_X12_liftsAs.2.1 17 = .ok (.iconst 3, 1) := by decide +kernel
theorem d_X12_liftsAs_18 : decode J_X12_liftsAs.2.1 18 = .ok (.imul, 1) := by decide +kernel
theorem d_X12_liftsAs_19 : decode J_X12_liftsAs.2.1 19 = .ok (.ireturn, 1) := by decide +kernel
theorem d_X12_liftsAs_20 : decode J_X12_liftsAs.2.1 20 = .ok (.aload_n 0, 1) := by decide +kernel
theorem d_X12_liftsAs_21 : decode J_X12_liftsAs.2.1 21 = .ok (.iconst 1, 1) := by decide +kernel
theorem d_X12_liftsAs_22 : decode J_X12_liftsAs.2.1 22 = .ok (.invokevirtual 360, 3) := by decide +kernel
theorem d_X12_liftsAs_25 : decode J_X12_liftsAs.2.1 25 = .ok (.iload_n 2, 1) := by decide +kernel
theorem d_X12_liftsAs_26 : decode J_X12_liftsAs.2.1 26 = .ok (.aload_n 0, 1) := by decide +kernel
theorem d_X12_liftsAs_27 : decode J_X12_liftsAs.2.1 27 = .ok (.getfield 366, 3) := by decide +kernel
theorem d_X12_liftsAs_30 : decode J_X12_liftsAs.2.1 30 = .ok (.iadd, 1) := by decide +kernel
theorem d_X12_liftsAs_31 : decode J_X12_liftsAs.2.1 31 = .ok (.ireturn, 1) := by decide +kernel
def f_X12_liftsAs (N : Nat) (K : oK) : Nat → Int32 → Int32 → oM → Option (Int32 × oM)
  | 0, _, _, _ => none
  | n + 1, p1, p2, M => (fun rS => (if p1 = 3 then oB2 (f_X12_begins N K (40 : Int32) M) (fun v5 M6 => oB2 (rS (1 : Int32) p2 M6) (fun v8 M9 => some ((v8 * 3), M9))) else oB2 (f_X12_begins N K (1 : Int32) M) (fun v2 M3 => some ((p2 + (M3.1 59 61)), M3)))) (f_X12_liftsAs N K n)
set_option maxRecDepth 20000 in
theorem v_X12_liftsAs_R {X : oX} {N : Nat} {K : oK} (hK : oSR K) : ∀ (n : Nat) (p1 : Int32) (p2 : Int32) (M : oM) (v : Int32) (M' : oM) , f_X12_liftsAs N K n p1 p2 M = some (v, M') → oMet X (2 + n) J_X12_liftsAs [(.ref 59), (.int p1), (.int p2)] K M (some (.int v)) K M' := by
  intro n
  induction n with
  | zero =>
    intro p1 p2 M v M'  h
    cases h
  | succ n hS0 =>
    intro p1 p2 M v M'  h
    refine oMet_of (L := [some (.ref 59), some (.int p1), some (.int p2)]) jJ_X12_liftsAs.1 rfl (Nat.le_of_ble_eq_true rfl) rfl (Nat.le_refl _) (Nat.le_refl _) ?_
    have hd : 2 ≤ 2 + (n + 1) := Nat.le_add_right _ _
    generalize hde : 2 + (n + 1) = d at hd ⊢
    have hS : ∃ d', d' < d ∧ ∀ (p1 : Int32) (p2 : Int32) (M : oM) (v : Int32) (M' : oM) , f_X12_liftsAs N K n p1 p2 M = some (v, M') → oMet X d' J_X12_liftsAs [(.ref 59), (.int p1), (.int p2)] K M (some (.int v)) K M' := ⟨2 + n, by omega, hS0⟩
    refine oe_iload_n (pc := 0) d_X12_liftsAs_0 rfl ?_
    refine oe_iconst (pc := 1) (v := 3) d_X12_liftsAs_1 rfl ?_
    refine oe_icmp_ne (pc := 2) (tgt := 20) d_X12_liftsAs_2 (by decide) (fun c1 => ?_) (fun c1 => ?_)
    · replace h := (if_neg c1).symm.trans h
      refine oe_aload_n (pc := 20) d_X12_liftsAs_20 rfl ?_
      refine oe_iconst (pc := 21) (v := 1) d_X12_liftsAs_21 rfl ?_
      obtain ⟨v2, M3, q4, h⟩ := oB2_some h
      refine oe_callV (pc := 22) (ci := 12) d_X12_liftsAs_22 (v_X12_begins hK  q4) (by omega) ml_X12_360 jJ_X12_begins rfl rfl (oLt hK (a := 59) (Nat.le_of_ble_eq_true rfl)) (oSho hK (a := 59) (Nat.le_of_ble_eq_true rfl) rfl) ock12 rfl (Nat.le_of_ble_eq_true rfl) ⟨Nat.le_refl _, Nat.le_refl _⟩ ⟨Nat.le_refl _, Nat.le_refl _⟩ ?_
      refine oe_iload_n (pc := 25) d_X12_liftsAs_25 rfl ?_
      refine oe_aload_n (pc := 26) d_X12_liftsAs_26 rfl ?_
      refine oe_getf (pc := 27) d_X12_liftsAs_27 fl_X12_366 ock12 (k := 61) (Nat.le_of_ble_eq_true rfl) rfl (oLt hK (a := 59) (Nat.le_of_ble_eq_true rfl)) (oSho hK (a := 59) (Nat.le_of_ble_eq_true rfl) rfl) ?_
      refine oe_iadd (pc := 30) d_X12_liftsAs_30 ?_
      obtain ⟨rfl, rfl⟩ := oRes h
      exact oe_iret (pc := 31) d_X12_liftsAs_31 ⟨_, rfl, rfl⟩
    · replace h := (if_pos c1).symm.trans h
      refine oe_aload_n (pc := 5) d_X12_liftsAs_5 rfl ?_
      refine oe_bipush (pc := 6) (v := 40) d_X12_liftsAs_6 rfl ?_
      obtain ⟨v5, M6, q7, h⟩ := oB2_some h
      refine oe_callV (pc := 8) (ci := 12) d_X12_liftsAs_8 (v_X12_begins hK  q7) (by omega) ml_X12_360 jJ_X12_begins rfl rfl (oLt hK (a := 59) (Nat.le_of_ble_eq_true rfl)) (oSho hK (a := 59) (Nat.le_of_ble_eq_true rfl) rfl) ock12 rfl (Nat.le_of_ble_eq_true rfl) ⟨Nat.le_refl _, Nat.le_refl _⟩ ⟨Nat.le_refl _, Nat.le_refl _⟩ ?_
      refine oe_aload_n (pc := 11) d_X12_liftsAs_11 rfl ?_
      refine oe_iconst (pc := 12) (v := 1) d_X12_liftsAs_12 rfl ?_
      refine oe_iload_n (pc := 13) d_X12_liftsAs_13 rfl ?_
      obtain ⟨v8, M9, q10, h⟩ := oB2_some h
      obtain ⟨d', hdl, hS9⟩ := id hS
      refine oe_callV (pc := 14) (ci := 12) d_X12_liftsAs_14 (hS9 _ _ _ _ _  q10) hdl ml_X12_363 jJ_X12_liftsAs rfl rfl (oLt hK (a := 59) (Nat.le_of_ble_eq_true rfl)) (oSho hK (a := 59) (Nat.le_of_ble_eq_true rfl) rfl) ock12 rfl (Nat.le_of_ble_eq_true rfl) ⟨Nat.le_refl _, Nat.le_refl _⟩ ⟨Nat.le_refl _, Nat.le_refl _⟩ ?_
      refine oe_iconst (pc := 17) (v := 3) d_X12_liftsAs_17 rfl ?_
      refine oe_imul (pc := 18) d_X12_liftsAs_18 ?_
      obtain ⟨rfl, rfl⟩ := oRes h
      exact oe_iret (pc := 19) d_X12_liftsAs_19 ⟨_, rfl, rfl⟩
theorem d_X12_bearsAs_0 : decode J_X12_bearsAs.2.1 0 = .ok (.iload_n 1, 1) := by decide +kernel
theorem d_X12_bearsAs_1 : decode J_X12_bearsAs.2.1 1 = .ok (.iconst 3, 1) := by decide +kernel
theorem d_X12_bearsAs_2 : decode J_X12_bearsAs.2.1 2 = .ok (.if_icmp .ne 18, 3) := by decide +kernel
theorem d_X12_bearsAs_5 : decode J_X12_bearsAs.2.1 5 = .ok (.aload_n 0, 1) := by decide +kernel
theorem d_X12_bearsAs_6 : decode J_X12_bearsAs.2.1 6 = .ok (.bipush 41, 2) := by decide +kernel
theorem d_X12_bearsAs_8 : decode J_X12_bearsAs.2.1 8 = .ok (.invokevirtual 360, 3) := by decide +kernel
theorem d_X12_bearsAs_11 : decode J_X12_bearsAs.2.1 11 = .ok (.aload_n 0, 1) := by decide +kernel
theorem d_X12_bearsAs_12 : decode J_X12_bearsAs.2.1 12 = .ok (.iconst 1, 1) := by decide +kernel
theorem d_X12_bearsAs_13 : decode J_X12_bearsAs.2.1 13 = .ok (.iload_n 2, 1) := by decide +kernel
theorem d_X12_bearsAs_14 : decode J_X12_bearsAs.2.1 14 = .ok (.iconst 1, 1) := by decide +kernel
theorem d_X12_bearsAs_15 : decode J_X12_bearsAs.2.1 15 = .ok (.iadd, 1) := by decide +kernel
theorem d_X12_bearsAs_16 : decode J_X12_bearsAs.2.1 16 = .ok (.invokevirtual 375, 3) := by decide +kernel
theorem d_X12_bearsAs_19 : decode J_X12_bearsAs.2.1 19 = .ok (.ireturn, 1) := by decide +kernel
theorem d_X12_bearsAs_20 : decode J_X12_bearsAs.2.1 20 = .ok (.iload_n 1, 1) := by decide +kernel
theorem d_X12_bearsAs_21 : decode J_X12_bearsAs.2.1 21 = .ok (.iconst 1, 1) := by decide +kernel
theorem d_X12_bearsAs_22 : decode J_X12_bearsAs.2.1 22 = .ok (.if_icmp .ne 26, 3) := by decide +kernel
theorem d_X12_bearsAs_25 : decode J_X12_bearsAs.2.1 25 = .ok (.aload_n 0, 1) := by decide +kernel
theorem d_X12_bearsAs_26 : decode J_X12_bearsAs.2.1 26 = .ok (.bipush 20, 2) := by decide +kernel
theorem d_X12_bearsAs_28 : decode J_X12_bearsAs.2.1 28 = .ok (.invokevirtual 360, 3) := by decide +kernel
theorem d_X12_bearsAs_31 : decode J_X12_bearsAs.2.1 31 = .ok (.aload_n 0, 1) := by decide +kernel
theorem d_X12_bearsAs_32 : decode J_X12_bearsAs.2.1 32 = .ok (.iconst 0, 1) := by decide +kernel
theorem d_X12_bearsAs_33 : decode J_X12_bearsAs.2.1 33 = .ok (.iload_n 2, 1) := by decide +kernel
theorem d_X12_bearsAs_34 : decode J_X12_bearsAs.2.1 34 = .ok (.invokevirtual 375, 3) := by decide +kernel
theorem d_X12_bearsAs_37 : decode J_X12_bearsAs.2.1 37 = .ok (.aload_n 0, 1) := by decide +kernel
theorem d_X12_bearsAs_38 : decode J_X12_bearsAs.2.1 38 = .ok (.getfield 58, 3) := by decide +kernel
theorem d_X12_bearsAs_41 : decode J_X12_bearsAs.2.1 41 = .ok (.aload_n 0, 1) := by decide +kernel
theorem d_X12_bearsAs_42 : decode J_X12_bearsAs.2.1 42 = .ok (.getfield 366, 3) := by decide +kernel
theorem d_X12_bearsAs_45 : decode J_X12_bearsAs.2.1 45 = .ok (.iaload, 1) := by decide +kernel
theorem d_X12_bearsAs_46 : decode J_X12_bearsAs.2.1 46 = .ok (.iadd, 1) := by decide +kernel
theorem d_X12_bearsAs_47 : decode J_X12_bearsAs.2.1 47 = .ok (.ireturn, 1) := by decide +kernel
theorem d_X12_bearsAs_48 : decode J_X12_bearsAs.2.1 48 = .ok (.iload_n 1, 1) := by decide +kernel
theorem d_X12_bearsAs_49 : decode J_X12_bearsAs.2.1 49 = .ok (.iconst 5, 1) := by decide +kernel
theorem d_X12_bearsAs_50 : decode J_X12_bearsAs.2.1 50 = .ok (.if_icmp .ne 28, 3) := by decide +kernel
theorem d_X12_bearsAs_53 : decode J_X12_bearsAs.2.1 53 = .ok (.aload_n 0, 1) := by decide +kernel
theorem d_X12_bearsAs_54 : decode J_X12_bearsAs.2.1 54 = .ok (.bipush 60, 2) := by decide +kernel
theorem d_X12_bearsAs_56 : decode J_X12_bearsAs.2.1 56 = .ok (.invokevirtual 360, 3) := by decide +kernel
theorem d_X12_bearsAs_59 : decode J_X12_bearsAs.2.1 59 = .ok (.aload_n 0, 1) := by decide +kernel
theorem d_X12_bearsAs_60 : decode J_X12_bearsAs.2.1 60 = .ok (.iconst 0, 1) := by decide +kernel
theorem d_X12_bearsAs_61 : decode J_X12_bearsAs.2.1 61 = .ok (.iload_n 2, 1) := by decide +kernel
theorem d_X12_bearsAs_62 : decode J_X12_bearsAs.2.1 62 = .ok (.invokevirtual 375, 3) := by decide +kernel
theorem d_X12_bearsAs_65 : decode J_X12_bearsAs.2.1 65 = .ok (.istore_n 3, 1) := by decide +kernel
theorem d_X12_bearsAs_66 : decode J_X12_bearsAs.2.1 66 = .ok (.iload_n 3, 1) := by decide +kernel
theorem d_X12_bearsAs_67 : decode J_X12_bearsAs.2.1 67 = .ok (.aload_n 0, 1) := by decide +kernel
theorem d_X12_bearsAs_68 : decode J_X12_bearsAs.2.1 68 = .ok (.aload_n 0, 1) := by decide +kernel
theorem d_X12_bearsAs_69 : decode J_X12_bearsAs.2.1 69 = .ok (.getfield 372, 3) := by decide +kernel
theorem d_X12_bearsAs_72 : decode J_X12_bearsAs.2.1 72 = .ok (.iconst 1, 1) := by decide +kernel
theorem d_X12_bearsAs_73 : decode J_X12_bearsAs.2.1 73 = .ok (.invokevirtual 363, 3) := by decide +kernel
theorem d_X12_bearsAs_76 : decode J_X12_bearsAs.2.1 76 = .ok (.isub, 1) := by decide +kernel
theorem d_X12_bearsAs_77 : decode J_X12_bearsAs.2.1 77 = .ok (.ireturn, 1) := by decide +kernel
theorem d_X12_bearsAs_78 : decode J_X12_bearsAs.2.1 78 = .ok (.aload_n 0, 1) := by decide +kernel
theorem d_X12_bearsAs_79 : decode J_X12_bearsAs.2.1 79 = .ok (.bipush 11, 2) := by decide +kernel
theorem d_X12_bearsAs_81 : decode J_X12_bearsAs.2.1 81 = .ok (.invokevirtual 360, 3) := by decide +kernel
theorem d_X12_bearsAs_84 : decode J_X12_bearsAs.2.1 84 = .ok (.iload_n 2, 1) := by decide +kernel
theorem d_X12_bearsAs_85 : decode J_X12_bearsAs.2.1 85 = .ok (.aload_n 0, 1) := by decide +kernel
theorem d_X12_bearsAs_86 : decode J_X12_bearsAs.2.1 86 = .ok (.getfield 366, 3) := by decide +kernel
theorem d_X12_bearsAs_89 : decode J_X12_bearsAs.2.1 89 = .ok (.ixor, 1) := by decide +kernel
theorem d_X12_bearsAs_90 : decode J_X12_bearsAs.2.1 90 = .ok (.ireturn, 1) := by decide +kernel
def f_X12_bearsAs (N : Nat) (K : oK) : Nat → Int32 → Int32 → oM → Option (Int32 × oM)
  | 0, _, _, _ => none
  | n + 1, p1, p2, M => (fun rS => (if p1 = 3 then oB2 (f_X12_begins N K (41 : Int32) M) (fun v23 M24 => oB2 (rS (1 : Int32) (p2 + 1) M24) (fun v26 M27 => some (v26, M27))) else (if p1 = 1 then oB2 (f_X12_begins N K (20 : Int32) M) (fun v16 M17 => oB2 (rS (0 : Int32) p2 M17) (fun v19 M20 => oIx ((M20.1 59 61)) 20 (some ((v19 + (M20.1 76 ((M20.1 59 61) : Int32).toNatClampNeg)), M20)))) else (if p1 = 5 then oB2 (f_X12_begins N K (60 : Int32) M) (fun v7 M8 => oB2 (rS (0 : Int32) p2 M8) (fun v10 M11 => oB2 (f_X12_liftsAs N K 3 (M11.1 59 60) (1 : Int32) M11) (fun v13 M14 => some ((v10 - v13), M14)))) else oB2 (f_X12_begins N K (11 : Int32) M) (fun v4 M5 => some ((p2 ^^^ (M5.1 59 61)), M5)))))) (f_X12_bearsAs N K n)
set_option maxRecDepth 20000 in
theorem v_X12_bearsAs_R {X : oX} {N : Nat} {K : oK} (hK : oSR K) : ∀ (n : Nat) (p1 : Int32) (p2 : Int32) (M : oM) (v : Int32) (M' : oM) , f_X12_bearsAs N K n p1 p2 M = some (v, M') → oMet X (6 + n) J_X12_bearsAs [(.ref 59), (.int p1), (.int p2)] K M (some (.int v)) K M' := by
  intro n
  induction n with
  | zero =>
    intro p1 p2 M v M'  h
    cases h
  | succ n hS0 =>
    intro p1 p2 M v M'  h
    refine oMet_of (L := [some (.ref 59), some (.int p1), some (.int p2), none]) jJ_X12_bearsAs.1 rfl (Nat.le_of_ble_eq_true rfl) rfl (Nat.le_refl _) (Nat.le_refl _) ?_
    have hd : 6 ≤ 6 + (n + 1) := Nat.le_add_right _ _
    generalize hde : 6 + (n + 1) = d at hd ⊢
    have hS : ∃ d', d' < d ∧ ∀ (p1 : Int32) (p2 : Int32) (M : oM) (v : Int32) (M' : oM) , f_X12_bearsAs N K n p1 p2 M = some (v, M') → oMet X d' J_X12_bearsAs [(.ref 59), (.int p1), (.int p2)] K M (some (.int v)) K M' := ⟨6 + n, by omega, hS0⟩
    refine oe_iload_n (pc := 0) d_X12_bearsAs_0 rfl ?_
    refine oe_iconst (pc := 1) (v := 3) d_X12_bearsAs_1 rfl ?_
    refine oe_icmp_ne (pc := 2) (tgt := 20) d_X12_bearsAs_2 (by decide) (fun c1 => ?_) (fun c1 => ?_)
    · replace h := (if_neg c1).symm.trans h
      refine oe_iload_n (pc := 20) d_X12_bearsAs_20 rfl ?_
      refine oe_iconst (pc := 21) (v := 1) d_X12_bearsAs_21 rfl ?_
      refine oe_icmp_ne (pc := 22) (tgt := 48) d_X12_bearsAs_22 (by decide) (fun c2 => ?_) (fun c2 => ?_)
      · replace h := (if_neg c2).symm.trans h
        refine oe_iload_n (pc := 48) d_X12_bearsAs_48 rfl ?_
        refine oe_iconst (pc := 49) (v := 5) d_X12_bearsAs_49 rfl ?_
        refine oe_icmp_ne (pc := 50) (tgt := 78) d_X12_bearsAs_50 (by decide) (fun c3 => ?_) (fun c3 => ?_)
        · replace h := (if_neg c3).symm.trans h
          refine oe_aload_n (pc := 78) d_X12_bearsAs_78 rfl ?_
          refine oe_bipush (pc := 79) (v := 11) d_X12_bearsAs_79 rfl ?_
          obtain ⟨v4, M5, q6, h⟩ := oB2_some h
          refine oe_callV (pc := 81) (ci := 12) d_X12_bearsAs_81 (v_X12_begins hK  q6) (by omega) ml_X12_360 jJ_X12_begins rfl rfl (oLt hK (a := 59) (Nat.le_of_ble_eq_true rfl)) (oSho hK (a := 59) (Nat.le_of_ble_eq_true rfl) rfl) ock12 rfl (Nat.le_of_ble_eq_true rfl) ⟨Nat.le_refl _, Nat.le_refl _⟩ ⟨Nat.le_refl _, Nat.le_refl _⟩ ?_
          refine oe_iload_n (pc := 84) d_X12_bearsAs_84 rfl ?_
          refine oe_aload_n (pc := 85) d_X12_bearsAs_85 rfl ?_
          refine oe_getf (pc := 86) d_X12_bearsAs_86 fl_X12_366 ock12 (k := 61) (Nat.le_of_ble_eq_true rfl) rfl (oLt hK (a := 59) (Nat.le_of_ble_eq_true rfl)) (oSho hK (a := 59) (Nat.le_of_ble_eq_true rfl) rfl) ?_
          refine oe_ixor (pc := 89) d_X12_bearsAs_89 ?_
          obtain ⟨rfl, rfl⟩ := oRes h
          exact oe_iret (pc := 90) d_X12_bearsAs_90 ⟨_, rfl, rfl⟩
        · replace h := (if_pos c3).symm.trans h
          refine oe_aload_n (pc := 53) d_X12_bearsAs_53 rfl ?_
          refine oe_bipush (pc := 54) (v := 60) d_X12_bearsAs_54 rfl ?_
          obtain ⟨v7, M8, q9, h⟩ := oB2_some h
          refine oe_callV (pc := 56) (ci := 12) d_X12_bearsAs_56 (v_X12_begins hK  q9) (by omega) ml_X12_360 jJ_X12_begins rfl rfl (oLt hK (a := 59) (Nat.le_of_ble_eq_true rfl)) (oSho hK (a := 59) (Nat.le_of_ble_eq_true rfl) rfl) ock12 rfl (Nat.le_of_ble_eq_true rfl) ⟨Nat.le_refl _, Nat.le_refl _⟩ ⟨Nat.le_refl _, Nat.le_refl _⟩ ?_
          refine oe_aload_n (pc := 59) d_X12_bearsAs_59 rfl ?_
          refine oe_iconst (pc := 60) (v := 0) d_X12_bearsAs_60 rfl ?_
          refine oe_iload_n (pc := 61) d_X12_bearsAs_61 rfl ?_
          obtain ⟨v10, M11, q12, h⟩ := oB2_some h
          obtain ⟨d', hdl, hS9⟩ := id hS
          refine oe_callV (pc := 62) (ci := 12) d_X12_bearsAs_62 (hS9 _ _ _ _ _  q12) hdl ml_X12_375 jJ_X12_bearsAs rfl rfl (oLt hK (a := 59) (Nat.le_of_ble_eq_true rfl)) (oSho hK (a := 59) (Nat.le_of_ble_eq_true rfl) rfl) ock12 rfl (Nat.le_of_ble_eq_true rfl) ⟨Nat.le_refl _, Nat.le_refl _⟩ ⟨Nat.le_refl _, Nat.le_refl _⟩ ?_
          refine oe_istore_n (pc := 65) (L2 := [_, _, _, _]) d_X12_bearsAs_65 rfl rfl (Nat.le_of_ble_eq_true rfl) rfl ?_
          refine oe_iload_n (pc := 66) d_X12_bearsAs_66 rfl ?_
          refine oe_aload_n (pc := 67) d_X12_bearsAs_67 rfl ?_
          refine oe_aload_n (pc := 68) d_X12_bearsAs_68 rfl ?_
          refine oe_getf (pc := 69) d_X12_bearsAs_69 fl_X12_372 ock12 (k := 60) (Nat.le_of_ble_eq_true rfl) rfl (oLt hK (a := 59) (Nat.le_of_ble_eq_true rfl)) (oSho hK (a := 59) (Nat.le_of_ble_eq_true rfl) rfl) ?_
          refine oe_iconst (pc := 72) (v := 1) d_X12_bearsAs_72 rfl ?_
          obtain ⟨v13, M14, q15, h⟩ := oB2_some h
          refine oe_callV (pc := 73) (ci := 12) d_X12_bearsAs_73 (v_X12_liftsAs_R hK 3 _ _ _ _ _  q15) (by omega) ml_X12_363 jJ_X12_liftsAs rfl rfl (oLt hK (a := 59) (Nat.le_of_ble_eq_true rfl)) (oSho hK (a := 59) (Nat.le_of_ble_eq_true rfl) rfl) ock12 rfl (Nat.le_of_ble_eq_true rfl) ⟨Nat.le_refl _, Nat.le_refl _⟩ ⟨Nat.le_refl _, Nat.le_refl _⟩ ?_
          refine oe_isub (pc := 76) d_X12_bearsAs_76 ?_
          obtain ⟨rfl, rfl⟩ := oRes h
          exact oe_iret (pc := 77) d_X12_bearsAs_77 ⟨_, rfl, rfl⟩
      · replace h := (if_pos c2).symm.trans h
        refine oe_aload_n (pc := 25) d_X12_bearsAs_25 rfl ?_
        refine oe_bipush (pc := 26) (v := 20) d_X12_bearsAs_26 rfl ?_
        obtain ⟨v16, M17, q18, h⟩ := oB2_some h
        refine oe_callV (pc := 28) (ci := 12) d_X12_bearsAs_28 (v_X12_begins hK  q18) (by omega) ml_X12_360 jJ_X12_begins rfl rfl (oLt hK (a := 59) (Nat.le_of_ble_eq_true rfl)) (oSho hK (a := 59) (Nat.le_of_ble_eq_true rfl) rfl) ock12 rfl (Nat.le_of_ble_eq_true rfl) ⟨Nat.le_refl _, Nat.le_refl _⟩ ⟨Nat.le_refl _, Nat.le_refl _⟩ ?_
        refine oe_aload_n (pc := 31) d_X12_bearsAs_31 rfl ?_
        refine oe_iconst (pc := 32) (v := 0) d_X12_bearsAs_32 rfl ?_
        refine oe_iload_n (pc := 33) d_X12_bearsAs_33 rfl ?_
        obtain ⟨v19, M20, q21, h⟩ := oB2_some h
        obtain ⟨d', hdl, hS9⟩ := id hS
        refine oe_callV (pc := 34) (ci := 12) d_X12_bearsAs_34 (hS9 _ _ _ _ _  q21) hdl ml_X12_375 jJ_X12_bearsAs rfl rfl (oLt hK (a := 59) (Nat.le_of_ble_eq_true rfl)) (oSho hK (a := 59) (Nat.le_of_ble_eq_true rfl) rfl) ock12 rfl (Nat.le_of_ble_eq_true rfl) ⟨Nat.le_refl _, Nat.le_refl _⟩ ⟨Nat.le_refl _, Nat.le_refl _⟩ ?_
        refine oe_aload_n (pc := 37) d_X12_bearsAs_37 rfl ?_
        refine oe_getr (pc := 38) d_X12_bearsAs_38 fl_X12_58 ock12 (k := 24) (b := 76) (Nat.le_of_ble_eq_true rfl) (by decide) (oLt hK (a := 59) (Nat.le_of_ble_eq_true rfl)) (oSho hK (a := 59) (Nat.le_of_ble_eq_true rfl) rfl) (oRfK hK rfl) ?_
        refine oe_aload_n (pc := 41) d_X12_bearsAs_41 rfl ?_
        refine oe_getf (pc := 42) d_X12_bearsAs_42 fl_X12_366 ock12 (k := 61) (Nat.le_of_ble_eq_true rfl) rfl (oLt hK (a := 59) (Nat.le_of_ble_eq_true rfl)) (oSho hK (a := 59) (Nat.le_of_ble_eq_true rfl) rfl) ?_
        obtain ⟨i22, h⟩ := oIx_some h
        refine oe_iald (pc := 45) d_X12_bearsAs_45 (oLt hK (a := 76) (Nat.le_of_ble_eq_true rfl)) (oSha hK (a := 76) (Nat.le_of_ble_eq_true rfl) rfl) i22 ?_
        refine oe_iadd (pc := 46) d_X12_bearsAs_46 ?_
        obtain ⟨rfl, rfl⟩ := oRes h
        exact oe_iret (pc := 47) d_X12_bearsAs_47 ⟨_, rfl, rfl⟩
    · replace h := (if_pos c1).symm.trans h
      refine oe_aload_n (pc := 5) d_X12_bearsAs_5 rfl ?_
      refine oe_bipush (pc := 6) (v := 41) d_X12_bearsAs_6 rfl ?_
      obtain ⟨v23, M24, q25, h⟩ := oB2_some h
      refine oe_callV (pc := 8) (ci := 12) d_X12_bearsAs_8 (v_X12_begins hK  q25) (by omega) ml_X12_360 jJ_X12_begins rfl rfl (oLt hK (a := 59) (Nat.le_of_ble_eq_true rfl)) (oSho hK (a := 59) (Nat.le_of_ble_eq_true rfl) rfl) ock12 rfl (Nat.le_of_ble_eq_true rfl) ⟨Nat.le_refl _, Nat.le_refl _⟩ ⟨Nat.le_refl _, Nat.le_refl _⟩ ?_
      refine oe_aload_n (pc := 11) d_X12_bearsAs_11 rfl ?_
      refine oe_iconst (pc := 12) (v := 1) d_X12_bearsAs_12 rfl ?_
      refine oe_iload_n (pc := 13) d_X12_bearsAs_13 rfl ?_
      refine oe_iconst (pc := 14) (v := 1) d_X12_bearsAs_14 rfl ?_
      refine oe_iadd (pc := 15) d_X12_bearsAs_15 ?_
      obtain ⟨v26, M27, q28, h⟩ := oB2_some h
      obtain ⟨d', hdl, hS9⟩ := id hS
      refine oe_callV (pc := 16) (ci := 12) d_X12_bearsAs_16 (hS9 _ _ _ _ _  q28) hdl ml_X12_375 jJ_X12_bearsAs rfl rfl (oLt hK (a := 59) (Nat.le_of_ble_eq_true rfl)) (oSho hK (a := 59) (Nat.le_of_ble_eq_true rfl) rfl) ock12 rfl (Nat.le_of_ble_eq_true rfl) ⟨Nat.le_refl _, Nat.le_refl _⟩ ⟨Nat.le_refl _, Nat.le_refl _⟩ ?_
      obtain ⟨rfl, rfl⟩ := oRes h
      exact oe_iret (pc := 19) d_X12_bearsAs_19 ⟨_, rfl, rfl⟩
theorem d_X12_losesAs_0 : decode J_X12_losesAs.2.1 0 = .ok (.iload_n 1, 1) := by decide +kernel
theorem d_X12_losesAs_1 : decode J_X12_losesAs.2.1 1 = .ok (.iconst 4, 1) := by decide +kernel
theorem d_X12_losesAs_2 : decode J_X12_losesAs.2.1 2 = .ok (.if_icmp .ne 28, 3) := by decide +kernel
theorem d_X12_losesAs_5 : decode J_X12_losesAs.2.1 5 = .ok (.aload_n 0, 1) := by decide +kernel
theorem d_X12_losesAs_6 : decode J_X12_losesAs.2.1 6 = .ok (.bipush 51, 2) := by decide +kernel
theorem d_X12_losesAs_8 : decode J_X12_losesAs.2.1 8 = .ok (.invokevirtual 360, 3) := by decide +kernel
theorem d_X12_losesAs_11 : decode J_X12_losesAs.2.1 11 = .ok (.aload_n 0, 1) := by decide +kernel
theorem d_X12_losesAs_12 : decode J_X12_losesAs.2.1 12 = .ok (.iconst 2, 1) := by decide +kernel
theorem d_X12_losesAs_13 : decode J_X12_losesAs.2.1 13 = .ok (.iload_n 2, 1) := by decide +kernel
theorem d_X12_losesAs_14 : decode J_X12_losesAs.2.1 14 = .ok (.invokevirtual 369, 3) := by decide +kernel
theorem d_X12_losesAs_17 : decode J_X12_losesAs.2.1 17 = .ok (.istore_n 3, 1) := by decide +kernel
theorem d_X12_losesAs_18 : decode J_X12_losesAs.2.1 18 = .ok (.iload_n 3, 1) := by decide +kernel
theorem d_X12_losesAs_19 : decode J_X12_losesAs.2.1 19 = .ok (.aload_n 0, 1) := by decide +kernel
theorem d_X12_losesAs_20 : decode J_X12_losesAs.2.1 20 = .ok (.aload_n 0, 1) := by decide +kernel
theorem d_X12_losesAs_21 : decode J_X12_losesAs.2.1 21 = .ok (.getfield 372, 3) := by decide +kernel
theorem d_X12_losesAs_24 : decode J_X12_losesAs.2.1 24 = .ok (.iconst 2, 1) := by decide +kernel
theorem d_X12_losesAs_25 : decode J_X12_losesAs.2.1 25 = .ok (.invokevirtual 375, 3) := by decide +kernel
theorem d_X12_losesAs_28 : decode J_X12_losesAs.2.1 28 = .ok (.iadd, 1) := by decide +kernel
theorem d_X12_losesAs_29 : decode J_X12_losesAs.2.1 29 = .ok (.ireturn, 1) := by decide +kernel
theorem d_X12_losesAs_30 : decode J_X12_losesAs.2.1 30 = .ok (.iload_n 1, 1) := by decide +kernel
theorem d_X12_losesAs_31 : decode J_X12_losesAs.2.1 31 = .ok (.iconst 2, 1) := by decide +kernel
theorem d_X12_losesAs_32 : decode J_X12_losesAs.2.1 32 = .ok (.if_icmp .ne 17, 3) := by decide +kernel
theorem d_X12_losesAs_35 : decode J_X12_losesAs.2.1 35 = .ok (.aload_n 0, 1) := by decide +kernel
theorem d_X12_losesAs_36 : decode J_X12_losesAs.2.1 36 = .ok (.bipush 30, 2) := by decide +kernel
theorem d_X12_losesAs_38 : decode J_X12_losesAs.2.1 38 = .ok (.invokevirtual 360, 3) := by decide +kernel
theorem d_X12_losesAs_41 : decode J_X12_losesAs.2.1 41 = .ok (.aload_n 0, 1) := by decide +kernel
theorem d_X12_losesAs_42 : decode J_X12_losesAs.2.1 42 = .ok (.iconst 0, 1) := by decide +kernel
theorem d_X12_losesAs_43 : decode J_X12_losesAs.2.1 43 = .ok (.iload_n 2, 1) := by decide +kernel
theorem d_X12_losesAs_44 : decode J_X12_losesAs.2.1 44 = .ok (.invokevirtual 369, 3) := by decide +kernel
theorem d_X12_losesAs_47 : decode J_X12_losesAs.2.1 47 = .ok (.ineg, 1) := by decide +kernel
theorem d_X12_losesAs_48 : decode J_X12_losesAs.2.1 48 = .ok (.ireturn, 1) := by decide +kernel
theorem d_X12_losesAs_49 : decode J_X12_losesAs.2.1 49 = .ok (.aload_n 0, 1) := by decide +kernel
theorem d_X12_losesAs_50 : decode J_X12_losesAs.2.1 50 = .ok (.bipush 10, 2) := by decide +kernel
theorem d_X12_losesAs_52 : decode J_X12_losesAs.2.1 52 = .ok (.invokevirtual 360, 3) := by decide +kernel
theorem d_X12_losesAs_55 : decode J_X12_losesAs.2.1 55 = .ok (.aload_n 0, 1) := by decide +kernel
theorem d_X12_losesAs_56 : decode J_X12_losesAs.2.1 56 = .ok (.aload_n 0, 1) := by decide +kernel
theorem d_X12_losesAs_57 : decode J_X12_losesAs.2.1 57 = .ok (.getfield 372, 3) := by decide +kernel
theorem d_X12_losesAs_60 : decode J_X12_losesAs.2.1 60 = .ok (.iload_n 2, 1) := by decide +kernel
theorem d_X12_losesAs_61 : decode J_X12_losesAs.2.1 61 = .ok (.invokevirtual 363, 3) := by decide +kernel
theorem d_X12_losesAs_64 : decode J_X12_losesAs.2.1 64 = .ok (.iconst 2, 1) := by decide +kernel
theorem d_X12_losesAs_65 : decode J_X12_losesAs.2.1 65 = .ok (.imul, 1) := by decide +kernel
theorem d_X12_losesAs_66 : decode J_X12_losesAs.2.1 66 = .ok (.ireturn, 1) := by decide +kernel
def f_X12_losesAs (N : Nat) (K : oK) : Nat → Int32 → Int32 → oM → Option (Int32 × oM)
  | 0, _, _, _ => none
  | n + 1, p1, p2, M => (fun rS => (if p1 = 4 then oB2 (f_X12_begins N K (51 : Int32) M) (fun v15 M16 => oB2 (rS (2 : Int32) p2 M16) (fun v18 M19 => oB2 (f_X12_bearsAs N K 3 (M19.1 59 60) (2 : Int32) M19) (fun v21 M22 => some ((v18 + v21), M22)))) else (if p1 = 2 then oB2 (f_X12_begins N K (30 : Int32) M) (fun v9 M10 => oB2 (rS (0 : Int32) p2 M10) (fun v12 M13 => some ((-v12), M13))) else oB2 (f_X12_begins N K (10 : Int32) M) (fun v3 M4 => oB2 (f_X12_liftsAs N K 3 (M4.1 59 60) p2 M4) (fun v6 M7 => some ((v6 * 2), M7)))))) (f_X12_losesAs N K n)
set_option maxRecDepth 20000 in
theorem v_X12_losesAs_R {X : oX} {N : Nat} {K : oK} (hK : oSR K) : ∀ (n : Nat) (p1 : Int32) (p2 : Int32) (M : oM) (v : Int32) (M' : oM) , f_X12_losesAs N K n p1 p2 M = some (v, M') → oMet X (10 + n) J_X12_losesAs [(.ref 59), (.int p1), (.int p2)] K M (some (.int v)) K M' := by
  intro n
  induction n with
  | zero =>
    intro p1 p2 M v M'  h
    cases h
  | succ n hS0 =>
    intro p1 p2 M v M'  h
    refine oMet_of (L := [some (.ref 59), some (.int p1), some (.int p2), none]) jJ_X12_losesAs.1 rfl (Nat.le_of_ble_eq_true rfl) rfl (Nat.le_refl _) (Nat.le_refl _) ?_
    have hd : 10 ≤ 10 + (n + 1) := Nat.le_add_right _ _
    generalize hde : 10 + (n + 1) = d at hd ⊢
    have hS : ∃ d', d' < d ∧ ∀ (p1 : Int32) (p2 : Int32) (M : oM) (v : Int32) (M' : oM) , f_X12_losesAs N K n p1 p2 M = some (v, M') → oMet X d' J_X12_losesAs [(.ref 59), (.int p1), (.int p2)] K M (some (.int v)) K M' := ⟨10 + n, by omega, hS0⟩
    refine oe_iload_n (pc := 0) d_X12_losesAs_0 rfl ?_
    refine oe_iconst (pc := 1) (v := 4) d_X12_losesAs_1 rfl ?_
    refine oe_icmp_ne (pc := 2) (tgt := 30) d_X12_losesAs_2 (by decide) (fun c1 => ?_) (fun c1 => ?_)
    · replace h := (if_neg c1).symm.trans h
      refine oe_iload_n (pc := 30) d_X12_losesAs_30 rfl ?_
      refine oe_iconst (pc := 31) (v := 2) d_X12_losesAs_31 rfl ?_
      refine oe_icmp_ne (pc := 32) (tgt := 49) d_X12_losesAs_32 (by decide) (fun c2 => ?_) (fun c2 => ?_)
      · replace h := (if_neg c2).symm.trans h
        refine oe_aload_n (pc := 49) d_X12_losesAs_49 rfl ?_
        refine oe_bipush (pc := 50) (v := 10) d_X12_losesAs_50 rfl ?_
        obtain ⟨v3, M4, q5, h⟩ := oB2_some h
        refine oe_callV (pc := 52) (ci := 12) d_X12_losesAs_52 (v_X12_begins hK  q5) (by omega) ml_X12_360 jJ_X12_begins rfl rfl (oLt hK (a := 59) (Nat.le_of_ble_eq_true rfl)) (oSho hK (a := 59) (Nat.le_of_ble_eq_true rfl) rfl) ock12 rfl (Nat.le_of_ble_eq_true rfl) ⟨Nat.le_refl _, Nat.le_refl _⟩ ⟨Nat.le_refl _, Nat.le_refl _⟩ ?_
        refine oe_aload_n (pc := 55) d_X12_losesAs_55 rfl ?_
        refine oe_aload_n (pc := 56) d_X12_losesAs_56 rfl ?_
        refine oe_getf (pc := 57) d_X12_losesAs_57 fl_X12_372 ock12 (k := 60) (Nat.le_of_ble_eq_true rfl) rfl (oLt hK (a := 59) (Nat.le_of_ble_eq_true rfl)) (oSho hK (a := 59) (Nat.le_of_ble_eq_true rfl) rfl) ?_
        refine oe_iload_n (pc := 60) d_X12_losesAs_60 rfl ?_
        obtain ⟨v6, M7, q8, h⟩ := oB2_some h
        refine oe_callV (pc := 61) (ci := 12) d_X12_losesAs_61 (v_X12_liftsAs_R hK 3 _ _ _ _ _  q8) (by omega) ml_X12_363 jJ_X12_liftsAs rfl rfl (oLt hK (a := 59) (Nat.le_of_ble_eq_true rfl)) (oSho hK (a := 59) (Nat.le_of_ble_eq_true rfl) rfl) ock12 rfl (Nat.le_of_ble_eq_true rfl) ⟨Nat.le_refl _, Nat.le_refl _⟩ ⟨Nat.le_refl _, Nat.le_refl _⟩ ?_
        refine oe_iconst (pc := 64) (v := 2) d_X12_losesAs_64 rfl ?_
        refine oe_imul (pc := 65) d_X12_losesAs_65 ?_
        obtain ⟨rfl, rfl⟩ := oRes h
        exact oe_iret (pc := 66) d_X12_losesAs_66 ⟨_, rfl, rfl⟩
      · replace h := (if_pos c2).symm.trans h
        refine oe_aload_n (pc := 35) d_X12_losesAs_35 rfl ?_
        refine oe_bipush (pc := 36) (v := 30) d_X12_losesAs_36 rfl ?_
        obtain ⟨v9, M10, q11, h⟩ := oB2_some h
        refine oe_callV (pc := 38) (ci := 12) d_X12_losesAs_38 (v_X12_begins hK  q11) (by omega) ml_X12_360 jJ_X12_begins rfl rfl (oLt hK (a := 59) (Nat.le_of_ble_eq_true rfl)) (oSho hK (a := 59) (Nat.le_of_ble_eq_true rfl) rfl) ock12 rfl (Nat.le_of_ble_eq_true rfl) ⟨Nat.le_refl _, Nat.le_refl _⟩ ⟨Nat.le_refl _, Nat.le_refl _⟩ ?_
        refine oe_aload_n (pc := 41) d_X12_losesAs_41 rfl ?_
        refine oe_iconst (pc := 42) (v := 0) d_X12_losesAs_42 rfl ?_
        refine oe_iload_n (pc := 43) d_X12_losesAs_43 rfl ?_
        obtain ⟨v12, M13, q14, h⟩ := oB2_some h
        obtain ⟨d', hdl, hS9⟩ := id hS
        refine oe_callV (pc := 44) (ci := 12) d_X12_losesAs_44 (hS9 _ _ _ _ _  q14) hdl ml_X12_369 jJ_X12_losesAs rfl rfl (oLt hK (a := 59) (Nat.le_of_ble_eq_true rfl)) (oSho hK (a := 59) (Nat.le_of_ble_eq_true rfl) rfl) ock12 rfl (Nat.le_of_ble_eq_true rfl) ⟨Nat.le_refl _, Nat.le_refl _⟩ ⟨Nat.le_refl _, Nat.le_refl _⟩ ?_
        refine oe_ineg (pc := 47) d_X12_losesAs_47 ?_
        obtain ⟨rfl, rfl⟩ := oRes h
        exact oe_iret (pc := 48) d_X12_losesAs_48 ⟨_, rfl, rfl⟩
    · replace h := (if_pos c1).symm.trans h
      refine oe_aload_n (pc := 5) d_X12_losesAs_5 rfl ?_
      refine oe_bipush (pc := 6) (v := 51) d_X12_losesAs_6 rfl ?_
      obtain ⟨v15, M16, q17, h⟩ := oB2_some h
      refine oe_callV (pc := 8) (ci := 12) d_X12_losesAs_8 (v_X12_begins hK  q17) (by omega) ml_X12_360 jJ_X12_begins rfl rfl (oLt hK (a := 59) (Nat.le_of_ble_eq_true rfl)) (oSho hK (a := 59) (Nat.le_of_ble_eq_true rfl) rfl) ock12 rfl (Nat.le_of_ble_eq_true rfl) ⟨Nat.le_refl _, Nat.le_refl _⟩ ⟨Nat.le_refl _, Nat.le_refl _⟩ ?_
      refine oe_aload_n (pc := 11) d_X12_losesAs_11 rfl ?_
      refine oe_iconst (pc := 12) (v := 2) d_X12_losesAs_12 rfl ?_
      refine oe_iload_n (pc := 13) d_X12_losesAs_13 rfl ?_
      obtain ⟨v18, M19, q20, h⟩ := oB2_some h
      obtain ⟨d', hdl, hS9⟩ := id hS
      refine oe_callV (pc := 14) (ci := 12) d_X12_losesAs_14 (hS9 _ _ _ _ _  q20) hdl ml_X12_369 jJ_X12_losesAs rfl rfl (oLt hK (a := 59) (Nat.le_of_ble_eq_true rfl)) (oSho hK (a := 59) (Nat.le_of_ble_eq_true rfl) rfl) ock12 rfl (Nat.le_of_ble_eq_true rfl) ⟨Nat.le_refl _, Nat.le_refl _⟩ ⟨Nat.le_refl _, Nat.le_refl _⟩ ?_
      refine oe_istore_n (pc := 17) (L2 := [_, _, _, _]) d_X12_losesAs_17 rfl rfl (Nat.le_of_ble_eq_true rfl) rfl ?_
      refine oe_iload_n (pc := 18) d_X12_losesAs_18 rfl ?_
      refine oe_aload_n (pc := 19) d_X12_losesAs_19 rfl ?_
      refine oe_aload_n (pc := 20) d_X12_losesAs_20 rfl ?_
      refine oe_getf (pc := 21) d_X12_losesAs_21 fl_X12_372 ock12 (k := 60) (Nat.le_of_ble_eq_true rfl) rfl (oLt hK (a := 59) (Nat.le_of_ble_eq_true rfl)) (oSho hK (a := 59) (Nat.le_of_ble_eq_true rfl) rfl) ?_
      refine oe_iconst (pc := 24) (v := 2) d_X12_losesAs_24 rfl ?_
      obtain ⟨v21, M22, q23, h⟩ := oB2_some h
      refine oe_callV (pc := 25) (ci := 12) d_X12_losesAs_25 (v_X12_bearsAs_R hK 3 _ _ _ _ _  q23) (by omega) ml_X12_375 jJ_X12_bearsAs rfl rfl (oLt hK (a := 59) (Nat.le_of_ble_eq_true rfl)) (oSho hK (a := 59) (Nat.le_of_ble_eq_true rfl) rfl) ock12 rfl (Nat.le_of_ble_eq_true rfl) ⟨Nat.le_refl _, Nat.le_refl _⟩ ⟨Nat.le_refl _, Nat.le_refl _⟩ ?_
      refine oe_iadd (pc := 28) d_X12_losesAs_28 ?_
      obtain ⟨rfl, rfl⟩ := oRes h
      exact oe_iret (pc := 29) d_X12_losesAs_29 ⟨_, rfl, rfl⟩
theorem d_X12_tellsAs_0 : decode J_X12_tellsAs.2.1 0 = .ok (.iload_n 1, 1) := by decide +kernel
theorem d_X12_tellsAs_1 : decode J_X12_tellsAs.2.1 1 = .ok (.iconst 4, 1) := by decide +kernel
theorem d_X12_tellsAs_2 : decode J_X12_tellsAs.2.1 2 = .ok (.if_icmp .ne 18, 3) := by decide +kernel
theorem d_X12_tellsAs_5 : decode J_X12_tellsAs.2.1 5 = .ok (.aload_n 0, 1) := by decide +kernel
theorem d_X12_tellsAs_6 : decode J_X12_tellsAs.2.1 6 = .ok (.bipush 50, 2) := by decide +kernel
theorem d_X12_tellsAs_8 : decode J_X12_tellsAs.2.1 8 = .ok (.invokevirtual 360, 3) := by decide +kernel
theorem d_X12_tellsAs_11 : decode J_X12_tellsAs.2.1 11 = .ok (.aload_n 0, 1) := by decide +kernel
theorem d_X12_tellsAs_12 : decode J_X12_tellsAs.2.1 12 = .ok (.iconst 2, 1) := by decide +kernel
theorem d_X12_tellsAs_13 : decode J_X12_tellsAs.2.1 13 = .ok (.iload_n 2, 1) := by decide +kernel
theorem d_X12_tellsAs_14 : decode J_X12_tellsAs.2.1 14 = .ok (.invokevirtual 378, 3) := by decide +kernel
theorem d_X12_tellsAs_17 : decode J_X12_tellsAs.2.1 17 = .ok (.iconst 5, 1) := by decide +kernel
theorem d_X12_tellsAs_18 : decode J_X12_tellsAs.2.1 18 = .ok (.ixor, 1) := by decide +kernel
theorem d_X12_tellsAs_19 : decode J_X12_tellsAs.2.1 19 = .ok (.ireturn, 1) := by decide +kernel
theorem d_X12_tellsAs_20 : decode J_X12_tellsAs.2.1 20 = .ok (.aload_n 0, 1) := by decide +kernel
theorem d_X12_tellsAs_21 : decode J_X12_tellsAs.2.1 21 = .ok (.iconst 2, 1) := by decide +kernel
theorem d_X12_tellsAs_22 : decode J_X12_tellsAs.2.1 22 = .ok (.invokevirtual 360, 3) := by decide +kernel
theorem d_X12_tellsAs_25 : decode J_X12_tellsAs.2.1 25 = .ok (.aload_n 0, 1) := by decide +kernel
theorem d_X12_tellsAs_26 : decode J_X12_tellsAs.2.1 26 = .ok (.aload_n 0, 1) := by decide +kernel
theorem d_X12_tellsAs_27 : decode J_X12_tellsAs.2.1 27 = .ok (.getfield 372, 3) := by decide +kernel
theorem d_X12_tellsAs_30 : decode J_X12_tellsAs.2.1 30 = .ok (.iload_n 2, 1) := by decide +kernel
theorem d_X12_tellsAs_31 : decode J_X12_tellsAs.2.1 31 = .ok (.invokevirtual 369, 3) := by decide +kernel
theorem d_X12_tellsAs_34 : decode J_X12_tellsAs.2.1 34 = .ok (.istore_n 3, 1) := by decide +kernel
theorem d_X12_tellsAs_35 : decode J_X12_tellsAs.2.1 35 = .ok (.iload_n 3, 1) := by decide +kernel
theorem d_X12_tellsAs_36 : decode J_X12_tellsAs.2.1 36 = .ok (.aload_n 0, 1) := by decide +kernel
theorem d_X12_tellsAs_37 : decode J_X12_tellsAs.2.1 37 = .ok (.aload_n 0, 1) := by decide +kernel
theorem d_X12_tellsAs_38 : decode J_X12_tellsAs.2.1 38 = .ok (.getfield 372, 3) := by decide +kernel
theorem d_X12_tellsAs_41 : decode J_X12_tellsAs.2.1 41 = .ok (.iconst 1, 1) := by decide +kernel
theorem d_X12_tellsAs_42 : decode J_X12_tellsAs.2.1 42 = .ok (.invokevirtual 375, 3) := by decide +kernel
theorem d_X12_tellsAs_45 : decode J_X12_tellsAs.2.1 45 = .ok (.isub, 1) := by decide +kernel
theorem d_X12_tellsAs_46 : decode J_X12_tellsAs.2.1 46 = .ok (.ireturn, 1) := by decide +kernel
def f_X12_tellsAs (N : Nat) (K : oK) : Nat → Int32 → Int32 → oM → Option (Int32 × oM)
  | 0, _, _, _ => none
  | n + 1, p1, p2, M => (fun rS => (if p1 = 4 then oB2 (f_X12_begins N K (50 : Int32) M) (fun v11 M12 => oB2 (rS (2 : Int32) p2 M12) (fun v14 M15 => some ((v14 ^^^ 5), M15))) else oB2 (f_X12_begins N K (2 : Int32) M) (fun v2 M3 => oB2 (f_X12_losesAs N K 4 (M3.1 59 60) p2 M3) (fun v5 M6 => oB2 (f_X12_bearsAs N K 3 (M6.1 59 60) (1 : Int32) M6) (fun v8 M9 => some ((v5 - v8), M9)))))) (f_X12_tellsAs N K n)
set_option maxRecDepth 20000 in
theorem v_X12_tellsAs_R {X : oX} {N : Nat} {K : oK} (hK : oSR K) : ∀ (n : Nat) (p1 : Int32) (p2 : Int32) (M : oM) (v : Int32) (M' : oM) , f_X12_tellsAs N K n p1 p2 M = some (v, M') → oMet X (15 + n) J_X12_tellsAs [(.ref 59), (.int p1), (.int p2)] K M (some (.int v)) K M' := by
  intro n
  induction n with
  | zero =>
    intro p1 p2 M v M'  h
    cases h
  | succ n hS0 =>
    intro p1 p2 M v M'  h
    refine oMet_of (L := [some (.ref 59), some (.int p1), some (.int p2), none]) jJ_X12_tellsAs.1 rfl (Nat.le_of_ble_eq_true rfl) rfl (Nat.le_refl _) (Nat.le_refl _) ?_
    have hd : 15 ≤ 15 + (n + 1) := Nat.le_add_right _ _
    generalize hde : 15 + (n + 1) = d at hd ⊢
    have hS : ∃ d', d' < d ∧ ∀ (p1 : Int32) (p2 : Int32) (M : oM) (v : Int32) (M' : oM) , f_X12_tellsAs N K n p1 p2 M = some (v, M') → oMet X d' J_X12_tellsAs [(.ref 59), (.int p1), (.int p2)] K M (some (.int v)) K M' := ⟨15 + n, by omega, hS0⟩
    refine oe_iload_n (pc := 0) d_X12_tellsAs_0 rfl ?_
    refine oe_iconst (pc := 1) (v := 4) d_X12_tellsAs_1 rfl ?_
    refine oe_icmp_ne (pc := 2) (tgt := 20) d_X12_tellsAs_2 (by decide) (fun c1 => ?_) (fun c1 => ?_)
    · replace h := (if_neg c1).symm.trans h
      refine oe_aload_n (pc := 20) d_X12_tellsAs_20 rfl ?_
      refine oe_iconst (pc := 21) (v := 2) d_X12_tellsAs_21 rfl ?_
      obtain ⟨v2, M3, q4, h⟩ := oB2_some h
      refine oe_callV (pc := 22) (ci := 12) d_X12_tellsAs_22 (v_X12_begins hK  q4) (by omega) ml_X12_360 jJ_X12_begins rfl rfl (oLt hK (a := 59) (Nat.le_of_ble_eq_true rfl)) (oSho hK (a := 59) (Nat.le_of_ble_eq_true rfl) rfl) ock12 rfl (Nat.le_of_ble_eq_true rfl) ⟨Nat.le_refl _, Nat.le_refl _⟩ ⟨Nat.le_refl _, Nat.le_refl _⟩ ?_
      refine oe_aload_n (pc := 25) d_X12_tellsAs_25 rfl ?_
      refine oe_aload_n (pc := 26) d_X12_tellsAs_26 rfl ?_
      refine oe_getf (pc := 27) d_X12_tellsAs_27 fl_X12_372 ock12 (k := 60) (Nat.le_of_ble_eq_true rfl) rfl (oLt hK (a := 59) (Nat.le_of_ble_eq_true rfl)) (oSho hK (a := 59) (Nat.le_of_ble_eq_true rfl) rfl) ?_
      refine oe_iload_n (pc := 30) d_X12_tellsAs_30 rfl ?_
      obtain ⟨v5, M6, q7, h⟩ := oB2_some h
      refine oe_callV (pc := 31) (ci := 12) d_X12_tellsAs_31 (v_X12_losesAs_R hK 4 _ _ _ _ _  q7) (by omega) ml_X12_369 jJ_X12_losesAs rfl rfl (oLt hK (a := 59) (Nat.le_of_ble_eq_true rfl)) (oSho hK (a := 59) (Nat.le_of_ble_eq_true rfl) rfl) ock12 rfl (Nat.le_of_ble_eq_true rfl) ⟨Nat.le_refl _, Nat.le_refl _⟩ ⟨Nat.le_refl _, Nat.le_refl _⟩ ?_
      refine oe_istore_n (pc := 34) (L2 := [_, _, _, _]) d_X12_tellsAs_34 rfl rfl (Nat.le_of_ble_eq_true rfl) rfl ?_
      refine oe_iload_n (pc := 35) d_X12_tellsAs_35 rfl ?_
      refine oe_aload_n (pc := 36) d_X12_tellsAs_36 rfl ?_
      refine oe_aload_n (pc := 37) d_X12_tellsAs_37 rfl ?_
      refine oe_getf (pc := 38) d_X12_tellsAs_38 fl_X12_372 ock12 (k := 60) (Nat.le_of_ble_eq_true rfl) rfl (oLt hK (a := 59) (Nat.le_of_ble_eq_true rfl)) (oSho hK (a := 59) (Nat.le_of_ble_eq_true rfl) rfl) ?_
      refine oe_iconst (pc := 41) (v := 1) d_X12_tellsAs_41 rfl ?_
      obtain ⟨v8, M9, q10, h⟩ := oB2_some h
      refine oe_callV (pc := 42) (ci := 12) d_X12_tellsAs_42 (v_X12_bearsAs_R hK 3 _ _ _ _ _  q10) (by omega) ml_X12_375 jJ_X12_bearsAs rfl rfl (oLt hK (a := 59) (Nat.le_of_ble_eq_true rfl)) (oSho hK (a := 59) (Nat.le_of_ble_eq_true rfl) rfl) ock12 rfl (Nat.le_of_ble_eq_true rfl) ⟨Nat.le_refl _, Nat.le_refl _⟩ ⟨Nat.le_refl _, Nat.le_refl _⟩ ?_
      refine oe_isub (pc := 45) d_X12_tellsAs_45 ?_
      obtain ⟨rfl, rfl⟩ := oRes h
      exact oe_iret (pc := 46) d_X12_tellsAs_46 ⟨_, rfl, rfl⟩
    · replace h := (if_pos c1).symm.trans h
      refine oe_aload_n (pc := 5) d_X12_tellsAs_5 rfl ?_
      refine oe_bipush (pc := 6) (v := 50) d_X12_tellsAs_6 rfl ?_
      obtain ⟨v11, M12, q13, h⟩ := oB2_some h
      refine oe_callV (pc := 8) (ci := 12) d_X12_tellsAs_8 (v_X12_begins hK  q13) (by omega) ml_X12_360 jJ_X12_begins rfl rfl (oLt hK (a := 59) (Nat.le_of_ble_eq_true rfl)) (oSho hK (a := 59) (Nat.le_of_ble_eq_true rfl) rfl) ock12 rfl (Nat.le_of_ble_eq_true rfl) ⟨Nat.le_refl _, Nat.le_refl _⟩ ⟨Nat.le_refl _, Nat.le_refl _⟩ ?_
      refine oe_aload_n (pc := 11) d_X12_tellsAs_11 rfl ?_
      refine oe_iconst (pc := 12) (v := 2) d_X12_tellsAs_12 rfl ?_
      refine oe_iload_n (pc := 13) d_X12_tellsAs_13 rfl ?_
      obtain ⟨v14, M15, q16, h⟩ := oB2_some h
      obtain ⟨d', hdl, hS9⟩ := id hS
      refine oe_callV (pc := 14) (ci := 12) d_X12_tellsAs_14 (hS9 _ _ _ _ _  q16) hdl ml_X12_378 jJ_X12_tellsAs rfl rfl (oLt hK (a := 59) (Nat.le_of_ble_eq_true rfl)) (oSho hK (a := 59) (Nat.le_of_ble_eq_true rfl) rfl) ock12 rfl (Nat.le_of_ble_eq_true rfl) ⟨Nat.le_refl _, Nat.le_refl _⟩ ⟨Nat.le_refl _, Nat.le_refl _⟩ ?_
      refine oe_iconst (pc := 17) (v := 5) d_X12_tellsAs_17 rfl ?_
      refine oe_ixor (pc := 18) d_X12_tellsAs_18 ?_
      obtain ⟨rfl, rfl⟩ := oRes h
      exact oe_iret (pc := 19) d_X12_tellsAs_19 ⟨_, rfl, rfl⟩
theorem d_X12_act_0 : decode J_X12_act.2.1 0 = .ok (.aload_n 0, 1) := by decide +kernel
theorem d_X12_act_1 : decode J_X12_act.2.1 1 = .ok (.iconst 0, 1) := by decide +kernel
theorem d_X12_act_2 : decode J_X12_act.2.1 2 = .ok (.putfield 357, 3) := by decide +kernel
theorem d_X12_act_5 : decode J_X12_act.2.1 5 = .ok (.aload_n 0, 1) := by decide +kernel
theorem d_X12_act_6 : decode J_X12_act.2.1 6 = .ok (.iload_n 1, 1) := by decide +kernel
theorem d_X12_act_7 : decode J_X12_act.2.1 7 = .ok (.invokevirtual 230, 3) := by decide +kernel
theorem d_X12_act_10 : decode J_X12_act.2.1 10 = .ok (.ifCond .ne 5, 3) := by decide +kernel
theorem d_X12_act_13 : decode J_X12_act.2.1 13 = .ok (.iconst 0, 1) := by decide +kernel
theorem d_X12_act_14 : decode J_X12_act.2.1 14 = .ok (.ireturn, 1) := by decide +kernel
theorem d_X12_act_15 : decode J_X12_act.2.1 15 = .ok (.aload_n 0, 1) := by decide +kernel
theorem d_X12_act_16 : decode J_X12_act.2.1 16 = .ok (.aload_n 0, 1) := by decide +kernel
theorem d_X12_act_17 : decode J_X12_act.2.1 17 = .ok (.getfield 49, 3) := by decide +kernel
theorem d_X12_act_20 : decode J_X12_act.2.1 20 = .ok (.iload_n 1, 1) := by decide +kernel
theorem d_X12_act_21 : decode J_X12_act.2.1 21 = .ok (.iaload, 1) := by decide +kernel
theorem d_X12_act_22 : decode J_X12_act.2.1 22 = .ok (.putfield 372, 3) := by decide +kernel
theorem d_X12_act_25 : decode J_X12_act.2.1 25 = .ok (.aload_n 0, 1) := by decide +kernel
theorem d_X12_act_26 : decode J_X12_act.2.1 26 = .ok (.iload_n 1, 1) := by decide +kernel
theorem d_X12_act_27 : decode J_X12_act.2.1 27 = .ok (.putfield 366, 3) := by decide +kernel
theorem d_X12_act_30 : decode J_X12_act.2.1 30 = .ok (.iload_n 2, 1) := by decide +kernel
theorem d_X12_act_31 : decode J_X12_act.2.1 31 = .ok (.tableswitch 69 0 3 #[29, 39, 49, 59], 29) := by decide +kernel
theorem d_X12_act_60 : decode J_X12_act.2.1 60 = .ok (.aload_n 0, 1) := by decide +kernel
theorem d_X12_act_61 : decode J_X12_act.2.1 61 = .ok (.aload_n 0, 1) := by decide +kernel
theorem d_X12_act_62 : decode J_X12_act.2.1 62 = .ok (.getfield 372, 3) := by decide +kernel
theorem d_X12_act_65 : decode J_X12_act.2.1 65 = .ok (.iload_n 3, 1) := by decide +kernel
theorem d_X12_act_66 : decode J_X12_act.2.1 66 = .ok (.invokevirtual 363, 3) := by decide +kernel
theorem d_X12_act_69 : decode J_X12_act.2.1 69 = .ok (.ireturn, 1) := by decide +kernel
theorem d_X12_act_70 : decode J_X12_act.2.1 70 = .ok (.aload_n 0, 1) := by decide +kernel
theorem d_X12_act_71 : decode J_X12_act.2.1 71 = .ok (.aload_n 0, 1) := by decide +kernel
theorem d_X12_act_72 : decode J_X12_act.2.1 72 = .ok (.getfield 372, 3) := by decide +kernel
theorem d_X12_act_75 : decode J_X12_act.2.1 75 = .ok (.iload_n 3, 1) := by decide +kernel
theorem d_X12_act_76 : decode J_X12_act.2.1 76 = .ok (.invokevirtual 369, 3) := by decide +kernel
theorem d_X12_act_79 : decode J_X12_act.2.1 79 = .ok (.ireturn, 1) := by decide +kernel
theorem d_X12_act_80 : decode J_X12_act.2.1 80 = .ok (.aload_n 0, 1) := by decide +kernel
theorem d_X12_act_81 : decode J_X12_act.2.1 81 = .ok (.aload_n 0, 1) := by decide +kernel
theorem d_X12_act_82 : decode J_X12_act.2.1 82 = .ok (.getfield 372, 3) := by decide +kernel
theorem d_X12_act_85 : decode J_X12_act.2.1 85 = .ok (.iload_n 3, 1) := by decide +kernel
theorem d_X12_act_86 : decode J_X12_act.2.1 86 = .ok (.invokevirtual 375, 3) := by decide +kernel
theorem d_X12_act_89 : decode J_X12_act.2.1 89 = .ok (.ireturn, 1) := by decide +kernel
theorem d_X12_act_90 : decode J_X12_act.2.1 90 = .ok (.aload_n 0, 1) := by decide +kernel
theorem d_X12_act_91 : decode J_X12_act.2.1 91 = .ok (.aload_n 0, 1) := by decide +kernel
theorem d_X12_act_92 : decode J_X12_act.2.1 92 = .ok (.getfield 372, 3) := by decide +kernel
theorem d_X12_act_95 : decode J_X12_act.2.1 95 = .ok (.iload_n 3, 1) := by decide +kernel
theorem d_X12_act_96 : decode J_X12_act.2.1 96 = .ok (.invokevirtual 378, 3) := by decide +kernel
theorem d_X12_act_99 : decode J_X12_act.2.1 99 = .ok (.ireturn, 1) := by decide +kernel
theorem d_X12_act_100 : decode J_X12_act.2.1 100 = .ok (.iconst 0, 1) := by decide +kernel
theorem d_X12_act_101 : decode J_X12_act.2.1 101 = .ok (.ireturn, 1) := by decide +kernel
def f_X12_act (N : Nat) (K : oK) (p1 : Int32) (p2 : Int32) (p3 : Int32) (M : oM) : Option (Int32 × oM) :=
  oB2 (f_X12_isLaying N K p1 (oUp M 59 59 (0 : Int32))) (fun v1 M2 => cond v1 (oIx (p1) 20 ((if p2 = 0 then oB2 (f_X12_liftsAs N K 3 ((oUp (oUp M2 59 60 (M2.1 73 (p1 : Int32).toNatClampNeg)) 59 61 p1).1 59 60) p3 (oUp (oUp M2 59 60 (M2.1 73 (p1 : Int32).toNatClampNeg)) 59 61 p1)) (fun v5 M6 => some (v5, M6)) else (if p2 = 1 then oB2 (f_X12_losesAs N K 4 ((oUp (oUp M2 59 60 (M2.1 73 (p1 : Int32).toNatClampNeg)) 59 61 p1).1 59 60) p3 (oUp (oUp M2 59 60 (M2.1 73 (p1 : Int32).toNatClampNeg)) 59 61 p1)) (fun v8 M9 => some (v8, M9)) else (if p2 = 2 then oB2 (f_X12_bearsAs N K 3 ((oUp (oUp M2 59 60 (M2.1 73 (p1 : Int32).toNatClampNeg)) 59 61 p1).1 59 60) p3 (oUp (oUp M2 59 60 (M2.1 73 (p1 : Int32).toNatClampNeg)) 59 61 p1)) (fun v11 M12 => some (v11, M12)) else (if p2 = 3 then oB2 (f_X12_tellsAs N K 3 ((oUp (oUp M2 59 60 (M2.1 73 (p1 : Int32).toNatClampNeg)) 59 61 p1).1 59 60) p3 (oUp (oUp M2 59 60 (M2.1 73 (p1 : Int32).toNatClampNeg)) 59 61 p1)) (fun v14 M15 => some (v14, M15)) else some (0, (oUp (oUp M2 59 60 (M2.1 73 (p1 : Int32).toNatClampNeg)) 59 61 p1)))))))) (some (0, M2)))
set_option maxRecDepth 20000 in
theorem v_X12_act {X : oX} {N : Nat} {K : oK} {p1 : Int32} {p2 : Int32} {p3 : Int32} {M : oM} {v : Int32} {M' : oM} (hK : oSR K)  (h : f_X12_act N K p1 p2 p3 M = some (v, M')) : oMet X 19 J_X12_act [(.ref 59), (.int p1), (.int p2), (.int p3)] K M (some (.int v)) K M' := by
  unfold f_X12_act at h
  refine oMet_of (L := [some (.ref 59), some (.int p1), some (.int p2), some (.int p3)]) jJ_X12_act.1 rfl (Nat.le_of_ble_eq_true rfl) rfl (Nat.le_refl _) (Nat.le_refl _) ?_
  have hd : 19 ≤ 19 := Nat.le_refl _
  refine oe_aload_n (pc := 0) d_X12_act_0 rfl ?_
  refine oe_iconst (pc := 1) (v := 0) d_X12_act_1 rfl ?_
  refine oe_putf (pc := 2) d_X12_act_2 fl_X12_357 ock12 (k := 59) (Nat.le_of_ble_eq_true rfl) rfl rfl (oLt hK (a := 59) (Nat.le_of_ble_eq_true rfl)) (oSho hK (a := 59) (Nat.le_of_ble_eq_true rfl) rfl) ?_
  refine oe_aload_n (pc := 5) d_X12_act_5 rfl ?_
  refine oe_iload_n (pc := 6) d_X12_act_6 rfl ?_
  obtain ⟨v1, M2, q3, h⟩ := oB2_some h
  cases v1 with
  | true =>
    replace h := oCt h
    refine oe_callV (pc := 7) (ci := 12) d_X12_act_7 (v_X12_isLaying hK  q3) (by omega) ml_X12_230 jJ_X12_isLaying rfl rfl (oLt hK (a := 59) (Nat.le_of_ble_eq_true rfl)) (oSho hK (a := 59) (Nat.le_of_ble_eq_true rfl) rfl) ock12 rfl (Nat.le_of_ble_eq_true rfl) ⟨Nat.le_refl _, Nat.le_refl _⟩ ⟨Nat.le_refl _, Nat.le_refl _⟩ ?_
    refine oe_if_ne (pc := 10) (tgt := 15) d_X12_act_10 (by decide) (fun _ => ?_) (fun c => absurd c (by decide))
    refine oe_aload_n (pc := 15) d_X12_act_15 rfl ?_
    refine oe_aload_n (pc := 16) d_X12_act_16 rfl ?_
    refine oe_getr (pc := 17) d_X12_act_17 fl_X12_49 ock12 (k := 21) (b := 73) (Nat.le_of_ble_eq_true rfl) (by decide) (oLt hK (a := 59) (Nat.le_of_ble_eq_true rfl)) (oSho hK (a := 59) (Nat.le_of_ble_eq_true rfl) rfl) (oRfK hK rfl) ?_
    refine oe_iload_n (pc := 20) d_X12_act_20 rfl ?_
    obtain ⟨i4, h⟩ := oIx_some h
    refine oe_iald (pc := 21) d_X12_act_21 (oLt hK (a := 73) (Nat.le_of_ble_eq_true rfl)) (oSha hK (a := 73) (Nat.le_of_ble_eq_true rfl) rfl) i4 ?_
    refine oe_putf (pc := 22) d_X12_act_22 fl_X12_372 ock12 (k := 60) (Nat.le_of_ble_eq_true rfl) rfl rfl (oLt hK (a := 59) (Nat.le_of_ble_eq_true rfl)) (oSho hK (a := 59) (Nat.le_of_ble_eq_true rfl) rfl) ?_
    refine oe_aload_n (pc := 25) d_X12_act_25 rfl ?_
    refine oe_iload_n (pc := 26) d_X12_act_26 rfl ?_
    refine oe_putf (pc := 27) d_X12_act_27 fl_X12_366 ock12 (k := 61) (Nat.le_of_ble_eq_true rfl) rfl rfl (oLt hK (a := 59) (Nat.le_of_ble_eq_true rfl)) (oSho hK (a := 59) (Nat.le_of_ble_eq_true rfl) rfl) ?_
    refine oe_iload_n (pc := 30) d_X12_act_30 rfl ?_
    by_cases c31_0 : p2 = 0
    · replace h := (if_pos c31_0).symm.trans h
      refine oe_tableIn (pc := 31) (tgt := 60) (off := 29) d_X12_act_31 (by rw [c31_0]; decide) (by rw [c31_0]; decide) (by rw [c31_0]; rfl) (by decide) ?_
      refine oe_aload_n (pc := 60) d_X12_act_60 rfl ?_
      refine oe_aload_n (pc := 61) d_X12_act_61 rfl ?_
      refine oe_getf (pc := 62) d_X12_act_62 fl_X12_372 ock12 (k := 60) (Nat.le_of_ble_eq_true rfl) rfl (oLt hK (a := 59) (Nat.le_of_ble_eq_true rfl)) (oSho hK (a := 59) (Nat.le_of_ble_eq_true rfl) rfl) ?_
      refine oe_iload_n (pc := 65) d_X12_act_65 rfl ?_
      obtain ⟨v5, M6, q7, h⟩ := oB2_some h
      refine oe_callV (pc := 66) (ci := 12) d_X12_act_66 (v_X12_liftsAs_R hK 3 _ _ _ _ _  q7) (by omega) ml_X12_363 jJ_X12_liftsAs rfl rfl (oLt hK (a := 59) (Nat.le_of_ble_eq_true rfl)) (oSho hK (a := 59) (Nat.le_of_ble_eq_true rfl) rfl) ock12 rfl (Nat.le_of_ble_eq_true rfl) ⟨Nat.le_refl _, Nat.le_refl _⟩ ⟨Nat.le_refl _, Nat.le_refl _⟩ ?_
      obtain ⟨rfl, rfl⟩ := oRes h
      exact oe_iret (pc := 69) d_X12_act_69 ⟨_, rfl, rfl⟩
    · replace h := (if_neg c31_0).symm.trans h
      by_cases c31_1 : p2 = 1
      · replace h := (if_pos c31_1).symm.trans h
        refine oe_tableIn (pc := 31) (tgt := 70) (off := 39) d_X12_act_31 (by rw [c31_1]; decide) (by rw [c31_1]; decide) (by rw [c31_1]; rfl) (by decide) ?_
        refine oe_aload_n (pc := 70) d_X12_act_70 rfl ?_
        refine oe_aload_n (pc := 71) d_X12_act_71 rfl ?_
        refine oe_getf (pc := 72) d_X12_act_72 fl_X12_372 ock12 (k := 60) (Nat.le_of_ble_eq_true rfl) rfl (oLt hK (a := 59) (Nat.le_of_ble_eq_true rfl)) (oSho hK (a := 59) (Nat.le_of_ble_eq_true rfl) rfl) ?_
        refine oe_iload_n (pc := 75) d_X12_act_75 rfl ?_
        obtain ⟨v8, M9, q10, h⟩ := oB2_some h
        refine oe_callV (pc := 76) (ci := 12) d_X12_act_76 (v_X12_losesAs_R hK 4 _ _ _ _ _  q10) (by omega) ml_X12_369 jJ_X12_losesAs rfl rfl (oLt hK (a := 59) (Nat.le_of_ble_eq_true rfl)) (oSho hK (a := 59) (Nat.le_of_ble_eq_true rfl) rfl) ock12 rfl (Nat.le_of_ble_eq_true rfl) ⟨Nat.le_refl _, Nat.le_refl _⟩ ⟨Nat.le_refl _, Nat.le_refl _⟩ ?_
        obtain ⟨rfl, rfl⟩ := oRes h
        exact oe_iret (pc := 79) d_X12_act_79 ⟨_, rfl, rfl⟩
      · replace h := (if_neg c31_1).symm.trans h
        by_cases c31_2 : p2 = 2
        · replace h := (if_pos c31_2).symm.trans h
          refine oe_tableIn (pc := 31) (tgt := 80) (off := 49) d_X12_act_31 (by rw [c31_2]; decide) (by rw [c31_2]; decide) (by rw [c31_2]; rfl) (by decide) ?_
          refine oe_aload_n (pc := 80) d_X12_act_80 rfl ?_
          refine oe_aload_n (pc := 81) d_X12_act_81 rfl ?_
          refine oe_getf (pc := 82) d_X12_act_82 fl_X12_372 ock12 (k := 60) (Nat.le_of_ble_eq_true rfl) rfl (oLt hK (a := 59) (Nat.le_of_ble_eq_true rfl)) (oSho hK (a := 59) (Nat.le_of_ble_eq_true rfl) rfl) ?_
          refine oe_iload_n (pc := 85) d_X12_act_85 rfl ?_
          obtain ⟨v11, M12, q13, h⟩ := oB2_some h
          refine oe_callV (pc := 86) (ci := 12) d_X12_act_86 (v_X12_bearsAs_R hK 3 _ _ _ _ _  q13) (by omega) ml_X12_375 jJ_X12_bearsAs rfl rfl (oLt hK (a := 59) (Nat.le_of_ble_eq_true rfl)) (oSho hK (a := 59) (Nat.le_of_ble_eq_true rfl) rfl) ock12 rfl (Nat.le_of_ble_eq_true rfl) ⟨Nat.le_refl _, Nat.le_refl _⟩ ⟨Nat.le_refl _, Nat.le_refl _⟩ ?_
          obtain ⟨rfl, rfl⟩ := oRes h
          exact oe_iret (pc := 89) d_X12_act_89 ⟨_, rfl, rfl⟩
        · replace h := (if_neg c31_2).symm.trans h
          by_cases c31_3 : p2 = 3
          · replace h := (if_pos c31_3).symm.trans h
            refine oe_tableIn (pc := 31) (tgt := 90) (off := 59) d_X12_act_31 (by rw [c31_3]; decide) (by rw [c31_3]; decide) (by rw [c31_3]; rfl) (by decide) ?_
            refine oe_aload_n (pc := 90) d_X12_act_90 rfl ?_
            refine oe_aload_n (pc := 91) d_X12_act_91 rfl ?_
            refine oe_getf (pc := 92) d_X12_act_92 fl_X12_372 ock12 (k := 60) (Nat.le_of_ble_eq_true rfl) rfl (oLt hK (a := 59) (Nat.le_of_ble_eq_true rfl)) (oSho hK (a := 59) (Nat.le_of_ble_eq_true rfl) rfl) ?_
            refine oe_iload_n (pc := 95) d_X12_act_95 rfl ?_
            obtain ⟨v14, M15, q16, h⟩ := oB2_some h
            refine oe_callV (pc := 96) (ci := 12) d_X12_act_96 (v_X12_tellsAs_R hK 3 _ _ _ _ _  q16) (by omega) ml_X12_378 jJ_X12_tellsAs rfl rfl (oLt hK (a := 59) (Nat.le_of_ble_eq_true rfl)) (oSho hK (a := 59) (Nat.le_of_ble_eq_true rfl) rfl) ock12 rfl (Nat.le_of_ble_eq_true rfl) ⟨Nat.le_refl _, Nat.le_refl _⟩ ⟨Nat.le_refl _, Nat.le_refl _⟩ ?_
            obtain ⟨rfl, rfl⟩ := oRes h
            exact oe_iret (pc := 99) d_X12_act_99 ⟨_, rfl, rfl⟩
          · replace h := (if_neg c31_3).symm.trans h
            refine oe_tableOut (pc := 31) (tgt := 100) d_X12_act_31 (by have := oNe (k := 0) c31_0 rfl; have := oNe (k := 1) c31_1 rfl; have := oNe (k := 2) c31_2 rfl; have := oNe (k := 3) c31_3 rfl; omega) (by decide) ?_
            refine oe_iconst (pc := 100) (v := 0) d_X12_act_100 rfl ?_
            obtain ⟨rfl, rfl⟩ := oRes h
            exact oe_iret (pc := 101) d_X12_act_101 ⟨_, rfl, rfl⟩
  | false =>
    replace h := oCf h
    refine oe_callV (pc := 7) (ci := 12) d_X12_act_7 (v_X12_isLaying hK  q3) (by omega) ml_X12_230 jJ_X12_isLaying rfl rfl (oLt hK (a := 59) (Nat.le_of_ble_eq_true rfl)) (oSho hK (a := 59) (Nat.le_of_ble_eq_true rfl) rfl) ock12 rfl (Nat.le_of_ble_eq_true rfl) ⟨Nat.le_refl _, Nat.le_refl _⟩ ⟨Nat.le_refl _, Nat.le_refl _⟩ ?_
    refine oe_if_ne (pc := 10) (tgt := 15) d_X12_act_10 (by decide) (fun c => absurd (by decide) c) (fun _ => ?_)
    refine oe_iconst (pc := 13) (v := 0) d_X12_act_13 rfl ?_
    obtain ⟨rfl, rfl⟩ := oRes h
    exact oe_iret (pc := 14) d_X12_act_14 ⟨_, rfl, rfl⟩
theorem d_X12_trace_0 : decode J_X12_trace.2.1 0 = .ok (.iload_n 1, 1) := by decide +kernel
theorem d_X12_trace_1 : decode J_X12_trace.2.1 1 = .ok (.ifCond .lt 26, 3) := by decide +kernel
theorem d_X12_trace_4 : decode J_X12_trace.2.1 4 = .ok (.iload_n 1, 1) := by decide +kernel
theorem d_X12_trace_5 : decode J_X12_trace.2.1 5 = .ok (.aload_n 0, 1) := by decide +kernel
theorem d_X12_trace_6 : decode J_X12_trace.2.1 6 = .ok (.getfield 357, 3) := by decide +kernel
theorem d_X12_trace_9 : decode J_X12_trace.2.1 9 = .ok (.if_icmp .ge 18, 3) := by decide +kernel
theorem d_X12_trace_12 : decode J_X12_trace.2.1 12 = .ok (.iload_n 1, 1) := by decide +kernel
theorem d_X12_trace_13 : decode J_X12_trace.2.1 13 = .ok (.bipush 24, 2) := by decide +kernel
theorem d_X12_trace_15 : decode J_X12_trace.2.1 15 = .ok (.if_icmp .ge 12, 3) := by decide +kernel
theorem d_X12_trace_18 : decode J_X12_trace.2.1 18 = .ok (.aload_n 0, 1) := by decide +kernel
theorem d_X12_trace_19 : decode J_X12_trace.2.1 19 = .ok (.getfield 119, 3) := by decide +kernel
theorem d_X12_trace_22 : decode J_X12_trace.2.1 22 = .ok (.iload_n 1, 1) := by decide +kernel
theorem d_X12_trace_23 : decode J_X12_trace.2.1 23 = .ok (.iaload, 1) := by decide +kernel
theorem d_X12_trace_24 : decode J_X12_trace.2.1 24 = .ok (.goto 4, 3) := by decide +kernel
theorem d_X12_trace_27 : decode J_X12_trace.2.1 27 = .ok (.iconst (-1), 1) := by decide +kernel
theorem d_X12_trace_28 : decode J_X12_trace.2.1 28 = .ok (.ireturn, 1) := by decide +kernel
def f_X12_trace (N : Nat) (K : oK) (p1 : Int32) (M : oM) : Option (Int32 × oM) :=
  (if p1 < 0 then some ((-1), M) else (if (M.1 59 59) ≤ p1 then some ((-1), M) else (if 24 ≤ p1 then some ((-1), M) else oIx (p1) 24 (some ((M.1 96 (p1 : Int32).toNatClampNeg), M)))))
set_option maxRecDepth 20000 in
theorem v_X12_trace {X : oX} {N : Nat} {K : oK} {p1 : Int32} {M : oM} {v : Int32} {M' : oM} (hK : oSR K)  (h : f_X12_trace N K p1 M = some (v, M')) : oMet X 1 J_X12_trace [(.ref 59), (.int p1)] K M (some (.int v)) K M' := by
  unfold f_X12_trace at h
  refine oMet_of (L := [some (.ref 59), some (.int p1)]) jJ_X12_trace.1 rfl (Nat.le_of_ble_eq_true rfl) rfl (Nat.le_refl _) (Nat.le_refl _) ?_
  have hd : 1 ≤ 1 := Nat.le_refl _
  refine oe_iload_n (pc := 0) d_X12_trace_0 rfl ?_
  refine oe_if_lt (pc := 1) (tgt := 27) d_X12_trace_1 (by decide) (fun c1 => ?_) (fun c1 => ?_)
  · replace h := (if_pos c1).symm.trans h
    refine oe_iconst (pc := 27) (v := (-1)) d_X12_trace_27 rfl ?_
    obtain ⟨rfl, rfl⟩ := oRes h
    exact oe_iret (pc := 28) d_X12_trace_28 ⟨_, rfl, rfl⟩
  · replace h := (if_neg c1).symm.trans h
    refine oe_iload_n (pc := 4) d_X12_trace_4 rfl ?_
    refine oe_aload_n (pc := 5) d_X12_trace_5 rfl ?_
    refine oe_getf (pc := 6) d_X12_trace_6 fl_X12_357 ock12 (k := 59) (Nat.le_of_ble_eq_true rfl) rfl (oLt hK (a := 59) (Nat.le_of_ble_eq_true rfl)) (oSho hK (a := 59) (Nat.le_of_ble_eq_true rfl) rfl) ?_
    refine oe_icmp_ge (pc := 9) (tgt := 27) d_X12_trace_9 (by decide) (fun c2 => ?_) (fun c2 => ?_)
    · replace h := (if_pos c2).symm.trans h
      refine oe_iconst (pc := 27) (v := (-1)) d_X12_trace_27 rfl ?_
      obtain ⟨rfl, rfl⟩ := oRes h
      exact oe_iret (pc := 28) d_X12_trace_28 ⟨_, rfl, rfl⟩
    · replace h := (if_neg c2).symm.trans h
      refine oe_iload_n (pc := 12) d_X12_trace_12 rfl ?_
      refine oe_bipush (pc := 13) (v := 24) d_X12_trace_13 rfl ?_
      refine oe_icmp_ge (pc := 15) (tgt := 27) d_X12_trace_15 (by decide) (fun c3 => ?_) (fun c3 => ?_)
      · replace h := (if_pos c3).symm.trans h
        refine oe_iconst (pc := 27) (v := (-1)) d_X12_trace_27 rfl ?_
        obtain ⟨rfl, rfl⟩ := oRes h
        exact oe_iret (pc := 28) d_X12_trace_28 ⟨_, rfl, rfl⟩
      · replace h := (if_neg c3).symm.trans h
        refine oe_aload_n (pc := 18) d_X12_trace_18 rfl ?_
        refine oe_getr (pc := 19) d_X12_trace_19 fl_X12_119 ock12 (k := 58) (b := 96) (Nat.le_of_ble_eq_true rfl) (by decide) (oLt hK (a := 59) (Nat.le_of_ble_eq_true rfl)) (oSho hK (a := 59) (Nat.le_of_ble_eq_true rfl) rfl) (oRfK hK rfl) ?_
        refine oe_iload_n (pc := 22) d_X12_trace_22 rfl ?_
        obtain ⟨i4, h⟩ := oIx_some h
        refine oe_iald (pc := 23) d_X12_trace_23 (oLt hK (a := 96) (Nat.le_of_ble_eq_true rfl)) (oSha hK (a := 96) (Nat.le_of_ble_eq_true rfl) rfl) i4 ?_
        refine oe_goto (pc := 24) (tgt := 28) d_X12_trace_24 (by decide) ?_
        obtain ⟨rfl, rfl⟩ := oRes h
        exact oe_iret (pc := 28) d_X12_trace_28 ⟨_, rfl, rfl⟩
theorem d_X12_keep_0 : decode J_X12_keep.2.1 0 = .ok (.iload_n 1, 1) := by decide +kernel
theorem d_X12_keep_1 : decode J_X12_keep.2.1 1 = .ok (.invokestatic 237, 3) := by decide +kernel
theorem d_X12_keep_4 : decode J_X12_keep.2.1 4 = .ok (.ifCond .eq 16, 3) := by decide +kernel
theorem d_X12_keep_7 : decode J_X12_keep.2.1 7 = .ok (.iload_n 2, 1) := by decide +kernel
theorem d_X12_keep_8 : decode J_X12_keep.2.1 8 = .ok (.iconst (-1), 1) := by decide +kernel
theorem d_X12_keep_9 : decode J_X12_keep.2.1 9 = .ok (.if_icmp .eq 13, 3) := by decide +kernel
theorem d_X12_keep_12 : decode J_X12_keep.2.1 12 = .ok (.aload_n 0, 1) := by decide +kernel
theorem d_X12_keep_13 : decode J_X12_keep.2.1 13 = .ok (.iload_n 2, 1) := by decide +kernel
theorem d_X12_keep_14 : decode J_X12_keep.2.1 14 = .ok (.invokevirtual 230, 3) := by decide +kernel
theorem d_X12_keep_17 : decode J_X12_keep.2.1 17 = .ok (.ifCond .ne 5, 3) := by decide +kernel
theorem d_X12_keep_20 : decode J_X12_keep.2.1 20 = .ok (.iconst (-1), 1) := by decide +kernel
theorem d_X12_keep_21 : decode J_X12_keep.2.1 21 = .ok (.ireturn, 1) := by decide +kernel
theorem d_X12_keep_22 : decode J_X12_keep.2.1 22 = .ok (.aload_n 0, 1) := by decide +kernel
theorem d_X12_keep_23 : decode J_X12_keep.2.1 23 = .ok (.getfield 122, 3) := by decide +kernel
theorem d_X12_keep_26 : decode J_X12_keep.2.1 26 = .ok (.iload_n 1, 1) := by decide +kernel
theorem d_X12_keep_27 : decode J_X12_keep.2.1 27 = .ok (.iload_n 2, 1) := by decide +kernel
theorem d_X12_keep_28 : decode J_X12_keep.2.1 28 = .ok (.iastore, 1) := by decide +kernel
theorem d_X12_keep_29 : decode J_X12_keep.2.1 29 = .ok (.aload_n 0, 1) := by decide +kernel
theorem d_X12_keep_30 : decode J_X12_keep.2.1 30 = .ok (.getfield 125, 3) := by decide +kernel
theorem d_X12_keep_33 : decode J_X12_keep.2.1 33 = .ok (.iload_n 1, 1) := by decide +kernel
theorem d_X12_keep_34 : decode J_X12_keep.2.1 34 = .ok (.iconst 0, 1) := by decide +kernel
theorem d_X12_keep_35 : decode J_X12_keep.2.1 35 = .ok (.iastore, 1) := by decide +kernel
theorem d_X12_keep_36 : decode J_X12_keep.2.1 36 = .ok (.iconst 1, 1) := by decide +kernel
theorem d_X12_keep_37 : decode J_X12_keep.2.1 37 = .ok (.ireturn, 1) := by decide +kernel
def f_X12_keep_22 (N : Nat) (K : oK)  (p1 : Int32) (p2 : Int32) (M : oM) : Option (Int32 × oM) :=
  oIx (p1) 6 (oIx (p1) 6 (some (1, (oUp (oUp M 97 (p1 : Int32).toNatClampNeg p2) 98 (p1 : Int32).toNatClampNeg (0 : Int32)))))
set_option maxRecDepth 20000 in
theorem v_X12_keep_22 {X : oX} {d N : Nat} {K : oK}  {p1 : Int32} {p2 : Int32} {M : oM} {v : Int32} {M' : oM}  (hd : 3 ≤ d) (hK : oSR K)   (h : f_X12_keep_22 N K  p1 p2 M = some (v, M')) : oEv X d J_X12_keep 22 [some (.ref 59), some (.int p1), some (.int p2)] [] K M (some (.int v)) K M' := by
  unfold f_X12_keep_22 at h
  refine oe_aload_n (pc := 22) d_X12_keep_22 rfl ?_
  refine oe_getr (pc := 23) d_X12_keep_23 fl_X12_122 ock12 (k := 62) (b := 97) (Nat.le_of_ble_eq_true rfl) (by decide) (oLt hK (a := 59) (Nat.le_of_ble_eq_true rfl)) (oSho hK (a := 59) (Nat.le_of_ble_eq_true rfl) rfl) (oRfK hK rfl) ?_
  refine oe_iload_n (pc := 26) d_X12_keep_26 rfl ?_
  refine oe_iload_n (pc := 27) d_X12_keep_27 rfl ?_
  obtain ⟨i5, h⟩ := oIx_some h
  refine oe_iast (pc := 28) d_X12_keep_28 (oLt hK (a := 97) (Nat.le_of_ble_eq_true rfl)) (oSha hK (a := 97) (Nat.le_of_ble_eq_true rfl) rfl) i5 ?_
  refine oe_aload_n (pc := 29) d_X12_keep_29 rfl ?_
  refine oe_getr (pc := 30) d_X12_keep_30 fl_X12_125 ock12 (k := 63) (b := 98) (Nat.le_of_ble_eq_true rfl) (by decide) (oLt hK (a := 59) (Nat.le_of_ble_eq_true rfl)) (oSho hK (a := 59) (Nat.le_of_ble_eq_true rfl) rfl) (oRfK hK rfl) ?_
  refine oe_iload_n (pc := 33) d_X12_keep_33 rfl ?_
  refine oe_iconst (pc := 34) (v := 0) d_X12_keep_34 rfl ?_
  obtain ⟨i6, h⟩ := oIx_some h
  refine oe_iast (pc := 35) d_X12_keep_35 (oLt hK (a := 98) (Nat.le_of_ble_eq_true rfl)) (oSha hK (a := 98) (Nat.le_of_ble_eq_true rfl) rfl) i6 ?_
  refine oe_iconst (pc := 36) (v := 1) d_X12_keep_36 rfl ?_
  obtain ⟨rfl, rfl⟩ := oRes h
  exact oe_iret (pc := 37) d_X12_keep_37 ⟨_, rfl, rfl⟩
def f_X12_keep (N : Nat) (K : oK) (p1 : Int32) (p2 : Int32) (M : oM) : Option (Int32 × oM) :=
  oB2 (f_X12_isShelf N K p1 M) (fun v1 M2 => cond v1 ((if p2 = (-1) then (f_X12_keep_22 N K  p1 p2 M2) else oB2 (f_X12_isLaying N K p2 M2) (fun v7 M8 => cond v7 ((f_X12_keep_22 N K  p1 p2 M8)) (some ((-1), M8))))) (some ((-1), M2)))
set_option maxRecDepth 20000 in
theorem v_X12_keep {X : oX} {N : Nat} {K : oK} {p1 : Int32} {p2 : Int32} {M : oM} {v : Int32} {M' : oM} (hK : oSR K)  (h : f_X12_keep N K p1 p2 M = some (v, M')) : oMet X 3 J_X12_keep [(.ref 59), (.int p1), (.int p2)] K M (some (.int v)) K M' := by
  unfold f_X12_keep at h
  refine oMet_of (L := [some (.ref 59), some (.int p1), some (.int p2)]) jJ_X12_keep.1 rfl (Nat.le_of_ble_eq_true rfl) rfl (Nat.le_refl _) (Nat.le_refl _) ?_
  have hd : 3 ≤ 3 := Nat.le_refl _
  refine oe_iload_n (pc := 0) d_X12_keep_0 rfl ?_
  obtain ⟨v1, M2, q3, h⟩ := oB2_some h
  cases v1 with
  | true =>
    replace h := oCt h
    refine oe_callS (pc := 1) d_X12_keep_1 (v_X12_isShelf hK  q3) (by omega) ml_X12_237 jJ_X12_isShelf rfl rfl (Nat.le_of_ble_eq_true rfl) ⟨Nat.le_refl _, Nat.le_refl _⟩ ⟨Nat.le_refl _, Nat.le_refl _⟩ ?_
    refine oe_if_eq (pc := 4) (tgt := 20) d_X12_keep_4 (by decide) (fun c => absurd c (by decide)) (fun _ => ?_)
    refine oe_iload_n (pc := 7) d_X12_keep_7 rfl ?_
    refine oe_iconst (pc := 8) (v := (-1)) d_X12_keep_8 rfl ?_
    refine oe_icmp_eq (pc := 9) (tgt := 22) d_X12_keep_9 (by decide) (fun c4 => ?_) (fun c4 => ?_)
    · replace h := (if_pos c4).symm.trans h
      exact v_X12_keep_22 hd hK   h
    · replace h := (if_neg c4).symm.trans h
      refine oe_aload_n (pc := 12) d_X12_keep_12 rfl ?_
      refine oe_iload_n (pc := 13) d_X12_keep_13 rfl ?_
      obtain ⟨v7, M8, q9, h⟩ := oB2_some h
      cases v7 with
      | true =>
        replace h := oCt h
        refine oe_callV (pc := 14) (ci := 12) d_X12_keep_14 (v_X12_isLaying hK  q9) (by omega) ml_X12_230 jJ_X12_isLaying rfl rfl (oLt hK (a := 59) (Nat.le_of_ble_eq_true rfl)) (oSho hK (a := 59) (Nat.le_of_ble_eq_true rfl) rfl) ock12 rfl (Nat.le_of_ble_eq_true rfl) ⟨Nat.le_refl _, Nat.le_refl _⟩ ⟨Nat.le_refl _, Nat.le_refl _⟩ ?_
        refine oe_if_ne (pc := 17) (tgt := 22) d_X12_keep_17 (by decide) (fun _ => ?_) (fun c => absurd c (by decide))
        exact v_X12_keep_22 hd hK   h
      | false =>
        replace h := oCf h
        refine oe_callV (pc := 14) (ci := 12) d_X12_keep_14 (v_X12_isLaying hK  q9) (by omega) ml_X12_230 jJ_X12_isLaying rfl rfl (oLt hK (a := 59) (Nat.le_of_ble_eq_true rfl)) (oSho hK (a := 59) (Nat.le_of_ble_eq_true rfl) rfl) ock12 rfl (Nat.le_of_ble_eq_true rfl) ⟨Nat.le_refl _, Nat.le_refl _⟩ ⟨Nat.le_refl _, Nat.le_refl _⟩ ?_
        refine oe_if_ne (pc := 17) (tgt := 22) d_X12_keep_17 (by decide) (fun c => absurd (by decide) c) (fun _ => ?_)
        refine oe_iconst (pc := 20) (v := (-1)) d_X12_keep_20 rfl ?_
        obtain ⟨rfl, rfl⟩ := oRes h
        exact oe_iret (pc := 21) d_X12_keep_21 ⟨_, rfl, rfl⟩
  | false =>
    replace h := oCf h
    refine oe_callS (pc := 1) d_X12_keep_1 (v_X12_isShelf hK  q3) (by omega) ml_X12_237 jJ_X12_isShelf rfl rfl (Nat.le_of_ble_eq_true rfl) ⟨Nat.le_refl _, Nat.le_refl _⟩ ⟨Nat.le_refl _, Nat.le_refl _⟩ ?_
    refine oe_if_eq (pc := 4) (tgt := 20) d_X12_keep_4 (by decide) (fun _ => ?_) (fun c => absurd (by decide) c)
    refine oe_iconst (pc := 20) (v := (-1)) d_X12_keep_20 rfl ?_
    obtain ⟨rfl, rfl⟩ := oRes h
    exact oe_iret (pc := 21) d_X12_keep_21 ⟨_, rfl, rfl⟩
theorem d_X12_row_0 : decode J_X12_row.2.1 0 = .ok (.iload_n 1, 1) := by decide +kernel
theorem d_X12_row_1 : decode J_X12_row.2.1 1 = .ok (.invokestatic 237, 3) := by decide +kernel
theorem d_X12_row_4 : decode J_X12_row.2.1 4 = .ok (.ifCond .eq 21, 3) := by decide +kernel
theorem d_X12_row_7 : decode J_X12_row.2.1 7 = .ok (.iload_n 2, 1) := by decide +kernel
theorem d_X12_row_8 : decode J_X12_row.2.1 8 = .ok (.i2l, 1) := by decide +kernel
theorem d_X12_row_9 : decode J_X12_row.2.1 9 = .ok (.lconst 0, 1) := by decide +kernel
theorem d_X12_row_10 : decode J_X12_row.2.1 10 = .ok (.ldc2_w 178, 3) := by decide +kernel
theorem d_X12_row_13 : decode J_X12_row.2.1 13 = .ok (.invokestatic 145, 3) := by decide +kernel
theorem d_X12_row_16 : decode J_X12_row.2.1 16 = .ok (.ifCond .eq 9, 3) := by decide +kernel
theorem d_X12_row_19 : decode J_X12_row.2.1 19 = .ok (.iload_n 3, 1) := by decide +kernel
theorem d_X12_row_20 : decode J_X12_row.2.1 20 = .ok (.bipush 60, 2) := by decide +kernel
theorem d_X12_row_22 : decode J_X12_row.2.1 22 = .ok (.if_icmp .le 5, 3) := by decide +kernel
theorem d_X12_row_25 : decode J_X12_row.2.1 25 = .ok (.iconst (-1), 1) := by decide +kernel
theorem d_X12_row_26 : decode J_X12_row.2.1 26 = .ok (.ireturn, 1) := by decide +kernel
theorem d_X12_row_27 : decode J_X12_row.2.1 27 = .ok (.iload_n 3, 1) := by decide +kernel
theorem d_X12_row_28 : decode J_X12_row.2.1 28 = .ok (.ifCond .ge 6, 3) := by decide +kernel
theorem d_X12_row_31 : decode J_X12_row.2.1 31 = .ok (.bipush (-14), 2) := by decide +kernel
theorem d_X12_row_33 : decode J_X12_row.2.1 33 = .ok (.ireturn, 1) := by decide +kernel
theorem d_X12_row_34 : decode J_X12_row.2.1 34 = .ok (.aload_n 0, 1) := by decide +kernel
theorem d_X12_row_35 : decode J_X12_row.2.1 35 = .ok (.getfield 122, 3) := by decide +kernel
theorem d_X12_row_38 : decode J_X12_row.2.1 38 = .ok (.iload_n 1, 1) := by decide +kernel
theorem d_X12_row_39 : decode J_X12_row.2.1 39 = .ok (.bipush 20, 2) := by decide +kernel
theorem d_X12_row_41 : decode J_X12_row.2.1 41 = .ok (.iload_n 2, 1) := by decide +kernel
theorem d_X12_row_42 : decode J_X12_row.2.1 42 = .ok (.iadd, 1) := by decide +kernel
theorem d_X12_row_43 : decode J_X12_row.2.1 43 = .ok (.iastore, 1) := by decide +kernel
theorem d_X12_row_44 : decode J_X12_row.2.1 44 = .ok (.aload_n 0, 1) := by decide +kernel
theorem d_X12_row_45 : decode J_X12_row.2.1 45 = .ok (.getfield 125, 3) := by decide +kernel
theorem d_X12_row_48 : decode J_X12_row.2.1 48 = .ok (.iload_n 1, 1) := by decide +kernel
theorem d_X12_row_49 : decode J_X12_row.2.1 49 = .ok (.iload_n 3, 1) := by decide +kernel
theorem d_X12_row_50 : decode J_X12_row.2.1 50 = .ok (.iastore, 1) := by decide +kernel
theorem d_X12_row_51 : decode J_X12_row.2.1 51 = .ok (.bipush 60, 2) := by decide +kernel
theorem d_X12_row_53 : decode J_X12_row.2.1 53 = .ok (.iload_n 1, 1) := by decide +kernel
theorem d_X12_row_54 : decode J_X12_row.2.1 54 = .ok (.imul, 1) := by decide +kernel
theorem d_X12_row_55 : decode J_X12_row.2.1 55 = .ok (.istore 4, 2) := by decide +kernel
theorem d_X12_row_57 : decode J_X12_row.2.1 57 = .ok (.iload 4, 2) := by decide +kernel
theorem d_X12_row_59 : decode J_X12_row.2.1 59 = .ok (.bipush 60, 2) := by decide +kernel
theorem d_X12_row_61 : decode J_X12_row.2.1 61 = .ok (.iload_n 1, 1) := by decide +kernel
theorem d_X12_row_62 : decode J_X12_row.2.1 62 = .ok (.imul, 1) := by decide +kernel
theorem d_X12_row_63 : decode J_X12_row.2.1 63 = .ok (.bipush 60, 2) := by decide +kernel
theorem d_X12_row_65 : decode J_X12_row.2.1 65 = .ok (.iadd, 1) := by decide +kernel
theorem d_X12_row_66 : decode J_X12_row.2.1 66 = .ok (.if_icmp .ge 17, 3) := by decide +kernel
theorem d_X12_row_69 : decode J_X12_row.2.1 69 = .ok (.aload_n 0, 1) := by decide +kernel
theorem d_X12_row_70 : decode J_X12_row.2.1 70 = .ok (.getfield 128, 3) := by decide +kernel
theorem d_X12_row_73 : decode J_X12_row.2.1 73 = .ok (.iload 4, 2) := by decide +kernel
theorem d_X12_row_75 : decode J_X12_row.2.1 75 = .ok (.lconst 0, 1) := by decide +kernel
theorem d_X12_row_76 : decode J_X12_row.2.1 76 = .ok (.lastore, 1) := by decide +kernel
theorem d_X12_row_77 : decode J_X12_row.2.1 77 = .ok (.iinc 4 1, 3) := by decide +kernel
theorem d_X12_row_80 : decode J_X12_row.2.1 80 = .ok (.goto (-23), 3) := by decide +kernel
theorem d_X12_row_83 : decode J_X12_row.2.1 83 = .ok (.iconst 1, 1) := by decide +kernel
theorem d_X12_row_84 : decode J_X12_row.2.1 84 = .ok (.ireturn, 1) := by decide +kernel
def f_X12_row_57 (N : Nat) (K : oK)  : Nat → Int32 → Int32 → oM → Option (Int32 × oM)
  | 0, _, _, _ => none
  | n + 1, p1, p4, M => (fun r57 => (if (((60 : Int32) * p1) + 60) ≤ p4 then some (1, M) else oIx (p4) 360 ((r57 p1 (p4 + 1) (oUpL M 99 (p4 : Int32).toNatClampNeg 0))))) (f_X12_row_57 N K  n)
set_option maxRecDepth 20000 in
theorem v_X12_row_57_L {X : oX} {d N : Nat} {K : oK}  (hd : 3 ≤ d) (hK : oSR K)  : ∀ (n : Nat) (p1 : Int32) (p4 : Int32) (M : oM) (v : Int32) (M' : oM)  , f_X12_row_57 N K  n p1 p4 M = some (v, M') → oEv X d J_X12_row 57 [some (.ref 59), some (.int p1), none, none, some (.int p4)] [] K M (some (.int v)) K M' := by
  intro n
  induction n with
  | zero =>
    intro p1 p4 M v M'   h
    cases h
  | succ n hr57 =>
    intro p1 p4 M v M'   h
    refine oe_iload (pc := 57) d_X12_row_57 rfl ?_
    refine oe_bipush (pc := 59) (v := 60) d_X12_row_59 rfl ?_
    refine oe_iload_n (pc := 61) d_X12_row_61 rfl ?_
    refine oe_imul (pc := 62) d_X12_row_62 ?_
    refine oe_bipush (pc := 63) (v := 60) d_X12_row_63 rfl ?_
    refine oe_iadd (pc := 65) d_X12_row_65 ?_
    refine oe_icmp_ge (pc := 66) (tgt := 83) d_X12_row_66 (by decide) (fun c11 => ?_) (fun c11 => ?_)
    · replace h := (if_pos c11).symm.trans h
      refine oe_iconst (pc := 83) (v := 1) d_X12_row_83 rfl ?_
      obtain ⟨rfl, rfl⟩ := oRes h
      exact oe_iret (pc := 84) d_X12_row_84 ⟨_, rfl, rfl⟩
    · replace h := (if_neg c11).symm.trans h
      refine oe_aload_n (pc := 69) d_X12_row_69 rfl ?_
      refine oe_getr (pc := 70) d_X12_row_70 fl_X12_128 ock12 (k := 64) (b := 99) (Nat.le_of_ble_eq_true rfl) (by decide) (oLt hK (a := 59) (Nat.le_of_ble_eq_true rfl)) (oSho hK (a := 59) (Nat.le_of_ble_eq_true rfl) rfl) (oRfK hK rfl) ?_
      refine oe_iload (pc := 73) d_X12_row_73 rfl ?_
      refine oe_lconst (pc := 75) (v := 0) d_X12_row_75 rfl ?_
      obtain ⟨i12, h⟩ := oIx_some h
      refine oe_last (pc := 76) d_X12_row_76 (oLt hK (a := 99) (Nat.le_of_ble_eq_true rfl)) (oSha hK (a := 99) (Nat.le_of_ble_eq_true rfl) rfl) i12 ?_
      refine oe_iinc (pc := 77) (v := (p4 + 1)) (L2 := [_, _, _, _, _]) d_X12_row_77 rfl rfl rfl (Nat.le_of_ble_eq_true rfl) rfl ?_
      refine oe_goto (pc := 80) (tgt := 57) d_X12_row_80 (by decide) ?_
      exact hr57 _ _ _ _ _ h
theorem v_X12_row_57 {X : oX} {d N : Nat} {K : oK}  {p1 : Int32} {p4 : Int32} {M : oM} {v : Int32} {M' : oM}  (hd : 3 ≤ d) (hK : oSR K)   (h : f_X12_row_57 N K  N p1 p4 M = some (v, M')) : oEv X d J_X12_row 57 [some (.ref 59), some (.int p1), none, none, some (.int p4)] [] K M (some (.int v)) K M' := v_X12_row_57_L hd hK  N p1 p4 M v M'   h
def f_X12_row (N : Nat) (K : oK) (p1 : Int32) (p2 : Int32) (p3 : Int32) (M : oM) : Option (Int32 × oM) :=
  oB2 (f_X12_isShelf N K p1 M) (fun v1 M2 => cond v1 (oB2 (f_X12_within N K ((p2 : Int32).toInt64) 0 4 M2) (fun v4 M5 => cond v4 ((if p3 ≤ 60 then (if 0 ≤ p3 then oIx (p1) 6 (oIx (p1) 6 ((f_X12_row_57 N K  N p1 ((60 : Int32) * p1) (oUp (oUp M5 97 (p1 : Int32).toNatClampNeg ((20 : Int32) + p2)) 98 (p1 : Int32).toNatClampNeg p3)))) else some ((-14), M5)) else some ((-1), M5))) (some ((-1), M5)))) (some ((-1), M2)))
set_option maxRecDepth 20000 in
theorem v_X12_row {X : oX} {N : Nat} {K : oK} {p1 : Int32} {p2 : Int32} {p3 : Int32} {M : oM} {v : Int32} {M' : oM} (hK : oSR K)  (h : f_X12_row N K p1 p2 p3 M = some (v, M')) : oMet X 3 J_X12_row [(.ref 59), (.int p1), (.int p2), (.int p3)] K M (some (.int v)) K M' := by
  unfold f_X12_row at h
  refine oMet_of (L := [some (.ref 59), some (.int p1), some (.int p2), some (.int p3), none]) jJ_X12_row.1 rfl (Nat.le_of_ble_eq_true rfl) rfl (Nat.le_refl _) (Nat.le_refl _) ?_
  have hd : 3 ≤ 3 := Nat.le_refl _
  refine oe_iload_n (pc := 0) d_X12_row_0 rfl ?_
  obtain ⟨v1, M2, q3, h⟩ := oB2_some h
  cases v1 with
  | true =>
    replace h := oCt h
    refine oe_callS (pc := 1) d_X12_row_1 (v_X12_isShelf hK  q3) (by omega) ml_X12_237 jJ_X12_isShelf rfl rfl (Nat.le_of_ble_eq_true rfl) ⟨Nat.le_refl _, Nat.le_refl _⟩ ⟨Nat.le_refl _, Nat.le_refl _⟩ ?_
    refine oe_if_eq (pc := 4) (tgt := 25) d_X12_row_4 (by decide) (fun c => absurd c (by decide)) (fun _ => ?_)
    refine oe_iload_n (pc := 7) d_X12_row_7 rfl ?_
    refine oe_i2l (pc := 8) d_X12_row_8 ?_
    refine oe_lconst (pc := 9) (v := 0) d_X12_row_9 rfl ?_
    refine oe_ldc2 (pc := 10) d_X12_row_10 co_X12_178 ?_
    obtain ⟨v4, M5, q6, h⟩ := oB2_some h
    cases v4 with
    | true =>
      replace h := oCt h
      refine oe_callS (pc := 13) d_X12_row_13 (v_X12_within hK  q6) (by omega) ml_X12_145 jJ_X12_within rfl rfl (Nat.le_of_ble_eq_true rfl) ⟨Nat.le_refl _, Nat.le_refl _⟩ ⟨Nat.le_refl _, Nat.le_refl _⟩ ?_
      refine oe_if_eq (pc := 16) (tgt := 25) d_X12_row_16 (by decide) (fun c => absurd c (by decide)) (fun _ => ?_)
      refine oe_iload_n (pc := 19) d_X12_row_19 rfl ?_
      refine oe_bipush (pc := 20) (v := 60) d_X12_row_20 rfl ?_
      refine oe_icmp_le (pc := 22) (tgt := 27) d_X12_row_22 (by decide) (fun c7 => ?_) (fun c7 => ?_)
      · replace h := (if_pos c7).symm.trans h
        refine oe_iload_n (pc := 27) d_X12_row_27 rfl ?_
        refine oe_if_ge (pc := 28) (tgt := 34) d_X12_row_28 (by decide) (fun c8 => ?_) (fun c8 => ?_)
        · replace h := (if_pos c8).symm.trans h
          refine oe_aload_n (pc := 34) d_X12_row_34 rfl ?_
          refine oe_getr (pc := 35) d_X12_row_35 fl_X12_122 ock12 (k := 62) (b := 97) (Nat.le_of_ble_eq_true rfl) (by decide) (oLt hK (a := 59) (Nat.le_of_ble_eq_true rfl)) (oSho hK (a := 59) (Nat.le_of_ble_eq_true rfl) rfl) (oRfK hK rfl) ?_
          refine oe_iload_n (pc := 38) d_X12_row_38 rfl ?_
          refine oe_bipush (pc := 39) (v := 20) d_X12_row_39 rfl ?_
          refine oe_iload_n (pc := 41) d_X12_row_41 rfl ?_
          refine oe_iadd (pc := 42) d_X12_row_42 ?_
          obtain ⟨i9, h⟩ := oIx_some h
          refine oe_iast (pc := 43) d_X12_row_43 (oLt hK (a := 97) (Nat.le_of_ble_eq_true rfl)) (oSha hK (a := 97) (Nat.le_of_ble_eq_true rfl) rfl) i9 ?_
          refine oe_aload_n (pc := 44) d_X12_row_44 rfl ?_
          refine oe_getr (pc := 45) d_X12_row_45 fl_X12_125 ock12 (k := 63) (b := 98) (Nat.le_of_ble_eq_true rfl) (by decide) (oLt hK (a := 59) (Nat.le_of_ble_eq_true rfl)) (oSho hK (a := 59) (Nat.le_of_ble_eq_true rfl) rfl) (oRfK hK rfl) ?_
          refine oe_iload_n (pc := 48) d_X12_row_48 rfl ?_
          refine oe_iload_n (pc := 49) d_X12_row_49 rfl ?_
          obtain ⟨i10, h⟩ := oIx_some h
          refine oe_iast (pc := 50) d_X12_row_50 (oLt hK (a := 98) (Nat.le_of_ble_eq_true rfl)) (oSha hK (a := 98) (Nat.le_of_ble_eq_true rfl) rfl) i10 ?_
          refine oe_bipush (pc := 51) (v := 60) d_X12_row_51 rfl ?_
          refine oe_iload_n (pc := 53) d_X12_row_53 rfl ?_
          refine oe_imul (pc := 54) d_X12_row_54 ?_
          refine oe_istore (pc := 55) (L2 := [_, _, _, _, _]) d_X12_row_55 rfl (Nat.le_of_ble_eq_true rfl) rfl ?_
          refine oEv.fg [true, true, false, false, true] ?_
          exact v_X12_row_57 hd hK   h
        · replace h := (if_neg c8).symm.trans h
          refine oe_bipush (pc := 31) (v := (-14)) d_X12_row_31 rfl ?_
          obtain ⟨rfl, rfl⟩ := oRes h
          exact oe_iret (pc := 33) d_X12_row_33 ⟨_, rfl, rfl⟩
      · replace h := (if_neg c7).symm.trans h
        refine oe_iconst (pc := 25) (v := (-1)) d_X12_row_25 rfl ?_
        obtain ⟨rfl, rfl⟩ := oRes h
        exact oe_iret (pc := 26) d_X12_row_26 ⟨_, rfl, rfl⟩
    | false =>
      replace h := oCf h
      refine oe_callS (pc := 13) d_X12_row_13 (v_X12_within hK  q6) (by omega) ml_X12_145 jJ_X12_within rfl rfl (Nat.le_of_ble_eq_true rfl) ⟨Nat.le_refl _, Nat.le_refl _⟩ ⟨Nat.le_refl _, Nat.le_refl _⟩ ?_
      refine oe_if_eq (pc := 16) (tgt := 25) d_X12_row_16 (by decide) (fun _ => ?_) (fun c => absurd (by decide) c)
      refine oe_iconst (pc := 25) (v := (-1)) d_X12_row_25 rfl ?_
      obtain ⟨rfl, rfl⟩ := oRes h
      exact oe_iret (pc := 26) d_X12_row_26 ⟨_, rfl, rfl⟩
  | false =>
    replace h := oCf h
    refine oe_callS (pc := 1) d_X12_row_1 (v_X12_isShelf hK  q3) (by omega) ml_X12_237 jJ_X12_isShelf rfl rfl (Nat.le_of_ble_eq_true rfl) ⟨Nat.le_refl _, Nat.le_refl _⟩ ⟨Nat.le_refl _, Nat.le_refl _⟩ ?_
    refine oe_if_eq (pc := 4) (tgt := 25) d_X12_row_4 (by decide) (fun _ => ?_) (fun c => absurd (by decide) c)
    refine oe_iconst (pc := 25) (v := (-1)) d_X12_row_25 rfl ?_
    obtain ⟨rfl, rfl⟩ := oRes h
    exact oe_iret (pc := 26) d_X12_row_26 ⟨_, rfl, rfl⟩
