/-! walked by program: X2_pressureBehind, X2_judged, X2_greatest, X3_isEngine, X3_addEngine, X3_tellTable, X4_isPoint, X8_begin, X4_addPoint, X4_addWay, X4_otherEnd, X4_hasten -/
theorem d_X2_pressureBehind_0 : decode J_X2_pressureBehind.2.1 0 = .ok (.iconst 0, 1) := by decide +kernel
theorem d_X2_pressureBehind_1 : decode J_X2_pressureBehind.2.1 1 = .ok (.istore_n 3, 1) := by decide +kernel
theorem d_X2_pressureBehind_2 : decode J_X2_pressureBehind.2.1 2 = .ok (.iconst 0, 1) := by decide +kernel
theorem d_X2_pressureBehind_3 : decode J_X2_pressureBehind.2.1 3 = .ok (.istore 4, 2) := by decide +kernel
theorem d_X2_pressureBehind_5 : decode J_X2_pressureBehind.2.1 5 = .ok (.iload 4, 2) := by decide +kernel
theorem d_X2_pressureBehind_7 : decode J_X2_pressureBehind.2.1 7 = .ok (.iload_n 1, 1) := by decide +kernel
theorem d_X2_pressureBehind_8 : decode J_X2_pressureBehind.2.1 8 = .ok (.if_icmp .gt 27, 3) := by decide +kernel
theorem d_X2_pressureBehind_11 : decode J_X2_pressureBehind.2.1 11 = .ok (.iload 4, 2) := by decide +kernel
theorem d_X2_pressureBehind_13 : decode J_X2_pressureBehind.2.1 13 = .ok (.aload_n 0, 1) := by decide +kernel
theorem d_X2_pressureBehind_14 : decode J_X2_pressureBehind.2.1 14 = .ok (.getfield 38, 3) := by decide +kernel
theorem d_X2_pressureBehind_17 : decode J_X2_pressureBehind.2.1 17 = .ok (.if_icmp .ge 18, 3) := by decide +kernel
theorem d_X2_pressureBehind_20 : decode J_X2_pressureBehind.2.1 20 = .ok (.aload_n 0, 1) := by decide +kernel
theorem d_X2_pressureBehind_21 : decode J_X2_pressureBehind.2.1 21 = .ok (.iload 4, 2) := by decide +kernel
theorem d_X2_pressureBehind_23 : decode J_X2_pressureBehind.2.1 23 = .ok (.iload_n 3, 1) := by decide +kernel
theorem d_X2_pressureBehind_24 : decode J_X2_pressureBehind.2.1 24 = .ok (.iload_n 2, 1) := by decide +kernel
theorem d_X2_pressureBehind_25 : decode J_X2_pressureBehind.2.1 25 = .ok (.invokevirtual 82, 3) := by decide +kernel
theorem d_X2_pressureBehind_28 : decode J_X2_pressureBehind.2.1 28 = .ok (.istore_n 3, 1) := by decide +kernel
theorem d_X2_pressureBehind_29 : decode J_X2_pressureBehind.2.1 29 = .ok (.iinc 4 1, 3) := by decide +kernel
theorem d_X2_pressureBehind_32 : decode J_X2_pressureBehind.2.1 32 = .ok (.goto (-27), 3) := by decide +kernel
theorem d_X2_pressureBehind_35 : decode J_X2_pressureBehind.2.1 35 = .ok (.iload_n 3, 1) := by decide +kernel
theorem d_X2_pressureBehind_36 : decode J_X2_pressureBehind.2.1 36 = .ok (.ireturn, 1) := by decide +kernel
def f_X2_pressureBehind_5 (N : Nat) (K : oK)  : Nat → Int32 → Int32 → Int32 → Int32 → oM → Option (Int32 × oM)
  | 0, _, _, _, _, _ => none
  | n + 1, p1, p2, p3, p4, M => (fun r5 => (if p1 < p4 then some (p3, M) else (if (M.1 21 8) ≤ p4 then some (p3, M) else oB2 (f_X2_behind N K p4 p3 p2 M) (fun v3 M4 => (r5 p1 p2 v3 (p4 + 1) M4))))) (f_X2_pressureBehind_5 N K  n)
set_option maxRecDepth 20000 in
theorem v_X2_pressureBehind_5_L {X : oX} {d N : Nat} {K : oK}  (hd : 4 ≤ d) (hK : oSR K)  : ∀ (n : Nat) (p1 : Int32) (p2 : Int32) (p3 : Int32) (p4 : Int32) (M : oM) (v : Int32) (M' : oM)  , f_X2_pressureBehind_5 N K  n p1 p2 p3 p4 M = some (v, M') → oEv X d J_X2_pressureBehind 5 [some (.ref 21), some (.int p1), some (.int p2), some (.int p3), some (.int p4)] [] K M (some (.int v)) K M' := by
  intro n
  induction n with
  | zero =>
    intro p1 p2 p3 p4 M v M'   h
    cases h
  | succ n hr5 =>
    intro p1 p2 p3 p4 M v M'   h
    refine oe_iload (pc := 5) d_X2_pressureBehind_5 rfl ?_
    refine oe_iload_n (pc := 7) d_X2_pressureBehind_7 rfl ?_
    refine oe_icmp_gt (pc := 8) (tgt := 35) d_X2_pressureBehind_8 (by decide) (fun c1 => ?_) (fun c1 => ?_)
    · replace h := (if_pos c1).symm.trans h
      refine oe_iload_n (pc := 35) d_X2_pressureBehind_35 rfl ?_
      obtain ⟨rfl, rfl⟩ := oRes h
      exact oe_iret (pc := 36) d_X2_pressureBehind_36 ⟨_, rfl, rfl⟩
    · replace h := (if_neg c1).symm.trans h
      refine oe_iload (pc := 11) d_X2_pressureBehind_11 rfl ?_
      refine oe_aload_n (pc := 13) d_X2_pressureBehind_13 rfl ?_
      refine oe_getf (pc := 14) d_X2_pressureBehind_14 fl_X2_38 ock2 (k := 8) (Nat.le_of_ble_eq_true rfl) rfl (oLt hK (a := 21) (Nat.le_of_ble_eq_true rfl)) (oSho hK (a := 21) (Nat.le_of_ble_eq_true rfl) rfl) ?_
      refine oe_icmp_ge (pc := 17) (tgt := 35) d_X2_pressureBehind_17 (by decide) (fun c2 => ?_) (fun c2 => ?_)
      · replace h := (if_pos c2).symm.trans h
        refine oe_iload_n (pc := 35) d_X2_pressureBehind_35 rfl ?_
        obtain ⟨rfl, rfl⟩ := oRes h
        exact oe_iret (pc := 36) d_X2_pressureBehind_36 ⟨_, rfl, rfl⟩
      · replace h := (if_neg c2).symm.trans h
        refine oe_aload_n (pc := 20) d_X2_pressureBehind_20 rfl ?_
        refine oe_iload (pc := 21) d_X2_pressureBehind_21 rfl ?_
        refine oe_iload_n (pc := 23) d_X2_pressureBehind_23 rfl ?_
        refine oe_iload_n (pc := 24) d_X2_pressureBehind_24 rfl ?_
        obtain ⟨v3, M4, q5, h⟩ := oB2_some h
        refine oe_callV (pc := 25) (ci := 2) d_X2_pressureBehind_25 (v_X2_behind hK  q5) (by omega) ml_X2_82 jJ_X2_behind rfl rfl (oLt hK (a := 21) (Nat.le_of_ble_eq_true rfl)) (oSho hK (a := 21) (Nat.le_of_ble_eq_true rfl) rfl) ock2 rfl (Nat.le_of_ble_eq_true rfl) ⟨Nat.le_refl _, Nat.le_refl _⟩ ⟨Nat.le_refl _, Nat.le_refl _⟩ ?_
        refine oe_istore_n (pc := 28) (L2 := [_, _, _, _, _]) d_X2_pressureBehind_28 rfl rfl (Nat.le_of_ble_eq_true rfl) rfl ?_
        refine oe_iinc (pc := 29) (v := (p4 + 1)) (L2 := [_, _, _, _, _]) d_X2_pressureBehind_29 rfl rfl rfl (Nat.le_of_ble_eq_true rfl) rfl ?_
        refine oe_goto (pc := 32) (tgt := 5) d_X2_pressureBehind_32 (by decide) ?_
        exact hr5 _ _ _ _ _ _ _ h
theorem v_X2_pressureBehind_5 {X : oX} {d N : Nat} {K : oK}  {p1 : Int32} {p2 : Int32} {p3 : Int32} {p4 : Int32} {M : oM} {v : Int32} {M' : oM}  (hd : 4 ≤ d) (hK : oSR K)   (h : f_X2_pressureBehind_5 N K  N p1 p2 p3 p4 M = some (v, M')) : oEv X d J_X2_pressureBehind 5 [some (.ref 21), some (.int p1), some (.int p2), some (.int p3), some (.int p4)] [] K M (some (.int v)) K M' := v_X2_pressureBehind_5_L hd hK  N p1 p2 p3 p4 M v M'   h
def f_X2_pressureBehind (N : Nat) (K : oK) (p1 : Int32) (p2 : Int32) (M : oM) : Option (Int32 × oM) :=
  (f_X2_pressureBehind_5 N K  N p1 p2 0 0 M)
set_option maxRecDepth 20000 in
theorem v_X2_pressureBehind {X : oX} {N : Nat} {K : oK} {p1 : Int32} {p2 : Int32} {M : oM} {v : Int32} {M' : oM} (hK : oSR K)  (h : f_X2_pressureBehind N K p1 p2 M = some (v, M')) : oMet X 4 J_X2_pressureBehind [(.ref 21), (.int p1), (.int p2)] K M (some (.int v)) K M' := by
  unfold f_X2_pressureBehind at h
  refine oMet_of (L := [some (.ref 21), some (.int p1), some (.int p2), none, none]) jJ_X2_pressureBehind.1 rfl (Nat.le_of_ble_eq_true rfl) rfl (Nat.le_refl _) (Nat.le_refl _) ?_
  have hd : 4 ≤ 4 := Nat.le_refl _
  refine oe_iconst (pc := 0) (v := 0) d_X2_pressureBehind_0 rfl ?_
  refine oe_istore_n (pc := 1) (L2 := [_, _, _, _, _]) d_X2_pressureBehind_1 rfl rfl (Nat.le_of_ble_eq_true rfl) rfl ?_
  refine oe_iconst (pc := 2) (v := 0) d_X2_pressureBehind_2 rfl ?_
  refine oe_istore (pc := 3) (L2 := [_, _, _, _, _]) d_X2_pressureBehind_3 rfl (Nat.le_of_ble_eq_true rfl) rfl ?_
  exact v_X2_pressureBehind_5 hd hK   h
theorem d_X2_judged_0 : decode J_X2_judged.2.1 0 = .ok (.iconst 0, 1) := by decide +kernel
theorem d_X2_judged_1 : decode J_X2_judged.2.1 1 = .ok (.istore 4, 2) := by decide +kernel
theorem d_X2_judged_3 : decode J_X2_judged.2.1 3 = .ok (.iconst 0, 1) := by decide +kernel
theorem d_X2_judged_4 : decode J_X2_judged.2.1 4 = .ok (.istore 5, 2) := by decide +kernel
theorem d_X2_judged_6 : decode J_X2_judged.2.1 6 = .ok (.iload 5, 2) := by decide +kernel
theorem d_X2_judged_8 : decode J_X2_judged.2.1 8 = .ok (.aload_n 0, 1) := by decide +kernel
theorem d_X2_judged_9 : decode J_X2_judged.2.1 9 = .ok (.getfield 38, 3) := by decide +kernel
theorem d_X2_judged_12 : decode J_X2_judged.2.1 12 = .ok (.if_icmp .ge 79, 3) := by decide +kernel
theorem d_X2_judged_15 : decode J_X2_judged.2.1 15 = .ok (.aload_n 0, 1) := by decide +kernel
theorem d_X2_judged_16 : decode J_X2_judged.2.1 16 = .ok (.iload 5, 2) := by decide +kernel
theorem d_X2_judged_18 : decode J_X2_judged.2.1 18 = .ok (.iload 4, 2) := by decide +kernel
theorem d_X2_judged_20 : decode J_X2_judged.2.1 20 = .ok (.iload_n 1, 1) := by decide +kernel
theorem d_X2_judged_21 : decode J_X2_judged.2.1 21 = .ok (.invokevirtual 82, 3) := by decide +kernel
theorem d_X2_judged_24 : decode J_X2_judged.2.1 24 = .ok (.istore 6, 2) := by decide +kernel
theorem d_X2_judged_26 : decode J_X2_judged.2.1 26 = .ok (.aload_n 0, 1) := by decide +kernel
theorem d_X2_judged_27 : decode J_X2_judged.2.1 27 = .ok (.getfield 11, 3) := by decide +kernel
theorem d_X2_judged_30 : decode J_X2_judged.2.1 30 = .ok (.iload 5, 2) := by decide +kernel
theorem d_X2_judged_32 : decode J_X2_judged.2.1 32 = .ok (.iaload, 1) := by decide +kernel
theorem d_X2_judged_33 : decode J_X2_judged.2.1 33 = .ok (.iconst 1, 1) := by decide +kernel
theorem d_X2_judged_34 : decode J_X2_judged.2.1 34 = .ok (.if_icmp .eq 11, 3) := by decide +kernel
theorem d_X2_judged_37 : decode J_X2_judged.2.1 37 = .ok (.iload 4, 2) := by decide +kernel
theorem d_X2_judged_39 : decode J_X2_judged.2.1 39 = .ok (.ifCond .ge 42, 3) := by decide +kernel
theorem d_X2_judged_42 : decode J_X2_judged.2.1 42 = .ok (.iload 5, 2) := by decide +kernel
theorem d_X2_judged_44 : decode J_X2_judged.2.1 44 = .ok (.ireturn, 1) := by decide +kernel
theorem d_X2_judged_45 : decode J_X2_judged.2.1 45 = .ok (.iload_n 3, 1) := by decide +kernel
theorem d_X2_judged_46 : decode J_X2_judged.2.1 46 = .ok (.ifCond .eq 35, 3) := by decide +kernel
theorem d_X2_judged_49 : decode J_X2_judged.2.1 49 = .ok (.iload 4, 2) := by decide +kernel
theorem d_X2_judged_51 : decode J_X2_judged.2.1 51 = .ok (.iload 6, 2) := by decide +kernel
theorem d_X2_judged_53 : decode J_X2_judged.2.1 53 = .ok (.invokestatic 86, 3) := by decide +kernel
theorem d_X2_judged_56 : decode J_X2_judged.2.1 56 = .ok (.aload_n 0, 1) := by decide +kernel
theorem d_X2_judged_57 : decode J_X2_judged.2.1 57 = .ok (.getfield 34, 3) := by decide +kernel
theorem d_X2_judged_60 : decode J_X2_judged.2.1 60 = .ok (.getfield 91, 3) := by decide +kernel
theorem d_X2_judged_63 : decode J_X2_judged.2.1 63 = .ok (.iconst 0, 1) := by decide +kernel
theorem d_X2_judged_64 : decode J_X2_judged.2.1 64 = .ok (.aload_n 0, 1) := by decide +kernel
theorem d_X2_judged_65 : decode J_X2_judged.2.1 65 = .ok (.getfield 18, 3) := by decide +kernel
theorem d_X2_judged_68 : decode J_X2_judged.2.1 68 = .ok (.iload 5, 2) := by decide +kernel
theorem d_X2_judged_70 : decode J_X2_judged.2.1 70 = .ok (.iaload, 1) := by decide +kernel
theorem d_X2_judged_71 : decode J_X2_judged.2.1 71 = .ok (.iadd, 1) := by decide +kernel
theorem d_X2_judged_72 : decode J_X2_judged.2.1 72 = .ok (.invokevirtual 95, 3) := by decide +kernel
theorem d_X2_judged_75 : decode J_X2_judged.2.1 75 = .ok (.if_icmp .le 6, 3) := by decide +kernel
theorem d_X2_judged_78 : decode J_X2_judged.2.1 78 = .ok (.iload 5, 2) := by decide +kernel
theorem d_X2_judged_80 : decode J_X2_judged.2.1 80 = .ok (.ireturn, 1) := by decide +kernel
theorem d_X2_judged_81 : decode J_X2_judged.2.1 81 = .ok (.iload 6, 2) := by decide +kernel
theorem d_X2_judged_83 : decode J_X2_judged.2.1 83 = .ok (.istore 4, 2) := by decide +kernel
theorem d_X2_judged_85 : decode J_X2_judged.2.1 85 = .ok (.iinc 5 1, 3) := by decide +kernel
theorem d_X2_judged_88 : decode J_X2_judged.2.1 88 = .ok (.goto (-82), 3) := by decide +kernel
theorem d_X2_judged_91 : decode J_X2_judged.2.1 91 = .ok (.iload 4, 2) := by decide +kernel
theorem d_X2_judged_93 : decode J_X2_judged.2.1 93 = .ok (.iload_n 2, 1) := by decide +kernel
theorem d_X2_judged_94 : decode J_X2_judged.2.1 94 = .ok (.if_icmp .ge 8, 3) := by decide +kernel
theorem d_X2_judged_97 : decode J_X2_judged.2.1 97 = .ok (.bipush 100, 2) := by decide +kernel
theorem d_X2_judged_99 : decode J_X2_judged.2.1 99 = .ok (.goto 5, 3) := by decide +kernel
theorem d_X2_judged_102 : decode J_X2_judged.2.1 102 = .ok (.bipush (-2), 2) := by decide +kernel
theorem d_X2_judged_104 : decode J_X2_judged.2.1 104 = .ok (.ireturn, 1) := by decide +kernel
def f_X2_judged_81 (N : Nat) (K : oK) (r6 : (Int32 → Int32 → Int32 → Int32 → Int32 → oM → Option (Int32 × oM))) (p1 : Int32) (p2 : Int32) (p3 : Int32) (p5 : Int32) (p6 : Int32) (M : oM) : Option (Int32 × oM) :=
  (r6 p1 p2 p3 p6 (p5 + 1) M)
set_option maxRecDepth 20000 in
theorem v_X2_judged_81 {X : oX} {d N : Nat} {K : oK} {r6 : (Int32 → Int32 → Int32 → Int32 → Int32 → oM → Option (Int32 × oM))} {p1 : Int32} {p2 : Int32} {p3 : Int32} {p5 : Int32} {p6 : Int32} {M : oM} {v : Int32} {M' : oM}  (hd : 4 ≤ d) (hK : oSR K)  (hr6 : ∀ (p1 : Int32) (p2 : Int32) (p3 : Int32) (p4 : Int32) (p5 : Int32) (M : oM) (v : Int32) (M' : oM) , r6 p1 p2 p3 p4 p5 M = some (v, M') → oEv X d J_X2_judged 6 [some (.ref 21), some (.int p1), some (.int p2), some (.int p3), some (.int p4), some (.int p5), none] [] K M (some (.int v)) K M') (h : f_X2_judged_81 N K r6 p1 p2 p3 p5 p6 M = some (v, M')) : oEv X d J_X2_judged 81 [some (.ref 21), some (.int p1), some (.int p2), some (.int p3), none, some (.int p5), some (.int p6)] [] K M (some (.int v)) K M' := by
  unfold f_X2_judged_81 at h
  refine oe_iload (pc := 81) d_X2_judged_81 rfl ?_
  refine oe_istore (pc := 83) (L2 := [_, _, _, _, _, _, _]) d_X2_judged_83 rfl (Nat.le_of_ble_eq_true rfl) rfl ?_
  refine oe_iinc (pc := 85) (v := (p5 + 1)) (L2 := [_, _, _, _, _, _, _]) d_X2_judged_85 rfl rfl rfl (Nat.le_of_ble_eq_true rfl) rfl ?_
  refine oe_goto (pc := 88) (tgt := 6) d_X2_judged_88 (by decide) ?_
  refine oEv.fg [true, true, true, true, true, true, false] ?_
  exact hr6 _ _ _ _ _ _ _ _ h
def f_X2_judged_6 (N : Nat) (K : oK)  : Nat → Int32 → Int32 → Int32 → Int32 → Int32 → oM → Option (Int32 × oM)
  | 0, _, _, _, _, _, _ => none
  | n + 1, p1, p2, p3, p4, p5, M => (fun r6 => (if (M.1 21 8) ≤ p5 then (if p2 ≤ p4 then some ((-2), M) else some (100, M)) else oB2 (f_X2_behind N K p5 p4 p1 M) (fun v3 M4 => oIx (p5) 25 ((if (M4.1 22 (p5 : Int32).toNatClampNeg) = 1 then (if p3 = 0 then (f_X2_judged_81 N K r6 p1 p2 p3 p5 v3 M4) else oIx (p5) 25 (oB2 (f_X8_at N K ((0 : Int32) + (M4.1 24 (p5 : Int32).toNatClampNeg)) M4) (fun v10 M11 => (if (if p4 < v3 then v3 else p4) ≤ v10 then (f_X2_judged_81 N K r6 p1 p2 p3 p5 v3 M11) else some (p5, M11))))) else (if 0 ≤ p4 then (f_X2_judged_81 N K r6 p1 p2 p3 p5 v3 M4) else some (p5, M4))))))) (f_X2_judged_6 N K  n)
set_option maxRecDepth 20000 in
theorem v_X2_judged_6_L {X : oX} {d N : Nat} {K : oK}  (hd : 4 ≤ d) (hK : oSR K)  : ∀ (n : Nat) (p1 : Int32) (p2 : Int32) (p3 : Int32) (p4 : Int32) (p5 : Int32) (M : oM) (v : Int32) (M' : oM)  , f_X2_judged_6 N K  n p1 p2 p3 p4 p5 M = some (v, M') → oEv X d J_X2_judged 6 [some (.ref 21), some (.int p1), some (.int p2), some (.int p3), some (.int p4), some (.int p5), none] [] K M (some (.int v)) K M' := by
  intro n
  induction n with
  | zero =>
    intro p1 p2 p3 p4 p5 M v M'   h
    cases h
  | succ n hr6 =>
    intro p1 p2 p3 p4 p5 M v M'   h
    refine oe_iload (pc := 6) d_X2_judged_6 rfl ?_
    refine oe_aload_n (pc := 8) d_X2_judged_8 rfl ?_
    refine oe_getf (pc := 9) d_X2_judged_9 fl_X2_38 ock2 (k := 8) (Nat.le_of_ble_eq_true rfl) rfl (oLt hK (a := 21) (Nat.le_of_ble_eq_true rfl)) (oSho hK (a := 21) (Nat.le_of_ble_eq_true rfl) rfl) ?_
    refine oe_icmp_ge (pc := 12) (tgt := 91) d_X2_judged_12 (by decide) (fun c1 => ?_) (fun c1 => ?_)
    · replace h := (if_pos c1).symm.trans h
      refine oe_iload (pc := 91) d_X2_judged_91 rfl ?_
      refine oe_iload_n (pc := 93) d_X2_judged_93 rfl ?_
      refine oe_icmp_ge (pc := 94) (tgt := 102) d_X2_judged_94 (by decide) (fun c2 => ?_) (fun c2 => ?_)
      · replace h := (if_pos c2).symm.trans h
        refine oe_bipush (pc := 102) (v := (-2)) d_X2_judged_102 rfl ?_
        obtain ⟨rfl, rfl⟩ := oRes h
        exact oe_iret (pc := 104) d_X2_judged_104 ⟨_, rfl, rfl⟩
      · replace h := (if_neg c2).symm.trans h
        refine oe_bipush (pc := 97) (v := 100) d_X2_judged_97 rfl ?_
        refine oe_goto (pc := 99) (tgt := 104) d_X2_judged_99 (by decide) ?_
        obtain ⟨rfl, rfl⟩ := oRes h
        exact oe_iret (pc := 104) d_X2_judged_104 ⟨_, rfl, rfl⟩
    · replace h := (if_neg c1).symm.trans h
      refine oe_aload_n (pc := 15) d_X2_judged_15 rfl ?_
      refine oe_iload (pc := 16) d_X2_judged_16 rfl ?_
      refine oe_iload (pc := 18) d_X2_judged_18 rfl ?_
      refine oe_iload_n (pc := 20) d_X2_judged_20 rfl ?_
      obtain ⟨v3, M4, q5, h⟩ := oB2_some h
      refine oe_callV (pc := 21) (ci := 2) d_X2_judged_21 (v_X2_behind hK  q5) (by omega) ml_X2_82 jJ_X2_behind rfl rfl (oLt hK (a := 21) (Nat.le_of_ble_eq_true rfl)) (oSho hK (a := 21) (Nat.le_of_ble_eq_true rfl) rfl) ock2 rfl (Nat.le_of_ble_eq_true rfl) ⟨Nat.le_refl _, Nat.le_refl _⟩ ⟨Nat.le_refl _, Nat.le_refl _⟩ ?_
      refine oe_istore (pc := 24) (L2 := [_, _, _, _, _, _, _]) d_X2_judged_24 rfl (Nat.le_of_ble_eq_true rfl) rfl ?_
      refine oe_aload_n (pc := 26) d_X2_judged_26 rfl ?_
      refine oe_getr (pc := 27) d_X2_judged_27 fl_X2_11 ock2 (k := 2) (b := 22) (Nat.le_of_ble_eq_true rfl) (by decide) (oLt hK (a := 21) (Nat.le_of_ble_eq_true rfl)) (oSho hK (a := 21) (Nat.le_of_ble_eq_true rfl) rfl) (oRfK hK rfl) ?_
      refine oe_iload (pc := 30) d_X2_judged_30 rfl ?_
      obtain ⟨i6, h⟩ := oIx_some h
      refine oe_iald (pc := 32) d_X2_judged_32 (oLt hK (a := 22) (Nat.le_of_ble_eq_true rfl)) (oSha hK (a := 22) (Nat.le_of_ble_eq_true rfl) rfl) i6 ?_
      refine oe_iconst (pc := 33) (v := 1) d_X2_judged_33 rfl ?_
      refine oe_icmp_eq (pc := 34) (tgt := 45) d_X2_judged_34 (by decide) (fun c7 => ?_) (fun c7 => ?_)
      · replace h := (if_pos c7).symm.trans h
        refine oe_iload_n (pc := 45) d_X2_judged_45 rfl ?_
        refine oe_if_eq (pc := 46) (tgt := 81) d_X2_judged_46 (by decide) (fun c8 => ?_) (fun c8 => ?_)
        · replace h := (if_pos c8).symm.trans h
          refine oEv.fg [true, true, true, true, false, true, true] ?_
          exact v_X2_judged_81 hd hK  hr6 h
        · replace h := (if_neg c8).symm.trans h
          refine oe_iload (pc := 49) d_X2_judged_49 rfl ?_
          refine oe_iload (pc := 51) d_X2_judged_51 rfl ?_
          refine oe_mmax (pc := 53) d_X2_judged_53 mm_X2_86 (by omega) (Nat.le_of_ble_eq_true rfl) ?_
          refine oe_aload_n (pc := 56) d_X2_judged_56 rfl ?_
          refine oe_getr (pc := 57) d_X2_judged_57 fl_X2_34 ock2 (k := 1) (b := 11) (Nat.le_of_ble_eq_true rfl) (by decide) (oLt hK (a := 21) (Nat.le_of_ble_eq_true rfl)) (oSho hK (a := 21) (Nat.le_of_ble_eq_true rfl) rfl) (oRfK hK rfl) ?_
          refine oe_getr (pc := 60) d_X2_judged_60 fl_X2_91 ock3 (k := 0) (b := 1) (Nat.le_of_ble_eq_true rfl) (by decide) (oLt hK (a := 11) (Nat.le_of_ble_eq_true rfl)) (oSho hK (a := 11) (Nat.le_of_ble_eq_true rfl) rfl) (oRfK hK rfl) ?_
          refine oe_iconst (pc := 63) (v := 0) d_X2_judged_63 rfl ?_
          refine oe_aload_n (pc := 64) d_X2_judged_64 rfl ?_
          refine oe_getr (pc := 65) d_X2_judged_65 fl_X2_18 ock2 (k := 4) (b := 24) (Nat.le_of_ble_eq_true rfl) (by decide) (oLt hK (a := 21) (Nat.le_of_ble_eq_true rfl)) (oSho hK (a := 21) (Nat.le_of_ble_eq_true rfl) rfl) (oRfK hK rfl) ?_
          refine oe_iload (pc := 68) d_X2_judged_68 rfl ?_
          obtain ⟨i9, h⟩ := oIx_some h
          refine oe_iald (pc := 70) d_X2_judged_70 (oLt hK (a := 24) (Nat.le_of_ble_eq_true rfl)) (oSha hK (a := 24) (Nat.le_of_ble_eq_true rfl) rfl) i9 ?_
          refine oe_iadd (pc := 71) d_X2_judged_71 ?_
          obtain ⟨v10, M11, q12, h⟩ := oB2_some h
          refine oe_callV (pc := 72) (ci := 8) d_X2_judged_72 (v_X8_at hK  q12) (by omega) ml_X2_95 jJ_X8_at rfl rfl (oLt hK (a := 1) (Nat.le_of_ble_eq_true rfl)) (oSho hK (a := 1) (Nat.le_of_ble_eq_true rfl) rfl) ock8 rfl (Nat.le_of_ble_eq_true rfl) ⟨Nat.le_refl _, Nat.le_refl _⟩ ⟨Nat.le_refl _, Nat.le_refl _⟩ ?_
          refine oe_icmp_le (pc := 75) (tgt := 81) d_X2_judged_75 (by decide) (fun c13 => ?_) (fun c13 => ?_)
          · replace h := (if_pos c13).symm.trans h
            refine oEv.fg [true, true, true, true, false, true, true] ?_
            exact v_X2_judged_81 hd hK  hr6 h
          · replace h := (if_neg c13).symm.trans h
            refine oe_iload (pc := 78) d_X2_judged_78 rfl ?_
            obtain ⟨rfl, rfl⟩ := oRes h
            exact oe_iret (pc := 80) d_X2_judged_80 ⟨_, rfl, rfl⟩
      · replace h := (if_neg c7).symm.trans h
        refine oe_iload (pc := 37) d_X2_judged_37 rfl ?_
        refine oe_if_ge (pc := 39) (tgt := 81) d_X2_judged_39 (by decide) (fun c14 => ?_) (fun c14 => ?_)
        · replace h := (if_pos c14).symm.trans h
          refine oEv.fg [true, true, true, true, false, true, true] ?_
          exact v_X2_judged_81 hd hK  hr6 h
        · replace h := (if_neg c14).symm.trans h
          refine oe_iload (pc := 42) d_X2_judged_42 rfl ?_
          obtain ⟨rfl, rfl⟩ := oRes h
          exact oe_iret (pc := 44) d_X2_judged_44 ⟨_, rfl, rfl⟩
theorem v_X2_judged_6 {X : oX} {d N : Nat} {K : oK}  {p1 : Int32} {p2 : Int32} {p3 : Int32} {p4 : Int32} {p5 : Int32} {M : oM} {v : Int32} {M' : oM}  (hd : 4 ≤ d) (hK : oSR K)   (h : f_X2_judged_6 N K  N p1 p2 p3 p4 p5 M = some (v, M')) : oEv X d J_X2_judged 6 [some (.ref 21), some (.int p1), some (.int p2), some (.int p3), some (.int p4), some (.int p5), none] [] K M (some (.int v)) K M' := v_X2_judged_6_L hd hK  N p1 p2 p3 p4 p5 M v M'   h
def f_X2_judged (N : Nat) (K : oK) (p1 : Int32) (p2 : Int32) (p3 : Int32) (M : oM) : Option (Int32 × oM) :=
  (f_X2_judged_6 N K  N p1 p2 p3 0 0 M)
set_option maxRecDepth 20000 in
theorem v_X2_judged {X : oX} {N : Nat} {K : oK} {p1 : Int32} {p2 : Int32} {p3 : Int32} {M : oM} {v : Int32} {M' : oM} (hK : oSR K)  (h : f_X2_judged N K p1 p2 p3 M = some (v, M')) : oMet X 4 J_X2_judged [(.ref 21), (.int p1), (.int p2), (.int p3)] K M (some (.int v)) K M' := by
  unfold f_X2_judged at h
  refine oMet_of (L := [some (.ref 21), some (.int p1), some (.int p2), some (.int p3), none, none, none]) jJ_X2_judged.1 rfl (Nat.le_of_ble_eq_true rfl) rfl (Nat.le_refl _) (Nat.le_refl _) ?_
  have hd : 4 ≤ 4 := Nat.le_refl _
  refine oe_iconst (pc := 0) (v := 0) d_X2_judged_0 rfl ?_
  refine oe_istore (pc := 1) (L2 := [_, _, _, _, _, _, _]) d_X2_judged_1 rfl (Nat.le_of_ble_eq_true rfl) rfl ?_
  refine oe_iconst (pc := 3) (v := 0) d_X2_judged_3 rfl ?_
  refine oe_istore (pc := 4) (L2 := [_, _, _, _, _, _, _]) d_X2_judged_4 rfl (Nat.le_of_ble_eq_true rfl) rfl ?_
  exact v_X2_judged_6 hd hK   h
theorem d_X2_greatest_0 : decode J_X2_greatest.2.1 0 = .ok (.iconst (-1), 1) := by decide +kernel
theorem d_X2_greatest_1 : decode J_X2_greatest.2.1 1 = .ok (.istore_n 2, 1) := by decide +kernel
theorem d_X2_greatest_2 : decode J_X2_greatest.2.1 2 = .ok (.sipush 600, 3) := by decide +kernel
theorem d_X2_greatest_5 : decode J_X2_greatest.2.1 5 = .ok (.istore_n 3, 1) := by decide +kernel
theorem d_X2_greatest_6 : decode J_X2_greatest.2.1 6 = .ok (.iconst 0, 1) := by decide +kernel
theorem d_X2_greatest_7 : decode J_X2_greatest.2.1 7 = .ok (.istore 4, 2) := by decide +kernel
theorem d_X2_greatest_9 : decode J_X2_greatest.2.1 9 = .ok (.iload 4, 2) := by decide +kernel
theorem d_X2_greatest_11 : decode J_X2_greatest.2.1 11 = .ok (.bipush 10, 2) := by decide +kernel
theorem d_X2_greatest_13 : decode J_X2_greatest.2.1 13 = .ok (.if_icmp .ge 47, 3) := by decide +kernel
theorem d_X2_greatest_16 : decode J_X2_greatest.2.1 16 = .ok (.iload_n 2, 1) := by decide +kernel
theorem d_X2_greatest_17 : decode J_X2_greatest.2.1 17 = .ok (.iload_n 3, 1) := by decide +kernel
theorem d_X2_greatest_18 : decode J_X2_greatest.2.1 18 = .ok (.if_icmp .ge 42, 3) := by decide +kernel
theorem d_X2_greatest_21 : decode J_X2_greatest.2.1 21 = .ok (.iload_n 2, 1) := by decide +kernel
theorem d_X2_greatest_22 : decode J_X2_greatest.2.1 22 = .ok (.iload_n 3, 1) := by decide +kernel
theorem d_X2_greatest_23 : decode J_X2_greatest.2.1 23 = .ok (.iadd, 1) := by decide +kernel
theorem d_X2_greatest_24 : decode J_X2_greatest.2.1 24 = .ok (.iconst 1, 1) := by decide +kernel
theorem d_X2_greatest_25 : decode J_X2_greatest.2.1 25 = .ok (.iadd, 1) := by decide +kernel
theorem d_X2_greatest_26 : decode J_X2_greatest.2.1 26 = .ok (.iconst 2, 1) := by decide +kernel
theorem d_X2_greatest_27 : decode J_X2_greatest.2.1 27 = .ok (.idiv, 1) := by decide +kernel
theorem d_X2_greatest_28 : decode J_X2_greatest.2.1 28 = .ok (.istore 5, 2) := by decide +kernel
theorem d_X2_greatest_30 : decode J_X2_greatest.2.1 30 = .ok (.aload_n 0, 1) := by decide +kernel
theorem d_X2_greatest_31 : decode J_X2_greatest.2.1 31 = .ok (.iload 5, 2) := by decide +kernel
theorem d_X2_greatest_33 : decode J_X2_greatest.2.1 33 = .ok (.iload_n 1, 1) := by decide +kernel
theorem d_X2_greatest_34 : decode J_X2_greatest.2.1 34 = .ok (.iconst 0, 1) := by decide +kernel
theorem d_X2_greatest_35 : decode J_X2_greatest.2.1 35 = .ok (.invokevirtual 100, 3) := by decide +kernel
theorem d_X2_greatest_38 : decode J_X2_greatest.2.1 38 = .ok (.bipush (-2), 2) := by decide +kernel
theorem d_X2_greatest_40 : decode J_X2_greatest.2.1 40 = .ok (.if_icmp .ne 9, 3) := by decide +kernel
theorem d_X2_greatest_43 : decode J_X2_greatest.2.1 43 = .ok (.iload 5, 2) := by decide +kernel
theorem d_X2_greatest_45 : decode J_X2_greatest.2.1 45 = .ok (.istore_n 2, 1) := by decide +kernel
theorem d_X2_greatest_46 : decode J_X2_greatest.2.1 46 = .ok (.goto 8, 3) := by decide +kernel
theorem d_X2_greatest_49 : decode J_X2_greatest.2.1 49 = .ok (.iload 5, 2) := by decide +kernel
theorem d_X2_greatest_51 : decode J_X2_greatest.2.1 51 = .ok (.iconst 1, 1) := by decide +kernel
theorem d_X2_greatest_52 : decode J_X2_greatest.2.1 52 = .ok (.isub, 1) := by decide +kernel
theorem d_X2_greatest_53 : decode J_X2_greatest.2.1 53 = .ok (.istore_n 3, 1) := by decide +kernel
theorem d_X2_greatest_54 : decode J_X2_greatest.2.1 54 = .ok (.iinc 4 1, 3) := by decide +kernel
theorem d_X2_greatest_57 : decode J_X2_greatest.2.1 57 = .ok (.goto (-48), 3) := by decide +kernel
theorem d_X2_greatest_60 : decode J_X2_greatest.2.1 60 = .ok (.iload_n 2, 1) := by decide +kernel
theorem d_X2_greatest_61 : decode J_X2_greatest.2.1 61 = .ok (.ifCond .ge 8, 3) := by decide +kernel
theorem d_X2_greatest_64 : decode J_X2_greatest.2.1 64 = .ok (.bipush (-2), 2) := by decide +kernel
theorem d_X2_greatest_66 : decode J_X2_greatest.2.1 66 = .ok (.goto 4, 3) := by decide +kernel
theorem d_X2_greatest_69 : decode J_X2_greatest.2.1 69 = .ok (.iload_n 2, 1) := by decide +kernel
theorem d_X2_greatest_70 : decode J_X2_greatest.2.1 70 = .ok (.ireturn, 1) := by decide +kernel
def f_X2_greatest_60 (N : Nat) (K : oK)  (p2 : Int32) (M : oM) : Option (Int32 × oM) :=
  (if 0 ≤ p2 then some (p2, M) else some ((-2), M))
set_option maxRecDepth 20000 in
theorem v_X2_greatest_60 {X : oX} {d N : Nat} {K : oK}  {p2 : Int32} {M : oM} {v : Int32} {M' : oM}  (hd : 5 ≤ d) (hK : oSR K)   (h : f_X2_greatest_60 N K  p2 M = some (v, M')) : oEv X d J_X2_greatest 60 [none, none, some (.int p2), none, none, none] [] K M (some (.int v)) K M' := by
  unfold f_X2_greatest_60 at h
  refine oe_iload_n (pc := 60) d_X2_greatest_60 rfl ?_
  refine oe_if_ge (pc := 61) (tgt := 69) d_X2_greatest_61 (by decide) (fun c2 => ?_) (fun c2 => ?_)
  · replace h := (if_pos c2).symm.trans h
    refine oe_iload_n (pc := 69) d_X2_greatest_69 rfl ?_
    obtain ⟨rfl, rfl⟩ := oRes h
    exact oe_iret (pc := 70) d_X2_greatest_70 ⟨_, rfl, rfl⟩
  · replace h := (if_neg c2).symm.trans h
    refine oe_bipush (pc := 64) (v := (-2)) d_X2_greatest_64 rfl ?_
    refine oe_goto (pc := 66) (tgt := 70) d_X2_greatest_66 (by decide) ?_
    obtain ⟨rfl, rfl⟩ := oRes h
    exact oe_iret (pc := 70) d_X2_greatest_70 ⟨_, rfl, rfl⟩
def f_X2_greatest_54 (N : Nat) (K : oK) (r9 : (Int32 → Int32 → Int32 → Int32 → oM → Option (Int32 × oM))) (p1 : Int32) (p2 : Int32) (p3 : Int32) (p4 : Int32) (M : oM) : Option (Int32 × oM) :=
  (r9 p1 p2 p3 (p4 + 1) M)
set_option maxRecDepth 20000 in
theorem v_X2_greatest_54 {X : oX} {d N : Nat} {K : oK} {r9 : (Int32 → Int32 → Int32 → Int32 → oM → Option (Int32 × oM))} {p1 : Int32} {p2 : Int32} {p3 : Int32} {p4 : Int32} {M : oM} {v : Int32} {M' : oM}  (hd : 5 ≤ d) (hK : oSR K)  (hr9 : ∀ (p1 : Int32) (p2 : Int32) (p3 : Int32) (p4 : Int32) (M : oM) (v : Int32) (M' : oM) , r9 p1 p2 p3 p4 M = some (v, M') → oEv X d J_X2_greatest 9 [some (.ref 21), some (.int p1), some (.int p2), some (.int p3), some (.int p4), none] [] K M (some (.int v)) K M') (h : f_X2_greatest_54 N K r9 p1 p2 p3 p4 M = some (v, M')) : oEv X d J_X2_greatest 54 [some (.ref 21), some (.int p1), some (.int p2), some (.int p3), some (.int p4), none] [] K M (some (.int v)) K M' := by
  unfold f_X2_greatest_54 at h
  refine oe_iinc (pc := 54) (v := (p4 + 1)) (L2 := [_, _, _, _, _, _]) d_X2_greatest_54 rfl rfl rfl (Nat.le_of_ble_eq_true rfl) rfl ?_
  refine oe_goto (pc := 57) (tgt := 9) d_X2_greatest_57 (by decide) ?_
  exact hr9 _ _ _ _ _ _ _ h
def f_X2_greatest_9 (N : Nat) (K : oK)  : Nat → Int32 → Int32 → Int32 → Int32 → oM → Option (Int32 × oM)
  | 0, _, _, _, _, _ => none
  | n + 1, p1, p2, p3, p4, M => (fun r9 => (if 10 ≤ p4 then (f_X2_greatest_60 N K  p2 M) else (if p3 ≤ p2 then (f_X2_greatest_60 N K  p2 M) else oB2 (f_X2_judged N K (((p2 + p3) + 1) / 2) p1 (0 : Int32) M) (fun v4 M5 => (if v4 = (-2) then (f_X2_greatest_54 N K r9 p1 (((p2 + p3) + 1) / 2) p3 p4 M5) else (f_X2_greatest_54 N K r9 p1 p2 ((((p2 + p3) + 1) / 2) - 1) p4 M5)))))) (f_X2_greatest_9 N K  n)
set_option maxRecDepth 20000 in
theorem v_X2_greatest_9_L {X : oX} {d N : Nat} {K : oK}  (hd : 5 ≤ d) (hK : oSR K)  : ∀ (n : Nat) (p1 : Int32) (p2 : Int32) (p3 : Int32) (p4 : Int32) (M : oM) (v : Int32) (M' : oM)  , f_X2_greatest_9 N K  n p1 p2 p3 p4 M = some (v, M') → oEv X d J_X2_greatest 9 [some (.ref 21), some (.int p1), some (.int p2), some (.int p3), some (.int p4), none] [] K M (some (.int v)) K M' := by
  intro n
  induction n with
  | zero =>
    intro p1 p2 p3 p4 M v M'   h
    cases h
  | succ n hr9 =>
    intro p1 p2 p3 p4 M v M'   h
    refine oe_iload (pc := 9) d_X2_greatest_9 rfl ?_
    refine oe_bipush (pc := 11) (v := 10) d_X2_greatest_11 rfl ?_
    refine oe_icmp_ge (pc := 13) (tgt := 60) d_X2_greatest_13 (by decide) (fun c1 => ?_) (fun c1 => ?_)
    · replace h := (if_pos c1).symm.trans h
      refine oEv.fg [false, false, true, false, false, false] ?_
      exact v_X2_greatest_60 hd hK   h
    · replace h := (if_neg c1).symm.trans h
      refine oe_iload_n (pc := 16) d_X2_greatest_16 rfl ?_
      refine oe_iload_n (pc := 17) d_X2_greatest_17 rfl ?_
      refine oe_icmp_ge (pc := 18) (tgt := 60) d_X2_greatest_18 (by decide) (fun c3 => ?_) (fun c3 => ?_)
      · replace h := (if_pos c3).symm.trans h
        refine oEv.fg [false, false, true, false, false, false] ?_
        exact v_X2_greatest_60 hd hK   h
      · replace h := (if_neg c3).symm.trans h
        refine oe_iload_n (pc := 21) d_X2_greatest_21 rfl ?_
        refine oe_iload_n (pc := 22) d_X2_greatest_22 rfl ?_
        refine oe_iadd (pc := 23) d_X2_greatest_23 ?_
        refine oe_iconst (pc := 24) (v := 1) d_X2_greatest_24 rfl ?_
        refine oe_iadd (pc := 25) d_X2_greatest_25 ?_
        refine oe_iconst (pc := 26) (v := 2) d_X2_greatest_26 rfl ?_
        refine oe_idiv (pc := 27) d_X2_greatest_27 (by decide) ?_
        refine oe_istore (pc := 28) (L2 := [_, _, _, _, _, _]) d_X2_greatest_28 rfl (Nat.le_of_ble_eq_true rfl) rfl ?_
        refine oe_aload_n (pc := 30) d_X2_greatest_30 rfl ?_
        refine oe_iload (pc := 31) d_X2_greatest_31 rfl ?_
        refine oe_iload_n (pc := 33) d_X2_greatest_33 rfl ?_
        refine oe_iconst (pc := 34) (v := 0) d_X2_greatest_34 rfl ?_
        obtain ⟨v4, M5, q6, h⟩ := oB2_some h
        refine oe_callV (pc := 35) (ci := 2) d_X2_greatest_35 (v_X2_judged hK  q6) (by omega) ml_X2_100 jJ_X2_judged rfl rfl (oLt hK (a := 21) (Nat.le_of_ble_eq_true rfl)) (oSho hK (a := 21) (Nat.le_of_ble_eq_true rfl) rfl) ock2 rfl (Nat.le_of_ble_eq_true rfl) ⟨Nat.le_refl _, Nat.le_refl _⟩ ⟨Nat.le_refl _, Nat.le_refl _⟩ ?_
        refine oe_bipush (pc := 38) (v := (-2)) d_X2_greatest_38 rfl ?_
        refine oe_icmp_ne (pc := 40) (tgt := 49) d_X2_greatest_40 (by decide) (fun c7 => ?_) (fun c7 => ?_)
        · replace h := (if_neg c7).symm.trans h
          refine oe_iload (pc := 49) d_X2_greatest_49 rfl ?_
          refine oe_iconst (pc := 51) (v := 1) d_X2_greatest_51 rfl ?_
          refine oe_isub (pc := 52) d_X2_greatest_52 ?_
          refine oe_istore_n (pc := 53) (L2 := [_, _, _, _, _, _]) d_X2_greatest_53 rfl rfl (Nat.le_of_ble_eq_true rfl) rfl ?_
          refine oEv.fg [true, true, true, true, true, false] ?_
          exact v_X2_greatest_54 hd hK  hr9 h
        · replace h := (if_pos c7).symm.trans h
          refine oe_iload (pc := 43) d_X2_greatest_43 rfl ?_
          refine oe_istore_n (pc := 45) (L2 := [_, _, _, _, _, _]) d_X2_greatest_45 rfl rfl (Nat.le_of_ble_eq_true rfl) rfl ?_
          refine oe_goto (pc := 46) (tgt := 54) d_X2_greatest_46 (by decide) ?_
          refine oEv.fg [true, true, true, true, true, false] ?_
          exact v_X2_greatest_54 hd hK  hr9 h
theorem v_X2_greatest_9 {X : oX} {d N : Nat} {K : oK}  {p1 : Int32} {p2 : Int32} {p3 : Int32} {p4 : Int32} {M : oM} {v : Int32} {M' : oM}  (hd : 5 ≤ d) (hK : oSR K)   (h : f_X2_greatest_9 N K  N p1 p2 p3 p4 M = some (v, M')) : oEv X d J_X2_greatest 9 [some (.ref 21), some (.int p1), some (.int p2), some (.int p3), some (.int p4), none] [] K M (some (.int v)) K M' := v_X2_greatest_9_L hd hK  N p1 p2 p3 p4 M v M'   h
def f_X2_greatest (N : Nat) (K : oK) (p1 : Int32) (M : oM) : Option (Int32 × oM) :=
  (f_X2_greatest_9 N K  N p1 (-1) 600 0 M)
set_option maxRecDepth 20000 in
theorem v_X2_greatest {X : oX} {N : Nat} {K : oK} {p1 : Int32} {M : oM} {v : Int32} {M' : oM} (hK : oSR K)  (h : f_X2_greatest N K p1 M = some (v, M')) : oMet X 5 J_X2_greatest [(.ref 21), (.int p1)] K M (some (.int v)) K M' := by
  unfold f_X2_greatest at h
  refine oMet_of (L := [some (.ref 21), some (.int p1), none, none, none, none]) jJ_X2_greatest.1 rfl (Nat.le_of_ble_eq_true rfl) rfl (Nat.le_refl _) (Nat.le_refl _) ?_
  have hd : 5 ≤ 5 := Nat.le_refl _
  refine oe_iconst (pc := 0) (v := (-1)) d_X2_greatest_0 rfl ?_
  refine oe_istore_n (pc := 1) (L2 := [_, _, _, _, _, _]) d_X2_greatest_1 rfl rfl (Nat.le_of_ble_eq_true rfl) rfl ?_
  refine oe_sipush (pc := 2) (v := 600) d_X2_greatest_2 rfl ?_
  refine oe_istore_n (pc := 5) (L2 := [_, _, _, _, _, _]) d_X2_greatest_5 rfl rfl (Nat.le_of_ble_eq_true rfl) rfl ?_
  refine oe_iconst (pc := 6) (v := 0) d_X2_greatest_6 rfl ?_
  refine oe_istore (pc := 7) (L2 := [_, _, _, _, _, _]) d_X2_greatest_7 rfl (Nat.le_of_ble_eq_true rfl) rfl ?_
  exact v_X2_greatest_9 hd hK   h
theorem d_X3_isEngine_0 : decode J_X3_isEngine.2.1 0 = .ok (.iload_n 1, 1) := by decide +kernel
theorem d_X3_isEngine_1 : decode J_X3_isEngine.2.1 1 = .ok (.ifCond .lt 15, 3) := by decide +kernel
theorem d_X3_isEngine_4 : decode J_X3_isEngine.2.1 4 = .ok (.iload_n 1, 1) := by decide +kernel
theorem d_X3_isEngine_5 : decode J_X3_isEngine.2.1 5 = .ok (.aload_n 0, 1) := by decide +kernel
theorem d_X3_isEngine_6 : decode J_X3_isEngine.2.1 6 = .ok (.getfield 32, 3) := by decide +kernel
theorem d_X3_isEngine_9 : decode J_X3_isEngine.2.1 9 = .ok (.if_icmp .ge 7, 3) := by decide +kernel
theorem d_X3_isEngine_12 : decode J_X3_isEngine.2.1 12 = .ok (.iconst 1, 1) := by decide +kernel
theorem d_X3_isEngine_13 : decode J_X3_isEngine.2.1 13 = .ok (.goto 4, 3) := by decide +kernel
theorem d_X3_isEngine_16 : decode J_X3_isEngine.2.1 16 = .ok (.iconst 0, 1) := by decide +kernel
theorem d_X3_isEngine_17 : decode J_X3_isEngine.2.1 17 = .ok (.ireturn, 1) := by decide +kernel
def f_X3_isEngine (N : Nat) (K : oK) (p1 : Int32) (M : oM) : Option (Bool × oM) :=
  (if p1 < 0 then some (false, M) else (if (M.1 11 6) ≤ p1 then some (false, M) else some (true, M)))
set_option maxRecDepth 20000 in
theorem v_X3_isEngine {X : oX} {N : Nat} {K : oK} {p1 : Int32} {M : oM} {v : Bool} {M' : oM} (hK : oSR K)  (h : f_X3_isEngine N K p1 M = some (v, M')) : oMet X 1 J_X3_isEngine [(.ref 11), (.int p1)] K M (some (.int (oBi v))) K M' := by
  unfold f_X3_isEngine at h
  refine oMet_of (L := [some (.ref 11), some (.int p1)]) jJ_X3_isEngine.1 rfl (Nat.le_of_ble_eq_true rfl) rfl (Nat.le_refl _) (Nat.le_refl _) ?_
  have hd : 1 ≤ 1 := Nat.le_refl _
  refine oe_iload_n (pc := 0) d_X3_isEngine_0 rfl ?_
  refine oe_if_lt (pc := 1) (tgt := 16) d_X3_isEngine_1 (by decide) (fun c1 => ?_) (fun c1 => ?_)
  · replace h := (if_pos c1).symm.trans h
    refine oe_iconst (pc := 16) (v := 0) d_X3_isEngine_16 rfl ?_
    obtain ⟨rfl, rfl⟩ := oRes h
    exact oe_iret (pc := 17) d_X3_isEngine_17 ⟨_, rfl, rfl⟩
  · replace h := (if_neg c1).symm.trans h
    refine oe_iload_n (pc := 4) d_X3_isEngine_4 rfl ?_
    refine oe_aload_n (pc := 5) d_X3_isEngine_5 rfl ?_
    refine oe_getf (pc := 6) d_X3_isEngine_6 fl_X3_32 ock3 (k := 6) (Nat.le_of_ble_eq_true rfl) rfl (oLt hK (a := 11) (Nat.le_of_ble_eq_true rfl)) (oSho hK (a := 11) (Nat.le_of_ble_eq_true rfl) rfl) ?_
    refine oe_icmp_ge (pc := 9) (tgt := 16) d_X3_isEngine_9 (by decide) (fun c2 => ?_) (fun c2 => ?_)
    · replace h := (if_pos c2).symm.trans h
      refine oe_iconst (pc := 16) (v := 0) d_X3_isEngine_16 rfl ?_
      obtain ⟨rfl, rfl⟩ := oRes h
      exact oe_iret (pc := 17) d_X3_isEngine_17 ⟨_, rfl, rfl⟩
    · replace h := (if_neg c2).symm.trans h
      refine oe_iconst (pc := 12) (v := 1) d_X3_isEngine_12 rfl ?_
      refine oe_goto (pc := 13) (tgt := 17) d_X3_isEngine_13 (by decide) ?_
      obtain ⟨rfl, rfl⟩ := oRes h
      exact oe_iret (pc := 17) d_X3_isEngine_17 ⟨_, rfl, rfl⟩
theorem d_X3_addEngine_0 : decode J_X3_addEngine.2.1 0 = .ok (.aload_n 0, 1) := by decide +kernel
theorem d_X3_addEngine_1 : decode J_X3_addEngine.2.1 1 = .ok (.getfield 32, 3) := by decide +kernel
theorem d_X3_addEngine_4 : decode J_X3_addEngine.2.1 4 = .ok (.bipush 6, 2) := by decide +kernel
theorem d_X3_addEngine_6 : decode J_X3_addEngine.2.1 6 = .ok (.if_icmp .lt 6, 3) := by decide +kernel
theorem d_X3_addEngine_9 : decode J_X3_addEngine.2.1 9 = .ok (.bipush (-3), 2) := by decide +kernel
theorem d_X3_addEngine_11 : decode J_X3_addEngine.2.1 11 = .ok (.ireturn, 1) := by decide +kernel
theorem d_X3_addEngine_12 : decode J_X3_addEngine.2.1 12 = .ok (.aload_n 0, 1) := by decide +kernel
theorem d_X3_addEngine_13 : decode J_X3_addEngine.2.1 13 = .ok (.getfield 9, 3) := by decide +kernel
theorem d_X3_addEngine_16 : decode J_X3_addEngine.2.1 16 = .ok (.aload_n 0, 1) := by decide +kernel
theorem d_X3_addEngine_17 : decode J_X3_addEngine.2.1 17 = .ok (.getfield 32, 3) := by decide +kernel
theorem d_X3_addEngine_20 : decode J_X3_addEngine.2.1 20 = .ok (.iload_n 1, 1) := by decide +kernel
theorem d_X3_addEngine_21 : decode J_X3_addEngine.2.1 21 = .ok (.iastore, 1) := by decide +kernel
theorem d_X3_addEngine_22 : decode J_X3_addEngine.2.1 22 = .ok (.aload_n 0, 1) := by decide +kernel
theorem d_X3_addEngine_23 : decode J_X3_addEngine.2.1 23 = .ok (.getfield 15, 3) := by decide +kernel
theorem d_X3_addEngine_26 : decode J_X3_addEngine.2.1 26 = .ok (.aload_n 0, 1) := by decide +kernel
theorem d_X3_addEngine_27 : decode J_X3_addEngine.2.1 27 = .ok (.getfield 32, 3) := by decide +kernel
theorem d_X3_addEngine_30 : decode J_X3_addEngine.2.1 30 = .ok (.iload_n 2, 1) := by decide +kernel
theorem d_X3_addEngine_31 : decode J_X3_addEngine.2.1 31 = .ok (.iastore, 1) := by decide +kernel
theorem d_X3_addEngine_32 : decode J_X3_addEngine.2.1 32 = .ok (.aload_n 0, 1) := by decide +kernel
theorem d_X3_addEngine_33 : decode J_X3_addEngine.2.1 33 = .ok (.dup, 1) := by decide +kernel
theorem d_X3_addEngine_34 : decode J_X3_addEngine.2.1 34 = .ok (.getfield 32, 3) := by decide +kernel
theorem d_X3_addEngine_37 : decode J_X3_addEngine.2.1 37 = .ok (.dup_x1, 1) := by decide +kernel
theorem d_X3_addEngine_38 : decode J_X3_addEngine.2.1 38 = .ok (.iconst 1, 1) := by decide +kernel
theorem d_X3_addEngine_39 : decode J_X3_addEngine.2.1 39 = .ok (.iadd, 1) := by decide +kernel
theorem d_X3_addEngine_40 : decode J_X3_addEngine.2.1 40 = .ok (.putfield 32, 3) := by decide +kernel
theorem d_X3_addEngine_43 : decode J_X3_addEngine.2.1 43 = .ok (.ireturn, 1) := by decide +kernel
def f_X3_addEngine (N : Nat) (K : oK) (p1 : Int32) (p2 : Int32) (M : oM) : Option (Int32 × oM) :=
  (if (M.1 11 6) < 6 then oIx ((M.1 11 6)) 6 (oIx (((oUp M 12 ((M.1 11 6) : Int32).toNatClampNeg p1).1 11 6)) 6 (some (((oUp (oUp M 12 ((M.1 11 6) : Int32).toNatClampNeg p1) 13 (((oUp M 12 ((M.1 11 6) : Int32).toNatClampNeg p1).1 11 6) : Int32).toNatClampNeg p2).1 11 6), (oUp (oUp (oUp M 12 ((M.1 11 6) : Int32).toNatClampNeg p1) 13 (((oUp M 12 ((M.1 11 6) : Int32).toNatClampNeg p1).1 11 6) : Int32).toNatClampNeg p2) 11 6 (((oUp (oUp M 12 ((M.1 11 6) : Int32).toNatClampNeg p1) 13 (((oUp M 12 ((M.1 11 6) : Int32).toNatClampNeg p1).1 11 6) : Int32).toNatClampNeg p2).1 11 6) + 1))))) else some ((-3), M))
set_option maxRecDepth 20000 in
theorem v_X3_addEngine {X : oX} {N : Nat} {K : oK} {p1 : Int32} {p2 : Int32} {M : oM} {v : Int32} {M' : oM} (hK : oSR K)  (h : f_X3_addEngine N K p1 p2 M = some (v, M')) : oMet X 1 J_X3_addEngine [(.ref 11), (.int p1), (.int p2)] K M (some (.int v)) K M' := by
  unfold f_X3_addEngine at h
  refine oMet_of (L := [some (.ref 11), some (.int p1), some (.int p2)]) jJ_X3_addEngine.1 rfl (Nat.le_of_ble_eq_true rfl) rfl (Nat.le_refl _) (Nat.le_refl _) ?_
  have hd : 1 ≤ 1 := Nat.le_refl _
  refine oe_aload_n (pc := 0) d_X3_addEngine_0 rfl ?_
  refine oe_getf (pc := 1) d_X3_addEngine_1 fl_X3_32 ock3 (k := 6) (Nat.le_of_ble_eq_true rfl) rfl (oLt hK (a := 11) (Nat.le_of_ble_eq_true rfl)) (oSho hK (a := 11) (Nat.le_of_ble_eq_true rfl) rfl) ?_
  refine oe_bipush (pc := 4) (v := 6) d_X3_addEngine_4 rfl ?_
  refine oe_icmp_lt (pc := 6) (tgt := 12) d_X3_addEngine_6 (by decide) (fun c1 => ?_) (fun c1 => ?_)
  · replace h := (if_pos c1).symm.trans h
    refine oe_aload_n (pc := 12) d_X3_addEngine_12 rfl ?_
    refine oe_getr (pc := 13) d_X3_addEngine_13 fl_X3_9 ock3 (k := 1) (b := 12) (Nat.le_of_ble_eq_true rfl) (by decide) (oLt hK (a := 11) (Nat.le_of_ble_eq_true rfl)) (oSho hK (a := 11) (Nat.le_of_ble_eq_true rfl) rfl) (oRfK hK rfl) ?_
    refine oe_aload_n (pc := 16) d_X3_addEngine_16 rfl ?_
    refine oe_getf (pc := 17) d_X3_addEngine_17 fl_X3_32 ock3 (k := 6) (Nat.le_of_ble_eq_true rfl) rfl (oLt hK (a := 11) (Nat.le_of_ble_eq_true rfl)) (oSho hK (a := 11) (Nat.le_of_ble_eq_true rfl) rfl) ?_
    refine oe_iload_n (pc := 20) d_X3_addEngine_20 rfl ?_
    obtain ⟨i2, h⟩ := oIx_some h
    refine oe_iast (pc := 21) d_X3_addEngine_21 (oLt hK (a := 12) (Nat.le_of_ble_eq_true rfl)) (oSha hK (a := 12) (Nat.le_of_ble_eq_true rfl) rfl) i2 ?_
    refine oe_aload_n (pc := 22) d_X3_addEngine_22 rfl ?_
    refine oe_getr (pc := 23) d_X3_addEngine_23 fl_X3_15 ock3 (k := 2) (b := 13) (Nat.le_of_ble_eq_true rfl) (by decide) (oLt hK (a := 11) (Nat.le_of_ble_eq_true rfl)) (oSho hK (a := 11) (Nat.le_of_ble_eq_true rfl) rfl) (oRfK hK rfl) ?_
    refine oe_aload_n (pc := 26) d_X3_addEngine_26 rfl ?_
    refine oe_getf (pc := 27) d_X3_addEngine_27 fl_X3_32 ock3 (k := 6) (Nat.le_of_ble_eq_true rfl) rfl (oLt hK (a := 11) (Nat.le_of_ble_eq_true rfl)) (oSho hK (a := 11) (Nat.le_of_ble_eq_true rfl) rfl) ?_
    refine oe_iload_n (pc := 30) d_X3_addEngine_30 rfl ?_
    obtain ⟨i3, h⟩ := oIx_some h
    refine oe_iast (pc := 31) d_X3_addEngine_31 (oLt hK (a := 13) (Nat.le_of_ble_eq_true rfl)) (oSha hK (a := 13) (Nat.le_of_ble_eq_true rfl) rfl) i3 ?_
    refine oe_aload_n (pc := 32) d_X3_addEngine_32 rfl ?_
    refine oe_dup (pc := 33) d_X3_addEngine_33 rfl ?_
    refine oe_getf (pc := 34) d_X3_addEngine_34 fl_X3_32 ock3 (k := 6) (Nat.le_of_ble_eq_true rfl) rfl (oLt hK (a := 11) (Nat.le_of_ble_eq_true rfl)) (oSho hK (a := 11) (Nat.le_of_ble_eq_true rfl) rfl) ?_
    refine oe_dup_x1 (pc := 37) d_X3_addEngine_37 rfl rfl ?_
    refine oe_iconst (pc := 38) (v := 1) d_X3_addEngine_38 rfl ?_
    refine oe_iadd (pc := 39) d_X3_addEngine_39 ?_
    refine oe_putf (pc := 40) d_X3_addEngine_40 fl_X3_32 ock3 (k := 6) (Nat.le_of_ble_eq_true rfl) rfl rfl (oLt hK (a := 11) (Nat.le_of_ble_eq_true rfl)) (oSho hK (a := 11) (Nat.le_of_ble_eq_true rfl) rfl) ?_
    obtain ⟨rfl, rfl⟩ := oRes h
    exact oe_iret (pc := 43) d_X3_addEngine_43 ⟨_, rfl, rfl⟩
  · replace h := (if_neg c1).symm.trans h
    refine oe_bipush (pc := 9) (v := (-3)) d_X3_addEngine_9 rfl ?_
    obtain ⟨rfl, rfl⟩ := oRes h
    exact oe_iret (pc := 11) d_X3_addEngine_11 ⟨_, rfl, rfl⟩
theorem d_X3_tellTable_0 : decode J_X3_tellTable.2.1 0 = .ok (.aload_n 2, 1) := by decide +kernel
theorem d_X3_tellTable_1 : decode J_X3_tellTable.2.1 1 = .ok (.iconst 0, 1) := by decide +kernel
theorem d_X3_tellTable_2 : decode J_X3_tellTable.2.1 2 = .ok (.aload_n 0, 1) := by decide +kernel
theorem d_X3_tellTable_3 : decode J_X3_tellTable.2.1 3 = .ok (.getfield 22, 3) := by decide +kernel
theorem d_X3_tellTable_6 : decode J_X3_tellTable.2.1 6 = .ok (.iload_n 1, 1) := by decide +kernel
theorem d_X3_tellTable_7 : decode J_X3_tellTable.2.1 7 = .ok (.bipush 13, 2) := by decide +kernel
theorem d_X3_tellTable_9 : decode J_X3_tellTable.2.1 9 = .ok (.imul, 1) := by decide +kernel
theorem d_X3_tellTable_10 : decode J_X3_tellTable.2.1 10 = .ok (.iload_n 3, 1) := by decide +kernel
theorem d_X3_tellTable_11 : decode J_X3_tellTable.2.1 11 = .ok (.invokestatic 36, 3) := by decide +kernel
theorem d_X3_tellTable_14 : decode J_X3_tellTable.2.1 14 = .ok (.aload_n 0, 1) := by decide +kernel
theorem d_X3_tellTable_15 : decode J_X3_tellTable.2.1 15 = .ok (.getfield 25, 3) := by decide +kernel
theorem d_X3_tellTable_18 : decode J_X3_tellTable.2.1 18 = .ok (.iload_n 1, 1) := by decide +kernel
theorem d_X3_tellTable_19 : decode J_X3_tellTable.2.1 19 = .ok (.iload_n 3, 1) := by decide +kernel
theorem d_X3_tellTable_20 : decode J_X3_tellTable.2.1 20 = .ok (.iastore, 1) := by decide +kernel
theorem d_X3_tellTable_21 : decode J_X3_tellTable.2.1 21 = .ok (.return_, 1) := by decide +kernel
def f_X3_tellTable (N : Nat) (K : oK) (p1 : Int32) (p3 : Int32) (M : oM) : Option (Unit × oM) :=
  oCpOk (0) ((p1 * 13)) (p3) 13 117 (oIx (p1) 9 (some ((), (oUp (oRow M 15 (va_cpy (M.1 19) (M.1 15) (0 : Int32).toNatClampNeg ((p1 * 13) : Int32).toNatClampNeg (p3 : Int32).toNatClampNeg)) 16 (p1 : Int32).toNatClampNeg p3))))
set_option maxRecDepth 20000 in
theorem v_X3_tellTable {X : oX} {N : Nat} {K : oK} {p1 : Int32} {p3 : Int32} {M : oM} {v : Unit} {M' : oM} (hK : oSR K)  (h : f_X3_tellTable N K p1 p3 M = some (v, M')) : oMet X 1 J_X3_tellTable [(.ref 11), (.int p1), (.ref 19), (.int p3)] K M none K M' := by
  unfold f_X3_tellTable at h
  refine oMet_of (L := [some (.ref 11), some (.int p1), some (.ref 19), some (.int p3)]) jJ_X3_tellTable.1 rfl (Nat.le_of_ble_eq_true rfl) rfl (Nat.le_refl _) (Nat.le_refl _) ?_
  have hd : 1 ≤ 1 := Nat.le_refl _
  refine oe_aload_n (pc := 0) d_X3_tellTable_0 rfl ?_
  refine oe_iconst (pc := 1) (v := 0) d_X3_tellTable_1 rfl ?_
  refine oe_aload_n (pc := 2) d_X3_tellTable_2 rfl ?_
  refine oe_getr (pc := 3) d_X3_tellTable_3 fl_X3_22 ock3 (k := 4) (b := 15) (Nat.le_of_ble_eq_true rfl) (by decide) (oLt hK (a := 11) (Nat.le_of_ble_eq_true rfl)) (oSho hK (a := 11) (Nat.le_of_ble_eq_true rfl) rfl) (oRfK hK rfl) ?_
  refine oe_iload_n (pc := 6) d_X3_tellTable_6 rfl ?_
  refine oe_bipush (pc := 7) (v := 13) d_X3_tellTable_7 rfl ?_
  refine oe_imul (pc := 9) d_X3_tellTable_9 ?_
  refine oe_iload_n (pc := 10) d_X3_tellTable_10 rfl ?_
  obtain ⟨i1, h⟩ := oCpOk_some h
  refine oe_copyI (pc := 11) d_X3_tellTable_11 mc_X3_36 (by omega) (Nat.le_of_ble_eq_true rfl) (oLt hK (a := 19) (Nat.le_of_ble_eq_true rfl)) (oSha hK (a := 19) (Nat.le_of_ble_eq_true rfl) rfl) (oLt hK (a := 15) (Nat.le_of_ble_eq_true rfl)) (oSha hK (a := 15) (Nat.le_of_ble_eq_true rfl) rfl) i1 ?_
  refine oe_aload_n (pc := 14) d_X3_tellTable_14 rfl ?_
  refine oe_getr (pc := 15) d_X3_tellTable_15 fl_X3_25 ock3 (k := 5) (b := 16) (Nat.le_of_ble_eq_true rfl) (by decide) (oLt hK (a := 11) (Nat.le_of_ble_eq_true rfl)) (oSho hK (a := 11) (Nat.le_of_ble_eq_true rfl) rfl) (oRfK hK rfl) ?_
  refine oe_iload_n (pc := 18) d_X3_tellTable_18 rfl ?_
  refine oe_iload_n (pc := 19) d_X3_tellTable_19 rfl ?_
  obtain ⟨i2, h⟩ := oIx_some h
  refine oe_iast (pc := 20) d_X3_tellTable_20 (oLt hK (a := 16) (Nat.le_of_ble_eq_true rfl)) (oSha hK (a := 16) (Nat.le_of_ble_eq_true rfl) rfl) i2 ?_
  obtain ⟨rfl, rfl⟩ := oRes h
  exact oe_vret (pc := 21) d_X3_tellTable_21 rfl
theorem d_X4_isPoint_0 : decode J_X4_isPoint.2.1 0 = .ok (.iload_n 1, 1) := by decide +kernel
theorem d_X4_isPoint_1 : decode J_X4_isPoint.2.1 1 = .ok (.ifCond .lt 15, 3) := by decide +kernel
theorem d_X4_isPoint_4 : decode J_X4_isPoint.2.1 4 = .ok (.iload_n 1, 1) := by decide +kernel
theorem d_X4_isPoint_5 : decode J_X4_isPoint.2.1 5 = .ok (.aload_n 0, 1) := by decide +kernel
theorem d_X4_isPoint_6 : decode J_X4_isPoint.2.1 6 = .ok (.getfield 28, 3) := by decide +kernel
theorem d_X4_isPoint_9 : decode J_X4_isPoint.2.1 9 = .ok (.if_icmp .ge 7, 3) := by decide +kernel
theorem d_X4_isPoint_12 : decode J_X4_isPoint.2.1 12 = .ok (.iconst 1, 1) := by decide +kernel
theorem d_X4_isPoint_13 : decode J_X4_isPoint.2.1 13 = .ok (.goto 4, 3) := by decide +kernel
theorem d_X4_isPoint_16 : decode J_X4_isPoint.2.1 16 = .ok (.iconst 0, 1) := by decide +kernel
theorem d_X4_isPoint_17 : decode J_X4_isPoint.2.1 17 = .ok (.ireturn, 1) := by decide +kernel
def f_X4_isPoint (N : Nat) (K : oK) (p1 : Int32) (M : oM) : Option (Bool × oM) :=
  (if p1 < 0 then some (false, M) else (if (M.1 6 5) ≤ p1 then some (false, M) else some (true, M)))
set_option maxRecDepth 20000 in
theorem v_X4_isPoint {X : oX} {N : Nat} {K : oK} {p1 : Int32} {M : oM} {v : Bool} {M' : oM} (hK : oSR K)  (h : f_X4_isPoint N K p1 M = some (v, M')) : oMet X 1 J_X4_isPoint [(.ref 6), (.int p1)] K M (some (.int (oBi v))) K M' := by
  unfold f_X4_isPoint at h
  refine oMet_of (L := [some (.ref 6), some (.int p1)]) jJ_X4_isPoint.1 rfl (Nat.le_of_ble_eq_true rfl) rfl (Nat.le_refl _) (Nat.le_refl _) ?_
  have hd : 1 ≤ 1 := Nat.le_refl _
  refine oe_iload_n (pc := 0) d_X4_isPoint_0 rfl ?_
  refine oe_if_lt (pc := 1) (tgt := 16) d_X4_isPoint_1 (by decide) (fun c1 => ?_) (fun c1 => ?_)
  · replace h := (if_pos c1).symm.trans h
    refine oe_iconst (pc := 16) (v := 0) d_X4_isPoint_16 rfl ?_
    obtain ⟨rfl, rfl⟩ := oRes h
    exact oe_iret (pc := 17) d_X4_isPoint_17 ⟨_, rfl, rfl⟩
  · replace h := (if_neg c1).symm.trans h
    refine oe_iload_n (pc := 4) d_X4_isPoint_4 rfl ?_
    refine oe_aload_n (pc := 5) d_X4_isPoint_5 rfl ?_
    refine oe_getf (pc := 6) d_X4_isPoint_6 fl_X4_28 ock4 (k := 5) (Nat.le_of_ble_eq_true rfl) rfl (oLt hK (a := 6) (Nat.le_of_ble_eq_true rfl)) (oSho hK (a := 6) (Nat.le_of_ble_eq_true rfl) rfl) ?_
    refine oe_icmp_ge (pc := 9) (tgt := 16) d_X4_isPoint_9 (by decide) (fun c2 => ?_) (fun c2 => ?_)
    · replace h := (if_pos c2).symm.trans h
      refine oe_iconst (pc := 16) (v := 0) d_X4_isPoint_16 rfl ?_
      obtain ⟨rfl, rfl⟩ := oRes h
      exact oe_iret (pc := 17) d_X4_isPoint_17 ⟨_, rfl, rfl⟩
    · replace h := (if_neg c2).symm.trans h
      refine oe_iconst (pc := 12) (v := 1) d_X4_isPoint_12 rfl ?_
      refine oe_goto (pc := 13) (tgt := 17) d_X4_isPoint_13 (by decide) ?_
      obtain ⟨rfl, rfl⟩ := oRes h
      exact oe_iret (pc := 17) d_X4_isPoint_17 ⟨_, rfl, rfl⟩
theorem d_X8_begin_0 : decode J_X8_begin.2.1 0 = .ok (.iload_n 1, 1) := by decide +kernel
theorem d_X8_begin_1 : decode J_X8_begin.2.1 1 = .ok (.ifCond .lt 19, 3) := by decide +kernel
theorem d_X8_begin_4 : decode J_X8_begin.2.1 4 = .ok (.iload_n 1, 1) := by decide +kernel
theorem d_X8_begin_5 : decode J_X8_begin.2.1 5 = .ok (.aload_n 0, 1) := by decide +kernel
theorem d_X8_begin_6 : decode J_X8_begin.2.1 6 = .ok (.getfield 9, 3) := by decide +kernel
theorem d_X8_begin_9 : decode J_X8_begin.2.1 9 = .ok (.arraylength, 1) := by decide +kernel
theorem d_X8_begin_10 : decode J_X8_begin.2.1 10 = .ok (.if_icmp .ge 10, 3) := by decide +kernel
theorem d_X8_begin_13 : decode J_X8_begin.2.1 13 = .ok (.aload_n 0, 1) := by decide +kernel
theorem d_X8_begin_14 : decode J_X8_begin.2.1 14 = .ok (.getfield 9, 3) := by decide +kernel
theorem d_X8_begin_17 : decode J_X8_begin.2.1 17 = .ok (.iload_n 1, 1) := by decide +kernel
theorem d_X8_begin_18 : decode J_X8_begin.2.1 18 = .ok (.iload_n 2, 1) := by decide +kernel
theorem d_X8_begin_19 : decode J_X8_begin.2.1 19 = .ok (.iastore, 1) := by decide +kernel
theorem d_X8_begin_20 : decode J_X8_begin.2.1 20 = .ok (.return_, 1) := by decide +kernel
def f_X8_begin (N : Nat) (K : oK) (p1 : Int32) (p2 : Int32) (M : oM) : Option (Unit × oM) :=
  (if p1 < 0 then some ((), M) else (if (Int32.ofNat 21) ≤ p1 then some ((), M) else oIx (p1) 21 (some ((), (oUp M 2 (p1 : Int32).toNatClampNeg p2)))))
set_option maxRecDepth 20000 in
theorem v_X8_begin {X : oX} {N : Nat} {K : oK} {p1 : Int32} {p2 : Int32} {M : oM} {v : Unit} {M' : oM} (hK : oSR K)  (h : f_X8_begin N K p1 p2 M = some (v, M')) : oMet X 1 J_X8_begin [(.ref 1), (.int p1), (.int p2)] K M none K M' := by
  unfold f_X8_begin at h
  refine oMet_of (L := [some (.ref 1), some (.int p1), some (.int p2)]) jJ_X8_begin.1 rfl (Nat.le_of_ble_eq_true rfl) rfl (Nat.le_refl _) (Nat.le_refl _) ?_
  have hd : 1 ≤ 1 := Nat.le_refl _
  refine oe_iload_n (pc := 0) d_X8_begin_0 rfl ?_
  refine oe_if_lt (pc := 1) (tgt := 20) d_X8_begin_1 (by decide) (fun c1 => ?_) (fun c1 => ?_)
  · replace h := (if_pos c1).symm.trans h
    obtain ⟨rfl, rfl⟩ := oRes h
    exact oe_vret (pc := 20) d_X8_begin_20 rfl
  · replace h := (if_neg c1).symm.trans h
    refine oe_iload_n (pc := 4) d_X8_begin_4 rfl ?_
    refine oe_aload_n (pc := 5) d_X8_begin_5 rfl ?_
    refine oe_getr (pc := 6) d_X8_begin_6 fl_X8_9 ock8 (k := 0) (b := 2) (Nat.le_of_ble_eq_true rfl) (by decide) (oLt hK (a := 1) (Nat.le_of_ble_eq_true rfl)) (oSho hK (a := 1) (Nat.le_of_ble_eq_true rfl) rfl) (oRfK hK rfl) ?_
    refine oe_alenI (pc := 9) d_X8_begin_9 (oLt hK (a := 2) (Nat.le_of_ble_eq_true rfl)) (oSha hK (a := 2) (Nat.le_of_ble_eq_true rfl) rfl) rfl ?_
    refine oe_icmp_ge (pc := 10) (tgt := 20) d_X8_begin_10 (by decide) (fun c2 => ?_) (fun c2 => ?_)
    · replace h := (if_pos c2).symm.trans h
      obtain ⟨rfl, rfl⟩ := oRes h
      exact oe_vret (pc := 20) d_X8_begin_20 rfl
    · replace h := (if_neg c2).symm.trans h
      refine oe_aload_n (pc := 13) d_X8_begin_13 rfl ?_
      refine oe_getr (pc := 14) d_X8_begin_14 fl_X8_9 ock8 (k := 0) (b := 2) (Nat.le_of_ble_eq_true rfl) (by decide) (oLt hK (a := 1) (Nat.le_of_ble_eq_true rfl)) (oSho hK (a := 1) (Nat.le_of_ble_eq_true rfl) rfl) (oRfK hK rfl) ?_
      refine oe_iload_n (pc := 17) d_X8_begin_17 rfl ?_
      refine oe_iload_n (pc := 18) d_X8_begin_18 rfl ?_
      obtain ⟨i3, h⟩ := oIx_some h
      refine oe_iast (pc := 19) d_X8_begin_19 (oLt hK (a := 2) (Nat.le_of_ble_eq_true rfl)) (oSha hK (a := 2) (Nat.le_of_ble_eq_true rfl) rfl) i3 ?_
      obtain ⟨rfl, rfl⟩ := oRes h
      exact oe_vret (pc := 20) d_X8_begin_20 rfl
theorem d_X4_addPoint_0 : decode J_X4_addPoint.2.1 0 = .ok (.aload_n 0, 1) := by decide +kernel
theorem d_X4_addPoint_1 : decode J_X4_addPoint.2.1 1 = .ok (.getfield 28, 3) := by decide +kernel
theorem d_X4_addPoint_4 : decode J_X4_addPoint.2.1 4 = .ok (.bipush 12, 2) := by decide +kernel
theorem d_X4_addPoint_6 : decode J_X4_addPoint.2.1 6 = .ok (.if_icmp .lt 6, 3) := by decide +kernel
theorem d_X4_addPoint_9 : decode J_X4_addPoint.2.1 9 = .ok (.bipush (-3), 2) := by decide +kernel
theorem d_X4_addPoint_11 : decode J_X4_addPoint.2.1 11 = .ok (.ireturn, 1) := by decide +kernel
theorem d_X4_addPoint_12 : decode J_X4_addPoint.2.1 12 = .ok (.aload_n 0, 1) := by decide +kernel
theorem d_X4_addPoint_13 : decode J_X4_addPoint.2.1 13 = .ok (.getfield 24, 3) := by decide +kernel
theorem d_X4_addPoint_16 : decode J_X4_addPoint.2.1 16 = .ok (.bipush 9, 2) := by decide +kernel
theorem d_X4_addPoint_18 : decode J_X4_addPoint.2.1 18 = .ok (.aload_n 0, 1) := by decide +kernel
theorem d_X4_addPoint_19 : decode J_X4_addPoint.2.1 19 = .ok (.getfield 28, 3) := by decide +kernel
theorem d_X4_addPoint_22 : decode J_X4_addPoint.2.1 22 = .ok (.iadd, 1) := by decide +kernel
theorem d_X4_addPoint_23 : decode J_X4_addPoint.2.1 23 = .ok (.iload_n 1, 1) := by decide +kernel
theorem d_X4_addPoint_24 : decode J_X4_addPoint.2.1 24 = .ok (.invokevirtual 35, 3) := by decide +kernel
theorem d_X4_addPoint_27 : decode J_X4_addPoint.2.1 27 = .ok (.aload_n 0, 1) := by decide +kernel
theorem d_X4_addPoint_28 : decode J_X4_addPoint.2.1 28 = .ok (.dup, 1) := by decide +kernel
theorem d_X4_addPoint_29 : decode J_X4_addPoint.2.1 29 = .ok (.getfield 28, 3) := by decide +kernel
theorem d_X4_addPoint_32 : decode J_X4_addPoint.2.1 32 = .ok (.dup_x1, 1) := by decide +kernel
theorem d_X4_addPoint_33 : decode J_X4_addPoint.2.1 33 = .ok (.iconst 1, 1) := by decide +kernel
theorem d_X4_addPoint_34 : decode J_X4_addPoint.2.1 34 = .ok (.iadd, 1) := by decide +kernel
theorem d_X4_addPoint_35 : decode J_X4_addPoint.2.1 35 = .ok (.putfield 28, 3) := by decide +kernel
theorem d_X4_addPoint_38 : decode J_X4_addPoint.2.1 38 = .ok (.ireturn, 1) := by decide +kernel
def f_X4_addPoint (N : Nat) (K : oK) (p1 : Int32) (M : oM) : Option (Int32 × oM) :=
  (if (M.1 6 5) < 12 then oB2 (f_X8_begin N K ((9 : Int32) + (M.1 6 5)) p1 M) (fun v2 M3 => some ((M3.1 6 5), (oUp M3 6 5 ((M3.1 6 5) + 1)))) else some ((-3), M))
set_option maxRecDepth 20000 in
theorem v_X4_addPoint {X : oX} {N : Nat} {K : oK} {p1 : Int32} {M : oM} {v : Int32} {M' : oM} (hK : oSR K)  (h : f_X4_addPoint N K p1 M = some (v, M')) : oMet X 2 J_X4_addPoint [(.ref 6), (.int p1)] K M (some (.int v)) K M' := by
  unfold f_X4_addPoint at h
  refine oMet_of (L := [some (.ref 6), some (.int p1)]) jJ_X4_addPoint.1 rfl (Nat.le_of_ble_eq_true rfl) rfl (Nat.le_refl _) (Nat.le_refl _) ?_
  have hd : 2 ≤ 2 := Nat.le_refl _
  refine oe_aload_n (pc := 0) d_X4_addPoint_0 rfl ?_
  refine oe_getf (pc := 1) d_X4_addPoint_1 fl_X4_28 ock4 (k := 5) (Nat.le_of_ble_eq_true rfl) rfl (oLt hK (a := 6) (Nat.le_of_ble_eq_true rfl)) (oSho hK (a := 6) (Nat.le_of_ble_eq_true rfl) rfl) ?_
  refine oe_bipush (pc := 4) (v := 12) d_X4_addPoint_4 rfl ?_
  refine oe_icmp_lt (pc := 6) (tgt := 12) d_X4_addPoint_6 (by decide) (fun c1 => ?_) (fun c1 => ?_)
  · replace h := (if_pos c1).symm.trans h
    refine oe_aload_n (pc := 12) d_X4_addPoint_12 rfl ?_
    refine oe_getr (pc := 13) d_X4_addPoint_13 fl_X4_24 ock4 (k := 0) (b := 1) (Nat.le_of_ble_eq_true rfl) (by decide) (oLt hK (a := 6) (Nat.le_of_ble_eq_true rfl)) (oSho hK (a := 6) (Nat.le_of_ble_eq_true rfl) rfl) (oRfK hK rfl) ?_
    refine oe_bipush (pc := 16) (v := 9) d_X4_addPoint_16 rfl ?_
    refine oe_aload_n (pc := 18) d_X4_addPoint_18 rfl ?_
    refine oe_getf (pc := 19) d_X4_addPoint_19 fl_X4_28 ock4 (k := 5) (Nat.le_of_ble_eq_true rfl) rfl (oLt hK (a := 6) (Nat.le_of_ble_eq_true rfl)) (oSho hK (a := 6) (Nat.le_of_ble_eq_true rfl) rfl) ?_
    refine oe_iadd (pc := 22) d_X4_addPoint_22 ?_
    refine oe_iload_n (pc := 23) d_X4_addPoint_23 rfl ?_
    obtain ⟨v2, M3, q4, h⟩ := oB2_some h
    refine oe_callV (pc := 24) (ci := 8) d_X4_addPoint_24 (v_X8_begin hK  q4) (by omega) ml_X4_35 jJ_X8_begin rfl rfl (oLt hK (a := 1) (Nat.le_of_ble_eq_true rfl)) (oSho hK (a := 1) (Nat.le_of_ble_eq_true rfl) rfl) ock8 rfl (Nat.le_of_ble_eq_true rfl) ⟨Nat.le_refl _, Nat.le_refl _⟩ ⟨Nat.le_refl _, Nat.le_refl _⟩ ?_
    refine oe_aload_n (pc := 27) d_X4_addPoint_27 rfl ?_
    refine oe_dup (pc := 28) d_X4_addPoint_28 rfl ?_
    refine oe_getf (pc := 29) d_X4_addPoint_29 fl_X4_28 ock4 (k := 5) (Nat.le_of_ble_eq_true rfl) rfl (oLt hK (a := 6) (Nat.le_of_ble_eq_true rfl)) (oSho hK (a := 6) (Nat.le_of_ble_eq_true rfl) rfl) ?_
    refine oe_dup_x1 (pc := 32) d_X4_addPoint_32 rfl rfl ?_
    refine oe_iconst (pc := 33) (v := 1) d_X4_addPoint_33 rfl ?_
    refine oe_iadd (pc := 34) d_X4_addPoint_34 ?_
    refine oe_putf (pc := 35) d_X4_addPoint_35 fl_X4_28 ock4 (k := 5) (Nat.le_of_ble_eq_true rfl) rfl rfl (oLt hK (a := 6) (Nat.le_of_ble_eq_true rfl)) (oSho hK (a := 6) (Nat.le_of_ble_eq_true rfl) rfl) ?_
    obtain ⟨rfl, rfl⟩ := oRes h
    exact oe_iret (pc := 38) d_X4_addPoint_38 ⟨_, rfl, rfl⟩
  · replace h := (if_neg c1).symm.trans h
    refine oe_bipush (pc := 9) (v := (-3)) d_X4_addPoint_9 rfl ?_
    obtain ⟨rfl, rfl⟩ := oRes h
    exact oe_iret (pc := 11) d_X4_addPoint_11 ⟨_, rfl, rfl⟩
theorem d_X4_addWay_0 : decode J_X4_addWay.2.1 0 = .ok (.aload_n 0, 1) := by decide +kernel
theorem d_X4_addWay_1 : decode J_X4_addWay.2.1 1 = .ok (.getfield 32, 3) := by decide +kernel
theorem d_X4_addWay_4 : decode J_X4_addWay.2.1 4 = .ok (.bipush 20, 2) := by decide +kernel
theorem d_X4_addWay_6 : decode J_X4_addWay.2.1 6 = .ok (.if_icmp .lt 6, 3) := by decide +kernel
theorem d_X4_addWay_9 : decode J_X4_addWay.2.1 9 = .ok (.bipush (-3), 2) := by decide +kernel
theorem d_X4_addWay_11 : decode J_X4_addWay.2.1 11 = .ok (.ireturn, 1) := by decide +kernel
theorem d_X4_addWay_12 : decode J_X4_addWay.2.1 12 = .ok (.aload_n 0, 1) := by decide +kernel
theorem d_X4_addWay_13 : decode J_X4_addWay.2.1 13 = .ok (.getfield 9, 3) := by decide +kernel
theorem d_X4_addWay_16 : decode J_X4_addWay.2.1 16 = .ok (.aload_n 0, 1) := by decide +kernel
theorem d_X4_addWay_17 : decode J_X4_addWay.2.1 17 = .ok (.getfield 32, 3) := by decide +kernel
theorem d_X4_addWay_20 : decode J_X4_addWay.2.1 20 = .ok (.iload_n 1, 1) := by decide +kernel
theorem d_X4_addWay_21 : decode J_X4_addWay.2.1 21 = .ok (.iastore, 1) := by decide +kernel
theorem d_X4_addWay_22 : decode J_X4_addWay.2.1 22 = .ok (.aload_n 0, 1) := by decide +kernel
theorem d_X4_addWay_23 : decode J_X4_addWay.2.1 23 = .ok (.getfield 15, 3) := by decide +kernel
theorem d_X4_addWay_26 : decode J_X4_addWay.2.1 26 = .ok (.aload_n 0, 1) := by decide +kernel
theorem d_X4_addWay_27 : decode J_X4_addWay.2.1 27 = .ok (.getfield 32, 3) := by decide +kernel
theorem d_X4_addWay_30 : decode J_X4_addWay.2.1 30 = .ok (.iload_n 2, 1) := by decide +kernel
theorem d_X4_addWay_31 : decode J_X4_addWay.2.1 31 = .ok (.iastore, 1) := by decide +kernel
theorem d_X4_addWay_32 : decode J_X4_addWay.2.1 32 = .ok (.aload_n 0, 1) := by decide +kernel
theorem d_X4_addWay_33 : decode J_X4_addWay.2.1 33 = .ok (.getfield 18, 3) := by decide +kernel
theorem d_X4_addWay_36 : decode J_X4_addWay.2.1 36 = .ok (.aload_n 0, 1) := by decide +kernel
theorem d_X4_addWay_37 : decode J_X4_addWay.2.1 37 = .ok (.getfield 32, 3) := by decide +kernel
theorem d_X4_addWay_40 : decode J_X4_addWay.2.1 40 = .ok (.iload_n 3, 1) := by decide +kernel
theorem d_X4_addWay_41 : decode J_X4_addWay.2.1 41 = .ok (.iastore, 1) := by decide +kernel
theorem d_X4_addWay_42 : decode J_X4_addWay.2.1 42 = .ok (.aload_n 0, 1) := by decide +kernel
theorem d_X4_addWay_43 : decode J_X4_addWay.2.1 43 = .ok (.dup, 1) := by decide +kernel
theorem d_X4_addWay_44 : decode J_X4_addWay.2.1 44 = .ok (.getfield 32, 3) := by decide +kernel
theorem d_X4_addWay_47 : decode J_X4_addWay.2.1 47 = .ok (.dup_x1, 1) := by decide +kernel
theorem d_X4_addWay_48 : decode J_X4_addWay.2.1 48 = .ok (.iconst 1, 1) := by decide +kernel
theorem d_X4_addWay_49 : decode J_X4_addWay.2.1 49 = .ok (.iadd, 1) := by decide +kernel
theorem d_X4_addWay_50 : decode J_X4_addWay.2.1 50 = .ok (.putfield 32, 3) := by decide +kernel
theorem d_X4_addWay_53 : decode J_X4_addWay.2.1 53 = .ok (.ireturn, 1) := by decide +kernel
def f_X4_addWay (N : Nat) (K : oK) (p1 : Int32) (p2 : Int32) (p3 : Int32) (M : oM) : Option (Int32 × oM) :=
  (if (M.1 6 6) < 20 then oIx ((M.1 6 6)) 20 (oIx (((oUp M 7 ((M.1 6 6) : Int32).toNatClampNeg p1).1 6 6)) 20 (oIx (((oUp (oUp M 7 ((M.1 6 6) : Int32).toNatClampNeg p1) 8 (((oUp M 7 ((M.1 6 6) : Int32).toNatClampNeg p1).1 6 6) : Int32).toNatClampNeg p2).1 6 6)) 20 (some (((oUp (oUp (oUp M 7 ((M.1 6 6) : Int32).toNatClampNeg p1) 8 (((oUp M 7 ((M.1 6 6) : Int32).toNatClampNeg p1).1 6 6) : Int32).toNatClampNeg p2) 9 (((oUp (oUp M 7 ((M.1 6 6) : Int32).toNatClampNeg p1) 8 (((oUp M 7 ((M.1 6 6) : Int32).toNatClampNeg p1).1 6 6) : Int32).toNatClampNeg p2).1 6 6) : Int32).toNatClampNeg p3).1 6 6), (oUp (oUp (oUp (oUp M 7 ((M.1 6 6) : Int32).toNatClampNeg p1) 8 (((oUp M 7 ((M.1 6 6) : Int32).toNatClampNeg p1).1 6 6) : Int32).toNatClampNeg p2) 9 (((oUp (oUp M 7 ((M.1 6 6) : Int32).toNatClampNeg p1) 8 (((oUp M 7 ((M.1 6 6) : Int32).toNatClampNeg p1).1 6 6) : Int32).toNatClampNeg p2).1 6 6) : Int32).toNatClampNeg p3) 6 6 (((oUp (oUp (oUp M 7 ((M.1 6 6) : Int32).toNatClampNeg p1) 8 (((oUp M 7 ((M.1 6 6) : Int32).toNatClampNeg p1).1 6 6) : Int32).toNatClampNeg p2) 9 (((oUp (oUp M 7 ((M.1 6 6) : Int32).toNatClampNeg p1) 8 (((oUp M 7 ((M.1 6 6) : Int32).toNatClampNeg p1).1 6 6) : Int32).toNatClampNeg p2).1 6 6) : Int32).toNatClampNeg p3).1 6 6) + 1)))))) else some ((-3), M))
set_option maxRecDepth 20000 in
theorem v_X4_addWay {X : oX} {N : Nat} {K : oK} {p1 : Int32} {p2 : Int32} {p3 : Int32} {M : oM} {v : Int32} {M' : oM} (hK : oSR K)  (h : f_X4_addWay N K p1 p2 p3 M = some (v, M')) : oMet X 1 J_X4_addWay [(.ref 6), (.int p1), (.int p2), (.int p3)] K M (some (.int v)) K M' := by
  unfold f_X4_addWay at h
  refine oMet_of (L := [some (.ref 6), some (.int p1), some (.int p2), some (.int p3)]) jJ_X4_addWay.1 rfl (Nat.le_of_ble_eq_true rfl) rfl (Nat.le_refl _) (Nat.le_refl _) ?_
  have hd : 1 ≤ 1 := Nat.le_refl _
  refine oe_aload_n (pc := 0) d_X4_addWay_0 rfl ?_
  refine oe_getf (pc := 1) d_X4_addWay_1 fl_X4_32 ock4 (k := 6) (Nat.le_of_ble_eq_true rfl) rfl (oLt hK (a := 6) (Nat.le_of_ble_eq_true rfl)) (oSho hK (a := 6) (Nat.le_of_ble_eq_true rfl) rfl) ?_
  refine oe_bipush (pc := 4) (v := 20) d_X4_addWay_4 rfl ?_
  refine oe_icmp_lt (pc := 6) (tgt := 12) d_X4_addWay_6 (by decide) (fun c1 => ?_) (fun c1 => ?_)
  · replace h := (if_pos c1).symm.trans h
    refine oe_aload_n (pc := 12) d_X4_addWay_12 rfl ?_
    refine oe_getr (pc := 13) d_X4_addWay_13 fl_X4_9 ock4 (k := 1) (b := 7) (Nat.le_of_ble_eq_true rfl) (by decide) (oLt hK (a := 6) (Nat.le_of_ble_eq_true rfl)) (oSho hK (a := 6) (Nat.le_of_ble_eq_true rfl) rfl) (oRfK hK rfl) ?_
    refine oe_aload_n (pc := 16) d_X4_addWay_16 rfl ?_
    refine oe_getf (pc := 17) d_X4_addWay_17 fl_X4_32 ock4 (k := 6) (Nat.le_of_ble_eq_true rfl) rfl (oLt hK (a := 6) (Nat.le_of_ble_eq_true rfl)) (oSho hK (a := 6) (Nat.le_of_ble_eq_true rfl) rfl) ?_
    refine oe_iload_n (pc := 20) d_X4_addWay_20 rfl ?_
    obtain ⟨i2, h⟩ := oIx_some h
    refine oe_iast (pc := 21) d_X4_addWay_21 (oLt hK (a := 7) (Nat.le_of_ble_eq_true rfl)) (oSha hK (a := 7) (Nat.le_of_ble_eq_true rfl) rfl) i2 ?_
    refine oe_aload_n (pc := 22) d_X4_addWay_22 rfl ?_
    refine oe_getr (pc := 23) d_X4_addWay_23 fl_X4_15 ock4 (k := 2) (b := 8) (Nat.le_of_ble_eq_true rfl) (by decide) (oLt hK (a := 6) (Nat.le_of_ble_eq_true rfl)) (oSho hK (a := 6) (Nat.le_of_ble_eq_true rfl) rfl) (oRfK hK rfl) ?_
    refine oe_aload_n (pc := 26) d_X4_addWay_26 rfl ?_
    refine oe_getf (pc := 27) d_X4_addWay_27 fl_X4_32 ock4 (k := 6) (Nat.le_of_ble_eq_true rfl) rfl (oLt hK (a := 6) (Nat.le_of_ble_eq_true rfl)) (oSho hK (a := 6) (Nat.le_of_ble_eq_true rfl) rfl) ?_
    refine oe_iload_n (pc := 30) d_X4_addWay_30 rfl ?_
    obtain ⟨i3, h⟩ := oIx_some h
    refine oe_iast (pc := 31) d_X4_addWay_31 (oLt hK (a := 8) (Nat.le_of_ble_eq_true rfl)) (oSha hK (a := 8) (Nat.le_of_ble_eq_true rfl) rfl) i3 ?_
    refine oe_aload_n (pc := 32) d_X4_addWay_32 rfl ?_
    refine oe_getr (pc := 33) d_X4_addWay_33 fl_X4_18 ock4 (k := 3) (b := 9) (Nat.le_of_ble_eq_true rfl) (by decide) (oLt hK (a := 6) (Nat.le_of_ble_eq_true rfl)) (oSho hK (a := 6) (Nat.le_of_ble_eq_true rfl) rfl) (oRfK hK rfl) ?_
    refine oe_aload_n (pc := 36) d_X4_addWay_36 rfl ?_
    refine oe_getf (pc := 37) d_X4_addWay_37 fl_X4_32 ock4 (k := 6) (Nat.le_of_ble_eq_true rfl) rfl (oLt hK (a := 6) (Nat.le_of_ble_eq_true rfl)) (oSho hK (a := 6) (Nat.le_of_ble_eq_true rfl) rfl) ?_
    refine oe_iload_n (pc := 40) d_X4_addWay_40 rfl ?_
    obtain ⟨i4, h⟩ := oIx_some h
    refine oe_iast (pc := 41) d_X4_addWay_41 (oLt hK (a := 9) (Nat.le_of_ble_eq_true rfl)) (oSha hK (a := 9) (Nat.le_of_ble_eq_true rfl) rfl) i4 ?_
    refine oe_aload_n (pc := 42) d_X4_addWay_42 rfl ?_
    refine oe_dup (pc := 43) d_X4_addWay_43 rfl ?_
    refine oe_getf (pc := 44) d_X4_addWay_44 fl_X4_32 ock4 (k := 6) (Nat.le_of_ble_eq_true rfl) rfl (oLt hK (a := 6) (Nat.le_of_ble_eq_true rfl)) (oSho hK (a := 6) (Nat.le_of_ble_eq_true rfl) rfl) ?_
    refine oe_dup_x1 (pc := 47) d_X4_addWay_47 rfl rfl ?_
    refine oe_iconst (pc := 48) (v := 1) d_X4_addWay_48 rfl ?_
    refine oe_iadd (pc := 49) d_X4_addWay_49 ?_
    refine oe_putf (pc := 50) d_X4_addWay_50 fl_X4_32 ock4 (k := 6) (Nat.le_of_ble_eq_true rfl) rfl rfl (oLt hK (a := 6) (Nat.le_of_ble_eq_true rfl)) (oSho hK (a := 6) (Nat.le_of_ble_eq_true rfl) rfl) ?_
    obtain ⟨rfl, rfl⟩ := oRes h
    exact oe_iret (pc := 53) d_X4_addWay_53 ⟨_, rfl, rfl⟩
  · replace h := (if_neg c1).symm.trans h
    refine oe_bipush (pc := 9) (v := (-3)) d_X4_addWay_9 rfl ?_
    obtain ⟨rfl, rfl⟩ := oRes h
    exact oe_iret (pc := 11) d_X4_addWay_11 ⟨_, rfl, rfl⟩
theorem d_X4_otherEnd_0 : decode J_X4_otherEnd.2.1 0 = .ok (.aload_n 0, 1) := by decide +kernel
theorem d_X4_otherEnd_1 : decode J_X4_otherEnd.2.1 1 = .ok (.iload_n 1, 1) := by decide +kernel
theorem d_X4_otherEnd_2 : decode J_X4_otherEnd.2.1 2 = .ok (.invokevirtual 41, 3) := by decide +kernel
theorem d_X4_otherEnd_5 : decode J_X4_otherEnd.2.1 5 = .ok (.ifCond .ne 5, 3) := by decide +kernel
theorem d_X4_otherEnd_8 : decode J_X4_otherEnd.2.1 8 = .ok (.iconst (-1), 1) := by decide +kernel
theorem d_X4_otherEnd_9 : decode J_X4_otherEnd.2.1 9 = .ok (.ireturn, 1) := by decide +kernel
theorem d_X4_otherEnd_10 : decode J_X4_otherEnd.2.1 10 = .ok (.aload_n 0, 1) := by decide +kernel
theorem d_X4_otherEnd_11 : decode J_X4_otherEnd.2.1 11 = .ok (.getfield 9, 3) := by decide +kernel
theorem d_X4_otherEnd_14 : decode J_X4_otherEnd.2.1 14 = .ok (.iload_n 1, 1) := by decide +kernel
theorem d_X4_otherEnd_15 : decode J_X4_otherEnd.2.1 15 = .ok (.iaload, 1) := by decide +kernel
theorem d_X4_otherEnd_16 : decode J_X4_otherEnd.2.1 16 = .ok (.iload_n 2, 1) := by decide +kernel
theorem d_X4_otherEnd_17 : decode J_X4_otherEnd.2.1 17 = .ok (.if_icmp .ne 10, 3) := by decide +kernel
theorem d_X4_otherEnd_20 : decode J_X4_otherEnd.2.1 20 = .ok (.aload_n 0, 1) := by decide +kernel
theorem d_X4_otherEnd_21 : decode J_X4_otherEnd.2.1 21 = .ok (.getfield 15, 3) := by decide +kernel
theorem d_X4_otherEnd_24 : decode J_X4_otherEnd.2.1 24 = .ok (.iload_n 1, 1) := by decide +kernel
theorem d_X4_otherEnd_25 : decode J_X4_otherEnd.2.1 25 = .ok (.iaload, 1) := by decide +kernel
theorem d_X4_otherEnd_26 : decode J_X4_otherEnd.2.1 26 = .ok (.ireturn, 1) := by decide +kernel
theorem d_X4_otherEnd_27 : decode J_X4_otherEnd.2.1 27 = .ok (.aload_n 0, 1) := by decide +kernel
theorem d_X4_otherEnd_28 : decode J_X4_otherEnd.2.1 28 = .ok (.getfield 15, 3) := by decide +kernel
theorem d_X4_otherEnd_31 : decode J_X4_otherEnd.2.1 31 = .ok (.iload_n 1, 1) := by decide +kernel
theorem d_X4_otherEnd_32 : decode J_X4_otherEnd.2.1 32 = .ok (.iaload, 1) := by decide +kernel
theorem d_X4_otherEnd_33 : decode J_X4_otherEnd.2.1 33 = .ok (.iload_n 2, 1) := by decide +kernel
theorem d_X4_otherEnd_34 : decode J_X4_otherEnd.2.1 34 = .ok (.if_icmp .ne 12, 3) := by decide +kernel
theorem d_X4_otherEnd_37 : decode J_X4_otherEnd.2.1 37 = .ok (.aload_n 0, 1) := by decide +kernel
theorem d_X4_otherEnd_38 : decode J_X4_otherEnd.2.1 38 = .ok (.getfield 9, 3) := by decide +kernel
theorem d_X4_otherEnd_41 : decode J_X4_otherEnd.2.1 41 = .ok (.iload_n 1, 1) := by decide +kernel
theorem d_X4_otherEnd_42 : decode J_X4_otherEnd.2.1 42 = .ok (.iaload, 1) := by decide +kernel
theorem d_X4_otherEnd_43 : decode J_X4_otherEnd.2.1 43 = .ok (.goto 4, 3) := by decide +kernel
theorem d_X4_otherEnd_46 : decode J_X4_otherEnd.2.1 46 = .ok (.iconst (-1), 1) := by decide +kernel
theorem d_X4_otherEnd_47 : decode J_X4_otherEnd.2.1 47 = .ok (.ireturn, 1) := by decide +kernel
def f_X4_otherEnd (N : Nat) (K : oK) (p1 : Int32) (p2 : Int32) (M : oM) : Option (Int32 × oM) :=
  oB2 (f_X4_isWay N K p1 M) (fun v1 M2 => cond v1 (oIx (p1) 20 ((if (M2.1 7 (p1 : Int32).toNatClampNeg) = p2 then oIx (p1) 20 (some ((M2.1 8 (p1 : Int32).toNatClampNeg), M2)) else oIx (p1) 20 ((if (M2.1 8 (p1 : Int32).toNatClampNeg) = p2 then oIx (p1) 20 (some ((M2.1 7 (p1 : Int32).toNatClampNeg), M2)) else some ((-1), M2)))))) (some ((-1), M2)))
set_option maxRecDepth 20000 in
theorem v_X4_otherEnd {X : oX} {N : Nat} {K : oK} {p1 : Int32} {p2 : Int32} {M : oM} {v : Int32} {M' : oM} (hK : oSR K)  (h : f_X4_otherEnd N K p1 p2 M = some (v, M')) : oMet X 2 J_X4_otherEnd [(.ref 6), (.int p1), (.int p2)] K M (some (.int v)) K M' := by
  unfold f_X4_otherEnd at h
  refine oMet_of (L := [some (.ref 6), some (.int p1), some (.int p2)]) jJ_X4_otherEnd.1 rfl (Nat.le_of_ble_eq_true rfl) rfl (Nat.le_refl _) (Nat.le_refl _) ?_
  have hd : 2 ≤ 2 := Nat.le_refl _
  refine oe_aload_n (pc := 0) d_X4_otherEnd_0 rfl ?_
  refine oe_iload_n (pc := 1) d_X4_otherEnd_1 rfl ?_
  obtain ⟨v1, M2, q3, h⟩ := oB2_some h
  cases v1 with
  | true =>
    replace h := oCt h
    refine oe_callV (pc := 2) (ci := 4) d_X4_otherEnd_2 (v_X4_isWay hK  q3) (by omega) ml_X4_41 jJ_X4_isWay rfl rfl (oLt hK (a := 6) (Nat.le_of_ble_eq_true rfl)) (oSho hK (a := 6) (Nat.le_of_ble_eq_true rfl) rfl) ock4 rfl (Nat.le_of_ble_eq_true rfl) ⟨Nat.le_refl _, Nat.le_refl _⟩ ⟨Nat.le_refl _, Nat.le_refl _⟩ ?_
    refine oe_if_ne (pc := 5) (tgt := 10) d_X4_otherEnd_5 (by decide) (fun _ => ?_) (fun c => absurd c (by decide))
    refine oe_aload_n (pc := 10) d_X4_otherEnd_10 rfl ?_
    refine oe_getr (pc := 11) d_X4_otherEnd_11 fl_X4_9 ock4 (k := 1) (b := 7) (Nat.le_of_ble_eq_true rfl) (by decide) (oLt hK (a := 6) (Nat.le_of_ble_eq_true rfl)) (oSho hK (a := 6) (Nat.le_of_ble_eq_true rfl) rfl) (oRfK hK rfl) ?_
    refine oe_iload_n (pc := 14) d_X4_otherEnd_14 rfl ?_
    obtain ⟨i4, h⟩ := oIx_some h
    refine oe_iald (pc := 15) d_X4_otherEnd_15 (oLt hK (a := 7) (Nat.le_of_ble_eq_true rfl)) (oSha hK (a := 7) (Nat.le_of_ble_eq_true rfl) rfl) i4 ?_
    refine oe_iload_n (pc := 16) d_X4_otherEnd_16 rfl ?_
    refine oe_icmp_ne (pc := 17) (tgt := 27) d_X4_otherEnd_17 (by decide) (fun c5 => ?_) (fun c5 => ?_)
    · replace h := (if_neg c5).symm.trans h
      refine oe_aload_n (pc := 27) d_X4_otherEnd_27 rfl ?_
      refine oe_getr (pc := 28) d_X4_otherEnd_28 fl_X4_15 ock4 (k := 2) (b := 8) (Nat.le_of_ble_eq_true rfl) (by decide) (oLt hK (a := 6) (Nat.le_of_ble_eq_true rfl)) (oSho hK (a := 6) (Nat.le_of_ble_eq_true rfl) rfl) (oRfK hK rfl) ?_
      refine oe_iload_n (pc := 31) d_X4_otherEnd_31 rfl ?_
      obtain ⟨i6, h⟩ := oIx_some h
      refine oe_iald (pc := 32) d_X4_otherEnd_32 (oLt hK (a := 8) (Nat.le_of_ble_eq_true rfl)) (oSha hK (a := 8) (Nat.le_of_ble_eq_true rfl) rfl) i6 ?_
      refine oe_iload_n (pc := 33) d_X4_otherEnd_33 rfl ?_
      refine oe_icmp_ne (pc := 34) (tgt := 46) d_X4_otherEnd_34 (by decide) (fun c7 => ?_) (fun c7 => ?_)
      · replace h := (if_neg c7).symm.trans h
        refine oe_iconst (pc := 46) (v := (-1)) d_X4_otherEnd_46 rfl ?_
        obtain ⟨rfl, rfl⟩ := oRes h
        exact oe_iret (pc := 47) d_X4_otherEnd_47 ⟨_, rfl, rfl⟩
      · replace h := (if_pos c7).symm.trans h
        refine oe_aload_n (pc := 37) d_X4_otherEnd_37 rfl ?_
        refine oe_getr (pc := 38) d_X4_otherEnd_38 fl_X4_9 ock4 (k := 1) (b := 7) (Nat.le_of_ble_eq_true rfl) (by decide) (oLt hK (a := 6) (Nat.le_of_ble_eq_true rfl)) (oSho hK (a := 6) (Nat.le_of_ble_eq_true rfl) rfl) (oRfK hK rfl) ?_
        refine oe_iload_n (pc := 41) d_X4_otherEnd_41 rfl ?_
        obtain ⟨i8, h⟩ := oIx_some h
        refine oe_iald (pc := 42) d_X4_otherEnd_42 (oLt hK (a := 7) (Nat.le_of_ble_eq_true rfl)) (oSha hK (a := 7) (Nat.le_of_ble_eq_true rfl) rfl) i8 ?_
        refine oe_goto (pc := 43) (tgt := 47) d_X4_otherEnd_43 (by decide) ?_
        obtain ⟨rfl, rfl⟩ := oRes h
        exact oe_iret (pc := 47) d_X4_otherEnd_47 ⟨_, rfl, rfl⟩
    · replace h := (if_pos c5).symm.trans h
      refine oe_aload_n (pc := 20) d_X4_otherEnd_20 rfl ?_
      refine oe_getr (pc := 21) d_X4_otherEnd_21 fl_X4_15 ock4 (k := 2) (b := 8) (Nat.le_of_ble_eq_true rfl) (by decide) (oLt hK (a := 6) (Nat.le_of_ble_eq_true rfl)) (oSho hK (a := 6) (Nat.le_of_ble_eq_true rfl) rfl) (oRfK hK rfl) ?_
      refine oe_iload_n (pc := 24) d_X4_otherEnd_24 rfl ?_
      obtain ⟨i9, h⟩ := oIx_some h
      refine oe_iald (pc := 25) d_X4_otherEnd_25 (oLt hK (a := 8) (Nat.le_of_ble_eq_true rfl)) (oSha hK (a := 8) (Nat.le_of_ble_eq_true rfl) rfl) i9 ?_
      obtain ⟨rfl, rfl⟩ := oRes h
      exact oe_iret (pc := 26) d_X4_otherEnd_26 ⟨_, rfl, rfl⟩
  | false =>
    replace h := oCf h
    refine oe_callV (pc := 2) (ci := 4) d_X4_otherEnd_2 (v_X4_isWay hK  q3) (by omega) ml_X4_41 jJ_X4_isWay rfl rfl (oLt hK (a := 6) (Nat.le_of_ble_eq_true rfl)) (oSho hK (a := 6) (Nat.le_of_ble_eq_true rfl) rfl) ock4 rfl (Nat.le_of_ble_eq_true rfl) ⟨Nat.le_refl _, Nat.le_refl _⟩ ⟨Nat.le_refl _, Nat.le_refl _⟩ ?_
    refine oe_if_ne (pc := 5) (tgt := 10) d_X4_otherEnd_5 (by decide) (fun c => absurd (by decide) c) (fun _ => ?_)
    refine oe_iconst (pc := 8) (v := (-1)) d_X4_otherEnd_8 rfl ?_
    obtain ⟨rfl, rfl⟩ := oRes h
    exact oe_iret (pc := 9) d_X4_otherEnd_9 ⟨_, rfl, rfl⟩
theorem d_X4_hasten_0 : decode J_X4_hasten.2.1 0 = .ok (.aload_n 0, 1) := by decide +kernel
theorem d_X4_hasten_1 : decode J_X4_hasten.2.1 1 = .ok (.getfield 21, 3) := by decide +kernel
theorem d_X4_hasten_4 : decode J_X4_hasten.2.1 4 = .ok (.iload_n 1, 1) := by decide +kernel
theorem d_X4_hasten_5 : decode J_X4_hasten.2.1 5 = .ok (.iaload, 1) := by decide +kernel
theorem d_X4_hasten_6 : decode J_X4_hasten.2.1 6 = .ok (.iload_n 3, 1) := by decide +kernel
theorem d_X4_hasten_7 : decode J_X4_hasten.2.1 7 = .ok (.iadd, 1) := by decide +kernel
theorem d_X4_hasten_8 : decode J_X4_hasten.2.1 8 = .ok (.aload_n 0, 1) := by decide +kernel
theorem d_X4_hasten_9 : decode J_X4_hasten.2.1 9 = .ok (.getfield 21, 3) := by decide +kernel
theorem d_X4_hasten_12 : decode J_X4_hasten.2.1 12 = .ok (.iload_n 2, 1) := by decide +kernel
theorem d_X4_hasten_13 : decode J_X4_hasten.2.1 13 = .ok (.iaload, 1) := by decide +kernel
theorem d_X4_hasten_14 : decode J_X4_hasten.2.1 14 = .ok (.if_icmp .ge 17, 3) := by decide +kernel
theorem d_X4_hasten_17 : decode J_X4_hasten.2.1 17 = .ok (.aload_n 0, 1) := by decide +kernel
theorem d_X4_hasten_18 : decode J_X4_hasten.2.1 18 = .ok (.getfield 21, 3) := by decide +kernel
theorem d_X4_hasten_21 : decode J_X4_hasten.2.1 21 = .ok (.iload_n 2, 1) := by decide +kernel
theorem d_X4_hasten_22 : decode J_X4_hasten.2.1 22 = .ok (.aload_n 0, 1) := by decide +kernel
theorem d_X4_hasten_23 : decode J_X4_hasten.2.1 23 = .ok (.getfield 21, 3) := by decide +kernel
theorem d_X4_hasten_26 : decode J_X4_hasten.2.1 26 = .ok (.iload_n 1, 1) := by decide +kernel
theorem d_X4_hasten_27 : decode J_X4_hasten.2.1 27 = .ok (.iaload, 1) := by decide +kernel
theorem d_X4_hasten_28 : decode J_X4_hasten.2.1 28 = .ok (.iload_n 3, 1) := by decide +kernel
theorem d_X4_hasten_29 : decode J_X4_hasten.2.1 29 = .ok (.iadd, 1) := by decide +kernel
theorem d_X4_hasten_30 : decode J_X4_hasten.2.1 30 = .ok (.iastore, 1) := by decide +kernel
theorem d_X4_hasten_31 : decode J_X4_hasten.2.1 31 = .ok (.return_, 1) := by decide +kernel
def f_X4_hasten (N : Nat) (K : oK) (p1 : Int32) (p2 : Int32) (p3 : Int32) (M : oM) : Option (Unit × oM) :=
  oIx (p1) 12 (oIx (p2) 12 ((if (M.1 10 (p2 : Int32).toNatClampNeg) ≤ ((M.1 10 (p1 : Int32).toNatClampNeg) + p3) then some ((), M) else oIx (p1) 12 (oIx (p2) 12 (some ((), (oUp M 10 (p2 : Int32).toNatClampNeg ((M.1 10 (p1 : Int32).toNatClampNeg) + p3))))))))
set_option maxRecDepth 20000 in
theorem v_X4_hasten {X : oX} {N : Nat} {K : oK} {p1 : Int32} {p2 : Int32} {p3 : Int32} {M : oM} {v : Unit} {M' : oM} (hK : oSR K)  (h : f_X4_hasten N K p1 p2 p3 M = some (v, M')) : oMet X 1 J_X4_hasten [(.ref 6), (.int p1), (.int p2), (.int p3)] K M none K M' := by
  unfold f_X4_hasten at h
  refine oMet_of (L := [some (.ref 6), some (.int p1), some (.int p2), some (.int p3)]) jJ_X4_hasten.1 rfl (Nat.le_of_ble_eq_true rfl) rfl (Nat.le_refl _) (Nat.le_refl _) ?_
  have hd : 1 ≤ 1 := Nat.le_refl _
  refine oe_aload_n (pc := 0) d_X4_hasten_0 rfl ?_
  refine oe_getr (pc := 1) d_X4_hasten_1 fl_X4_21 ock4 (k := 4) (b := 10) (Nat.le_of_ble_eq_true rfl) (by decide) (oLt hK (a := 6) (Nat.le_of_ble_eq_true rfl)) (oSho hK (a := 6) (Nat.le_of_ble_eq_true rfl) rfl) (oRfK hK rfl) ?_
  refine oe_iload_n (pc := 4) d_X4_hasten_4 rfl ?_
  obtain ⟨i1, h⟩ := oIx_some h
  refine oe_iald (pc := 5) d_X4_hasten_5 (oLt hK (a := 10) (Nat.le_of_ble_eq_true rfl)) (oSha hK (a := 10) (Nat.le_of_ble_eq_true rfl) rfl) i1 ?_
  refine oe_iload_n (pc := 6) d_X4_hasten_6 rfl ?_
  refine oe_iadd (pc := 7) d_X4_hasten_7 ?_
  refine oe_aload_n (pc := 8) d_X4_hasten_8 rfl ?_
  refine oe_getr (pc := 9) d_X4_hasten_9 fl_X4_21 ock4 (k := 4) (b := 10) (Nat.le_of_ble_eq_true rfl) (by decide) (oLt hK (a := 6) (Nat.le_of_ble_eq_true rfl)) (oSho hK (a := 6) (Nat.le_of_ble_eq_true rfl) rfl) (oRfK hK rfl) ?_
  refine oe_iload_n (pc := 12) d_X4_hasten_12 rfl ?_
  obtain ⟨i2, h⟩ := oIx_some h
  refine oe_iald (pc := 13) d_X4_hasten_13 (oLt hK (a := 10) (Nat.le_of_ble_eq_true rfl)) (oSha hK (a := 10) (Nat.le_of_ble_eq_true rfl) rfl) i2 ?_
  refine oe_icmp_ge (pc := 14) (tgt := 31) d_X4_hasten_14 (by decide) (fun c3 => ?_) (fun c3 => ?_)
  · replace h := (if_pos c3).symm.trans h
    obtain ⟨rfl, rfl⟩ := oRes h
    exact oe_vret (pc := 31) d_X4_hasten_31 rfl
  · replace h := (if_neg c3).symm.trans h
    refine oe_aload_n (pc := 17) d_X4_hasten_17 rfl ?_
    refine oe_getr (pc := 18) d_X4_hasten_18 fl_X4_21 ock4 (k := 4) (b := 10) (Nat.le_of_ble_eq_true rfl) (by decide) (oLt hK (a := 6) (Nat.le_of_ble_eq_true rfl)) (oSho hK (a := 6) (Nat.le_of_ble_eq_true rfl) rfl) (oRfK hK rfl) ?_
    refine oe_iload_n (pc := 21) d_X4_hasten_21 rfl ?_
    refine oe_aload_n (pc := 22) d_X4_hasten_22 rfl ?_
    refine oe_getr (pc := 23) d_X4_hasten_23 fl_X4_21 ock4 (k := 4) (b := 10) (Nat.le_of_ble_eq_true rfl) (by decide) (oLt hK (a := 6) (Nat.le_of_ble_eq_true rfl)) (oSho hK (a := 6) (Nat.le_of_ble_eq_true rfl) rfl) (oRfK hK rfl) ?_
    refine oe_iload_n (pc := 26) d_X4_hasten_26 rfl ?_
    obtain ⟨i4, h⟩ := oIx_some h
    refine oe_iald (pc := 27) d_X4_hasten_27 (oLt hK (a := 10) (Nat.le_of_ble_eq_true rfl)) (oSha hK (a := 10) (Nat.le_of_ble_eq_true rfl) rfl) i4 ?_
    refine oe_iload_n (pc := 28) d_X4_hasten_28 rfl ?_
    refine oe_iadd (pc := 29) d_X4_hasten_29 ?_
    obtain ⟨i5, h⟩ := oIx_some h
    refine oe_iast (pc := 30) d_X4_hasten_30 (oLt hK (a := 10) (Nat.le_of_ble_eq_true rfl)) (oSha hK (a := 10) (Nat.le_of_ble_eq_true rfl) rfl) i5 ?_
    obtain ⟨rfl, rfl⟩ := oRes h
    exact oe_vret (pc := 31) d_X4_hasten_31 rfl
