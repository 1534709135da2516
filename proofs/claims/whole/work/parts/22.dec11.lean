/-! walked by program: X11_isKind, X11_isUnder, X11_taken, X11_count, X12_within, X12_becomes, X12_undo, X12_redo, X12_isPoint, X12_isWay, X12_isBore, X12_isEngine, X12_point, X12_height -/
theorem d_X11_isKind_0 : decode J_X11_isKind.2.1 0 = .ok (.iload_n 0, 1) := by decide +kernel
theorem d_X11_isKind_1 : decode J_X11_isKind.2.1 1 = .ok (.iconst 0, 1) := by decide +kernel
theorem d_X11_isKind_2 : decode J_X11_isKind.2.1 2 = .ok (.iconst 5, 1) := by decide +kernel
theorem d_X11_isKind_3 : decode J_X11_isKind.2.1 3 = .ok (.invokestatic 89, 3) := by decide +kernel
theorem d_X11_isKind_6 : decode J_X11_isKind.2.1 6 = .ok (.ireturn, 1) := by decide +kernel
def f_X11_isKind (N : Nat) (K : oK) (p0 : Int32) (M : oM) : Option (Bool × oM) :=
  oB2 (f_X11_within N K p0 (0 : Int32) (5 : Int32) M) (fun v1 M2 => cond v1 (some (true, M2)) (some (false, M2)))
set_option maxRecDepth 20000 in
theorem v_X11_isKind {X : oX} {N : Nat} {K : oK} {p0 : Int32} {M : oM} {v : Bool} {M' : oM} (hK : oSR K)  (h : f_X11_isKind N K p0 M = some (v, M')) : oMet X 2 J_X11_isKind [(.int p0)] K M (some (.int (oBi v))) K M' := by
  unfold f_X11_isKind at h
  refine oMet_of (L := [some (.int p0)]) jJ_X11_isKind.1 rfl (Nat.le_of_ble_eq_true rfl) rfl (Nat.le_refl _) (Nat.le_refl _) ?_
  have hd : 2 ≤ 2 := Nat.le_refl _
  refine oe_iload_n (pc := 0) d_X11_isKind_0 rfl ?_
  refine oe_iconst (pc := 1) (v := 0) d_X11_isKind_1 rfl ?_
  refine oe_iconst (pc := 2) (v := 5) d_X11_isKind_2 rfl ?_
  obtain ⟨v1, M2, q3, h⟩ := oB2_some h
  cases v1 with
  | true =>
    replace h := oCt h
    refine oe_callS (pc := 3) d_X11_isKind_3 (v_X11_within hK  q3) (by omega) ml_X11_89 jJ_X11_within rfl rfl (Nat.le_of_ble_eq_true rfl) ⟨Nat.le_refl _, Nat.le_refl _⟩ ⟨Nat.le_refl _, Nat.le_refl _⟩ ?_
    obtain ⟨rfl, rfl⟩ := oRes h
    exact oe_iret (pc := 6) d_X11_isKind_6 ⟨_, rfl, rfl⟩
  | false =>
    replace h := oCf h
    refine oe_callS (pc := 3) d_X11_isKind_3 (v_X11_within hK  q3) (by omega) ml_X11_89 jJ_X11_within rfl rfl (Nat.le_of_ble_eq_true rfl) ⟨Nat.le_refl _, Nat.le_refl _⟩ ⟨Nat.le_refl _, Nat.le_refl _⟩ ?_
    obtain ⟨rfl, rfl⟩ := oRes h
    exact oe_iret (pc := 6) d_X11_isKind_6 ⟨_, rfl, rfl⟩
theorem d_X11_isUnder_0 : decode J_X11_isUnder.2.1 0 = .ok (.iload_n 0, 1) := by decide +kernel
theorem d_X11_isUnder_1 : decode J_X11_isUnder.2.1 1 = .ok (.istore_n 2, 1) := by decide +kernel
theorem d_X11_isUnder_2 : decode J_X11_isUnder.2.1 2 = .ok (.iconst 0, 1) := by decide +kernel
theorem d_X11_isUnder_3 : decode J_X11_isUnder.2.1 3 = .ok (.istore_n 3, 1) := by decide +kernel
theorem d_X11_isUnder_4 : decode J_X11_isUnder.2.1 4 = .ok (.iload_n 3, 1) := by decide +kernel
theorem d_X11_isUnder_5 : decode J_X11_isUnder.2.1 5 = .ok (.bipush 6, 2) := by decide +kernel
theorem d_X11_isUnder_7 : decode J_X11_isUnder.2.1 7 = .ok (.if_icmp .ge 29, 3) := by decide +kernel
theorem d_X11_isUnder_10 : decode J_X11_isUnder.2.1 10 = .ok (.iload_n 2, 1) := by decide +kernel
theorem d_X11_isUnder_11 : decode J_X11_isUnder.2.1 11 = .ok (.invokestatic 138, 3) := by decide +kernel
theorem d_X11_isUnder_14 : decode J_X11_isUnder.2.1 14 = .ok (.ifCond .eq 22, 3) := by decide +kernel
theorem d_X11_isUnder_17 : decode J_X11_isUnder.2.1 17 = .ok (.iload_n 2, 1) := by decide +kernel
theorem d_X11_isUnder_18 : decode J_X11_isUnder.2.1 18 = .ok (.iload_n 1, 1) := by decide +kernel
theorem d_X11_isUnder_19 : decode J_X11_isUnder.2.1 19 = .ok (.if_icmp .ne 5, 3) := by decide +kernel
theorem d_X11_isUnder_22 : decode J_X11_isUnder.2.1 22 = .ok (.iconst 1, 1) := by decide +kernel
theorem d_X11_isUnder_23 : decode J_X11_isUnder.2.1 23 = .ok (.ireturn, 1) := by decide +kernel
theorem d_X11_isUnder_24 : decode J_X11_isUnder.2.1 24 = .ok (.getstatic 354, 3) := by decide +kernel
theorem d_X11_isUnder_27 : decode J_X11_isUnder.2.1 27 = .ok (.iload_n 2, 1) := by decide +kernel
theorem d_X11_isUnder_28 : decode J_X11_isUnder.2.1 28 = .ok (.iaload, 1) := by decide +kernel
theorem d_X11_isUnder_29 : decode J_X11_isUnder.2.1 29 = .ok (.istore_n 2, 1) := by decide +kernel
theorem d_X11_isUnder_30 : decode J_X11_isUnder.2.1 30 = .ok (.iinc 3 1, 3) := by decide +kernel
theorem d_X11_isUnder_33 : decode J_X11_isUnder.2.1 33 = .ok (.goto (-29), 3) := by decide +kernel
theorem d_X11_isUnder_36 : decode J_X11_isUnder.2.1 36 = .ok (.iconst 0, 1) := by decide +kernel
theorem d_X11_isUnder_37 : decode J_X11_isUnder.2.1 37 = .ok (.ireturn, 1) := by decide +kernel
def f_X11_isUnder_4 (N : Nat) (K : oK)  : Nat → Int32 → Int32 → Int32 → oM → Option (Bool × oM)
  | 0, _, _, _, _ => none
  | n + 1, p1, p2, p3, M => (fun r4 => (if 6 ≤ p3 then some (false, M) else oB2 (f_X11_isKind N K p2 M) (fun v2 M3 => cond v2 ((if p2 = p1 then some (true, M3) else oIx (p2) 6 ((r4 p1 (oTb 2 (p2 : Int32).toNatClampNeg) (p3 + 1) M3)))) (some (false, M3))))) (f_X11_isUnder_4 N K  n)
set_option maxRecDepth 20000 in
theorem v_X11_isUnder_4_L {X : oX} {d N : Nat} {K : oK}  (hd : 3 ≤ d) (hK : oSR K)  : ∀ (n : Nat) (p1 : Int32) (p2 : Int32) (p3 : Int32) (M : oM) (v : Bool) (M' : oM)  , f_X11_isUnder_4 N K  n p1 p2 p3 M = some (v, M') → oEv X d J_X11_isUnder 4 [none, some (.int p1), some (.int p2), some (.int p3)] [] K M (some (.int (oBi v))) K M' := by
  intro n
  induction n with
  | zero =>
    intro p1 p2 p3 M v M'   h
    cases h
  | succ n hr4 =>
    intro p1 p2 p3 M v M'   h
    refine oe_iload_n (pc := 4) d_X11_isUnder_4 rfl ?_
    refine oe_bipush (pc := 5) (v := 6) d_X11_isUnder_5 rfl ?_
    refine oe_icmp_ge (pc := 7) (tgt := 36) d_X11_isUnder_7 (by decide) (fun c1 => ?_) (fun c1 => ?_)
    · replace h := (if_pos c1).symm.trans h
      refine oe_iconst (pc := 36) (v := 0) d_X11_isUnder_36 rfl ?_
      obtain ⟨rfl, rfl⟩ := oRes h
      exact oe_iret (pc := 37) d_X11_isUnder_37 ⟨_, rfl, rfl⟩
    · replace h := (if_neg c1).symm.trans h
      refine oe_iload_n (pc := 10) d_X11_isUnder_10 rfl ?_
      obtain ⟨v2, M3, q4, h⟩ := oB2_some h
      cases v2 with
      | true =>
        replace h := oCt h
        refine oe_callS (pc := 11) d_X11_isUnder_11 (v_X11_isKind hK  q4) (by omega) ml_X11_138 jJ_X11_isKind rfl rfl (Nat.le_of_ble_eq_true rfl) ⟨Nat.le_refl _, Nat.le_refl _⟩ ⟨Nat.le_refl _, Nat.le_refl _⟩ ?_
        refine oe_if_eq (pc := 14) (tgt := 36) d_X11_isUnder_14 (by decide) (fun c => absurd c (by decide)) (fun _ => ?_)
        refine oe_iload_n (pc := 17) d_X11_isUnder_17 rfl ?_
        refine oe_iload_n (pc := 18) d_X11_isUnder_18 rfl ?_
        refine oe_icmp_ne (pc := 19) (tgt := 24) d_X11_isUnder_19 (by decide) (fun c5 => ?_) (fun c5 => ?_)
        · replace h := (if_neg c5).symm.trans h
          refine oe_gets (pc := 24) (t := 2) d_X11_isUnder_24 (by decide) (by decide) fs_X11_354 ?_
          refine oe_iload_n (pc := 27) d_X11_isUnder_27 rfl ?_
          obtain ⟨i6, h⟩ := oIx_some h
          refine oe_tald (pc := 28) (t := 2) d_X11_isUnder_28 (by decide) (by decide) i6 ?_
          refine oe_istore_n (pc := 29) (L2 := [_, _, _, _]) d_X11_isUnder_29 rfl rfl (Nat.le_of_ble_eq_true rfl) rfl ?_
          refine oe_iinc (pc := 30) (v := (p3 + 1)) (L2 := [_, _, _, _]) d_X11_isUnder_30 rfl rfl rfl (Nat.le_of_ble_eq_true rfl) rfl ?_
          refine oe_goto (pc := 33) (tgt := 4) d_X11_isUnder_33 (by decide) ?_
          exact hr4 _ _ _ _ _ _ h
        · replace h := (if_pos c5).symm.trans h
          refine oe_iconst (pc := 22) (v := 1) d_X11_isUnder_22 rfl ?_
          obtain ⟨rfl, rfl⟩ := oRes h
          exact oe_iret (pc := 23) d_X11_isUnder_23 ⟨_, rfl, rfl⟩
      | false =>
        replace h := oCf h
        refine oe_callS (pc := 11) d_X11_isUnder_11 (v_X11_isKind hK  q4) (by omega) ml_X11_138 jJ_X11_isKind rfl rfl (Nat.le_of_ble_eq_true rfl) ⟨Nat.le_refl _, Nat.le_refl _⟩ ⟨Nat.le_refl _, Nat.le_refl _⟩ ?_
        refine oe_if_eq (pc := 14) (tgt := 36) d_X11_isUnder_14 (by decide) (fun _ => ?_) (fun c => absurd (by decide) c)
        refine oe_iconst (pc := 36) (v := 0) d_X11_isUnder_36 rfl ?_
        obtain ⟨rfl, rfl⟩ := oRes h
        exact oe_iret (pc := 37) d_X11_isUnder_37 ⟨_, rfl, rfl⟩
theorem v_X11_isUnder_4 {X : oX} {d N : Nat} {K : oK}  {p1 : Int32} {p2 : Int32} {p3 : Int32} {M : oM} {v : Bool} {M' : oM}  (hd : 3 ≤ d) (hK : oSR K)   (h : f_X11_isUnder_4 N K  N p1 p2 p3 M = some (v, M')) : oEv X d J_X11_isUnder 4 [none, some (.int p1), some (.int p2), some (.int p3)] [] K M (some (.int (oBi v))) K M' := v_X11_isUnder_4_L hd hK  N p1 p2 p3 M v M'   h
def f_X11_isUnder (N : Nat) (K : oK) (p0 : Int32) (p1 : Int32) (M : oM) : Option (Bool × oM) :=
  (f_X11_isUnder_4 N K  N p1 p0 0 M)
set_option maxRecDepth 20000 in
theorem v_X11_isUnder {X : oX} {N : Nat} {K : oK} {p0 : Int32} {p1 : Int32} {M : oM} {v : Bool} {M' : oM} (hK : oSR K)  (h : f_X11_isUnder N K p0 p1 M = some (v, M')) : oMet X 3 J_X11_isUnder [(.int p0), (.int p1)] K M (some (.int (oBi v))) K M' := by
  unfold f_X11_isUnder at h
  refine oMet_of (L := [some (.int p0), some (.int p1), none, none]) jJ_X11_isUnder.1 rfl (Nat.le_of_ble_eq_true rfl) rfl (Nat.le_refl _) (Nat.le_refl _) ?_
  have hd : 3 ≤ 3 := Nat.le_refl _
  refine oe_iload_n (pc := 0) d_X11_isUnder_0 rfl ?_
  refine oe_istore_n (pc := 1) (L2 := [_, _, _, _]) d_X11_isUnder_1 rfl rfl (Nat.le_of_ble_eq_true rfl) rfl ?_
  refine oe_iconst (pc := 2) (v := 0) d_X11_isUnder_2 rfl ?_
  refine oe_istore_n (pc := 3) (L2 := [_, _, _, _]) d_X11_isUnder_3 rfl rfl (Nat.le_of_ble_eq_true rfl) rfl ?_
  refine oEv.fg [false, true, true, true] ?_
  exact v_X11_isUnder_4 hd hK   h
theorem d_X11_taken_0 : decode J_X11_taken.2.1 0 = .ok (.aload_n 0, 1) := by decide +kernel
theorem d_X11_taken_1 : decode J_X11_taken.2.1 1 = .ok (.iload_n 1, 1) := by decide +kernel
theorem d_X11_taken_2 : decode J_X11_taken.2.1 2 = .ok (.invokevirtual 156, 3) := by decide +kernel
theorem d_X11_taken_5 : decode J_X11_taken.2.1 5 = .ok (.astore_n 3, 1) := by decide +kernel
theorem d_X11_taken_6 : decode J_X11_taken.2.1 6 = .ok (.aload_n 3, 1) := by decide +kernel
theorem d_X11_taken_7 : decode J_X11_taken.2.1 7 = .ok (.ifnull 10, 3) := by decide +kernel
theorem d_X11_taken_10 : decode J_X11_taken.2.1 10 = .ok (.iload_n 2, 1) := by decide +kernel
theorem d_X11_taken_11 : decode J_X11_taken.2.1 11 = .ok (.invokestatic 138, 3) := by decide +kernel
theorem d_X11_taken_14 : decode J_X11_taken.2.1 14 = .ok (.ifCond .ne 5, 3) := by decide +kernel
theorem d_X11_taken_17 : decode J_X11_taken.2.1 17 = .ok (.iconst (-1), 1) := by decide +kernel
theorem d_X11_taken_18 : decode J_X11_taken.2.1 18 = .ok (.ireturn, 1) := by decide +kernel
theorem d_X11_taken_19 : decode J_X11_taken.2.1 19 = .ok (.aload_n 3, 1) := by decide +kernel
theorem d_X11_taken_20 : decode J_X11_taken.2.1 20 = .ok (.getfield 160, 3) := by decide +kernel
theorem d_X11_taken_23 : decode J_X11_taken.2.1 23 = .ok (.ifCond .ne 6, 3) := by decide +kernel
theorem d_X11_taken_26 : decode J_X11_taken.2.1 26 = .ok (.bipush (-11), 2) := by decide +kernel
theorem d_X11_taken_28 : decode J_X11_taken.2.1 28 = .ok (.ireturn, 1) := by decide +kernel
theorem d_X11_taken_29 : decode J_X11_taken.2.1 29 = .ok (.aload_n 3, 1) := by decide +kernel
theorem d_X11_taken_30 : decode J_X11_taken.2.1 30 = .ok (.getfield 312, 3) := by decide +kernel
theorem d_X11_taken_33 : decode J_X11_taken.2.1 33 = .ok (.ifnull 17, 3) := by decide +kernel
theorem d_X11_taken_36 : decode J_X11_taken.2.1 36 = .ok (.aload_n 3, 1) := by decide +kernel
theorem d_X11_taken_37 : decode J_X11_taken.2.1 37 = .ok (.getfield 312, 3) := by decide +kernel
theorem d_X11_taken_40 : decode J_X11_taken.2.1 40 = .ok (.getfield 174, 3) := by decide +kernel
theorem d_X11_taken_43 : decode J_X11_taken.2.1 43 = .ok (.iload_n 2, 1) := by decide +kernel
theorem d_X11_taken_44 : decode J_X11_taken.2.1 44 = .ok (.invokestatic 338, 3) := by decide +kernel
theorem d_X11_taken_47 : decode J_X11_taken.2.1 47 = .ok (.ifCond .ne 8, 3) := by decide +kernel
theorem d_X11_taken_50 : decode J_X11_taken.2.1 50 = .ok (.bipush (-12), 2) := by decide +kernel
theorem d_X11_taken_52 : decode J_X11_taken.2.1 52 = .ok (.goto 10, 3) := by decide +kernel
theorem d_X11_taken_55 : decode J_X11_taken.2.1 55 = .ok (.aload_n 3, 1) := by decide +kernel
theorem d_X11_taken_56 : decode J_X11_taken.2.1 56 = .ok (.getfield 312, 3) := by decide +kernel
theorem d_X11_taken_59 : decode J_X11_taken.2.1 59 = .ok (.getfield 174, 3) := by decide +kernel
theorem d_X11_taken_62 : decode J_X11_taken.2.1 62 = .ok (.ireturn, 1) := by decide +kernel
def f_X11_taken (N : Nat) (K : oK) (p1 : Int32) (p2 : Int32) (M : oM) : Option (Int32 × oM) :=
  oB2 (f_X11_shelfAt N K p1 M) (fun v1 M2 => oCs v1 (some ((-1), M2)) (fun h4 => oB2 (f_X11_isKind N K p2 M2) (fun v5 M6 => cond v5 ((if (M6.1 h4 1) = 0 then some ((-11), M6) else oCs (K.2.2.2 h4 2) (some ((-12), M6)) (fun h9 => oB2 (f_X11_isUnder N K (M6.1 h9 1) p2 M6) (fun v10 M11 => cond v10 (some ((M11.1 h9 1), M11)) (some ((-12), M11)))))) (some ((-1), M6)))))
set_option maxRecDepth 20000 in
theorem v_X11_taken {X : oX} {N : Nat} {K : oK} {p1 : Int32} {p2 : Int32} {M : oM} {v : Int32} {M' : oM} (hK : oSR K)  (h : f_X11_taken N K p1 p2 M = some (v, M')) : oMet X 4 J_X11_taken [(.ref 0), (.int p1), (.int p2)] K M (some (.int v)) K M' := by
  unfold f_X11_taken at h
  refine oMet_of (L := [some (.ref 0), some (.int p1), some (.int p2), none]) jJ_X11_taken.1 rfl (Nat.le_of_ble_eq_true rfl) rfl (Nat.le_refl _) (Nat.le_refl _) ?_
  have hd : 4 ≤ 4 := Nat.le_refl _
  refine oe_aload_n (pc := 0) d_X11_taken_0 rfl ?_
  refine oe_iload_n (pc := 1) d_X11_taken_1 rfl ?_
  obtain ⟨v1, M2, q3, h⟩ := oB2_some h
  cases v1 with
  | none =>
    replace h := oCsN h
    refine oe_callV (pc := 2) (ci := 11) d_X11_taken_2 (v_X11_shelfAt hK  q3) (by omega) ml_X11_156 jJ_X11_shelfAt rfl rfl (oLt hK (a := 0) (Nat.le_of_ble_eq_true rfl)) (oSho hK (a := 0) (Nat.le_of_ble_eq_true rfl) rfl) ock11 rfl (Nat.le_of_ble_eq_true rfl) ⟨Nat.le_refl _, Nat.le_refl _⟩ ⟨Nat.le_refl _, Nat.le_refl _⟩ ?_
    refine oe_astore_nN (pc := 5) (L2 := [_, _, _, _]) d_X11_taken_5 rfl rfl (Nat.le_of_ble_eq_true rfl) rfl ?_
    refine oe_aload_nN (pc := 6) d_X11_taken_6 rfl ?_
    refine oe_ifnullN (pc := 7) (tgt := 17) d_X11_taken_7 (by decide) ?_
    refine oe_iconst (pc := 17) (v := (-1)) d_X11_taken_17 rfl ?_
    obtain ⟨rfl, rfl⟩ := oRes h
    exact oe_iret (pc := 18) d_X11_taken_18 ⟨_, rfl, rfl⟩
  | some h4 =>
    replace h := oCsS h
    have hh_h4 : oSS K h4 := o_X11_shelfAt_ok hK q3
    refine oe_callV (pc := 2) (ci := 11) d_X11_taken_2 (v_X11_shelfAt hK  q3) (by omega) ml_X11_156 jJ_X11_shelfAt rfl rfl (oLt hK (a := 0) (Nat.le_of_ble_eq_true rfl)) (oSho hK (a := 0) (Nat.le_of_ble_eq_true rfl) rfl) ock11 rfl (Nat.le_of_ble_eq_true rfl) ⟨Nat.le_refl _, Nat.le_refl _⟩ ⟨Nat.le_refl _, Nat.le_refl _⟩ ?_
    refine oe_astore_n (pc := 5) (L2 := [_, _, _, _]) d_X11_taken_5 rfl rfl (Nat.le_of_ble_eq_true rfl) rfl ?_
    refine oe_aload_n (pc := 6) d_X11_taken_6 rfl ?_
    refine oe_ifnull (pc := 7) d_X11_taken_7 ?_
    refine oe_iload_n (pc := 10) d_X11_taken_10 rfl ?_
    obtain ⟨v5, M6, q7, h⟩ := oB2_some h
    cases v5 with
    | true =>
      replace h := oCt h
      refine oe_callS (pc := 11) d_X11_taken_11 (v_X11_isKind hK  q7) (by omega) ml_X11_138 jJ_X11_isKind rfl rfl (Nat.le_of_ble_eq_true rfl) ⟨Nat.le_refl _, Nat.le_refl _⟩ ⟨Nat.le_refl _, Nat.le_refl _⟩ ?_
      refine oe_if_ne (pc := 14) (tgt := 19) d_X11_taken_14 (by decide) (fun _ => ?_) (fun c => absurd c (by decide))
      refine oe_aload_n (pc := 19) d_X11_taken_19 rfl ?_
      refine oe_getf (pc := 20) d_X11_taken_20 fl_X11_160 ock9 (k := 1) (Nat.le_of_ble_eq_true rfl) rfl (oSSa hh_h4 (j := 0) (Nat.le_of_ble_eq_true rfl)) (oSSo hh_h4) ?_
      refine oe_if_ne (pc := 23) (tgt := 29) d_X11_taken_23 (by decide) (fun c8 => ?_) (fun c8 => ?_)
      · replace h := (if_neg c8).symm.trans h
        refine oe_aload_n (pc := 29) d_X11_taken_29 rfl ?_
        cases e30 : K.2.2.2 h4 2 with
        | none =>
          rw [e30] at h
          replace h := oCsN h
          refine oe_getN (pc := 30) d_X11_taken_30 fl_X11_312 ock9 (k := 2) (Nat.le_of_ble_eq_true rfl) (by decide) (oSSa hh_h4 (j := 0) (Nat.le_of_ble_eq_true rfl)) (oSSo hh_h4) e30 ?_
          refine oe_ifnullN (pc := 33) (tgt := 50) d_X11_taken_33 (by decide) ?_
          refine oe_bipush (pc := 50) (v := (-12)) d_X11_taken_50 rfl ?_
          refine oe_goto (pc := 52) (tgt := 62) d_X11_taken_52 (by decide) ?_
          obtain ⟨rfl, rfl⟩ := oRes h
          exact oe_iret (pc := 62) d_X11_taken_62 ⟨_, rfl, rfl⟩
        | some h9 =>
          rw [e30] at h
          replace h := oCsS h
          have hh_h9 : oLS K h9 := oSSl hh_h4 e30
          refine oe_getr (pc := 30) d_X11_taken_30 fl_X11_312 ock9 (k := 2) (b := h9) (Nat.le_of_ble_eq_true rfl) (by decide) (oSSa hh_h4 (j := 0) (Nat.le_of_ble_eq_true rfl)) (oSSo hh_h4) e30 ?_
          refine oe_ifnull (pc := 33) d_X11_taken_33 ?_
          refine oe_aload_n (pc := 36) d_X11_taken_36 rfl ?_
          refine oe_getr (pc := 37) d_X11_taken_37 fl_X11_312 ock9 (k := 2) (b := h9) (Nat.le_of_ble_eq_true rfl) (by decide) (oSSa hh_h4 (j := 0) (Nat.le_of_ble_eq_true rfl)) (oSSo hh_h4) e30 ?_
          refine oe_getf (pc := 40) d_X11_taken_40 fl_X11_174 ock6 (k := 1) (Nat.le_of_ble_eq_true rfl) rfl (oLSa hh_h9 (j := 0) (Nat.le_of_ble_eq_true rfl)) (oLSo hh_h9) ?_
          refine oe_iload_n (pc := 43) d_X11_taken_43 rfl ?_
          obtain ⟨v10, M11, q12, h⟩ := oB2_some h
          cases v10 with
          | true =>
            replace h := oCt h
            refine oe_callS (pc := 44) d_X11_taken_44 (v_X11_isUnder hK  q12) (by omega) ml_X11_338 jJ_X11_isUnder rfl rfl (Nat.le_of_ble_eq_true rfl) ⟨Nat.le_refl _, Nat.le_refl _⟩ ⟨Nat.le_refl _, Nat.le_refl _⟩ ?_
            refine oe_if_ne (pc := 47) (tgt := 55) d_X11_taken_47 (by decide) (fun _ => ?_) (fun c => absurd c (by decide))
            refine oe_aload_n (pc := 55) d_X11_taken_55 rfl ?_
            refine oe_getr (pc := 56) d_X11_taken_56 fl_X11_312 ock9 (k := 2) (b := h9) (Nat.le_of_ble_eq_true rfl) (by decide) (oSSa hh_h4 (j := 0) (Nat.le_of_ble_eq_true rfl)) (oSSo hh_h4) e30 ?_
            refine oe_getf (pc := 59) d_X11_taken_59 fl_X11_174 ock6 (k := 1) (Nat.le_of_ble_eq_true rfl) rfl (oLSa hh_h9 (j := 0) (Nat.le_of_ble_eq_true rfl)) (oLSo hh_h9) ?_
            obtain ⟨rfl, rfl⟩ := oRes h
            exact oe_iret (pc := 62) d_X11_taken_62 ⟨_, rfl, rfl⟩
          | false =>
            replace h := oCf h
            refine oe_callS (pc := 44) d_X11_taken_44 (v_X11_isUnder hK  q12) (by omega) ml_X11_338 jJ_X11_isUnder rfl rfl (Nat.le_of_ble_eq_true rfl) ⟨Nat.le_refl _, Nat.le_refl _⟩ ⟨Nat.le_refl _, Nat.le_refl _⟩ ?_
            refine oe_if_ne (pc := 47) (tgt := 55) d_X11_taken_47 (by decide) (fun c => absurd (by decide) c) (fun _ => ?_)
            refine oe_bipush (pc := 50) (v := (-12)) d_X11_taken_50 rfl ?_
            refine oe_goto (pc := 52) (tgt := 62) d_X11_taken_52 (by decide) ?_
            obtain ⟨rfl, rfl⟩ := oRes h
            exact oe_iret (pc := 62) d_X11_taken_62 ⟨_, rfl, rfl⟩
      · replace h := (if_pos c8).symm.trans h
        refine oe_bipush (pc := 26) (v := (-11)) d_X11_taken_26 rfl ?_
        obtain ⟨rfl, rfl⟩ := oRes h
        exact oe_iret (pc := 28) d_X11_taken_28 ⟨_, rfl, rfl⟩
    | false =>
      replace h := oCf h
      refine oe_callS (pc := 11) d_X11_taken_11 (v_X11_isKind hK  q7) (by omega) ml_X11_138 jJ_X11_isKind rfl rfl (Nat.le_of_ble_eq_true rfl) ⟨Nat.le_refl _, Nat.le_refl _⟩ ⟨Nat.le_refl _, Nat.le_refl _⟩ ?_
      refine oe_if_ne (pc := 14) (tgt := 19) d_X11_taken_14 (by decide) (fun c => absurd (by decide) c) (fun _ => ?_)
      refine oe_iconst (pc := 17) (v := (-1)) d_X11_taken_17 rfl ?_
      obtain ⟨rfl, rfl⟩ := oRes h
      exact oe_iret (pc := 18) d_X11_taken_18 ⟨_, rfl, rfl⟩
theorem d_X11_count_0 : decode J_X11_count.2.1 0 = .ok (.iload_n 1, 1) := by decide +kernel
theorem d_X11_count_1 : decode J_X11_count.2.1 1 = .ok (.tableswitch 120 0 8 #[51, 59, 67, 75, 80, 88, 96, 104, 112], 51) := by decide +kernel
theorem d_X11_count_52 : decode J_X11_count.2.1 52 = .ok (.aload_n 0, 1) := by decide +kernel
theorem d_X11_count_53 : decode J_X11_count.2.1 53 = .ok (.getfield 21, 3) := by decide +kernel
theorem d_X11_count_56 : decode J_X11_count.2.1 56 = .ok (.getfield 341, 3) := by decide +kernel
theorem d_X11_count_59 : decode J_X11_count.2.1 59 = .ok (.ireturn, 1) := by decide +kernel
theorem d_X11_count_60 : decode J_X11_count.2.1 60 = .ok (.aload_n 0, 1) := by decide +kernel
theorem d_X11_count_61 : decode J_X11_count.2.1 61 = .ok (.getfield 21, 3) := by decide +kernel
theorem d_X11_count_64 : decode J_X11_count.2.1 64 = .ok (.getfield 344, 3) := by decide +kernel
theorem d_X11_count_67 : decode J_X11_count.2.1 67 = .ok (.ireturn, 1) := by decide +kernel
theorem d_X11_count_68 : decode J_X11_count.2.1 68 = .ok (.aload_n 0, 1) := by decide +kernel
theorem d_X11_count_69 : decode J_X11_count.2.1 69 = .ok (.getfield 28, 3) := by decide +kernel
theorem d_X11_count_72 : decode J_X11_count.2.1 72 = .ok (.getfield 270, 3) := by decide +kernel
theorem d_X11_count_75 : decode J_X11_count.2.1 75 = .ok (.ireturn, 1) := by decide +kernel
theorem d_X11_count_76 : decode J_X11_count.2.1 76 = .ok (.aload_n 0, 1) := by decide +kernel
theorem d_X11_count_77 : decode J_X11_count.2.1 77 = .ok (.getfield 141, 3) := by decide +kernel
theorem d_X11_count_80 : decode J_X11_count.2.1 80 = .ok (.ireturn, 1) := by decide +kernel
theorem d_X11_count_81 : decode J_X11_count.2.1 81 = .ok (.aload_n 0, 1) := by decide +kernel
theorem d_X11_count_82 : decode J_X11_count.2.1 82 = .ok (.getfield 35, 3) := by decide +kernel
theorem d_X11_count_85 : decode J_X11_count.2.1 85 = .ok (.getfield 347, 3) := by decide +kernel
theorem d_X11_count_88 : decode J_X11_count.2.1 88 = .ok (.ireturn, 1) := by decide +kernel
theorem d_X11_count_89 : decode J_X11_count.2.1 89 = .ok (.aload_n 0, 1) := by decide +kernel
theorem d_X11_count_90 : decode J_X11_count.2.1 90 = .ok (.getfield 64, 3) := by decide +kernel
theorem d_X11_count_93 : decode J_X11_count.2.1 93 = .ok (.getfield 242, 3) := by decide +kernel
theorem d_X11_count_96 : decode J_X11_count.2.1 96 = .ok (.ireturn, 1) := by decide +kernel
theorem d_X11_count_97 : decode J_X11_count.2.1 97 = .ok (.aload_n 0, 1) := by decide +kernel
theorem d_X11_count_98 : decode J_X11_count.2.1 98 = .ok (.getfield 71, 3) := by decide +kernel
theorem d_X11_count_101 : decode J_X11_count.2.1 101 = .ok (.getfield 282, 3) := by decide +kernel
theorem d_X11_count_104 : decode J_X11_count.2.1 104 = .ok (.ireturn, 1) := by decide +kernel
theorem d_X11_count_105 : decode J_X11_count.2.1 105 = .ok (.aload_n 0, 1) := by decide +kernel
theorem d_X11_count_106 : decode J_X11_count.2.1 106 = .ok (.getfield 10, 3) := by decide +kernel
theorem d_X11_count_109 : decode J_X11_count.2.1 109 = .ok (.getfield 350, 3) := by decide +kernel
theorem d_X11_count_112 : decode J_X11_count.2.1 112 = .ok (.ireturn, 1) := by decide +kernel
theorem d_X11_count_113 : decode J_X11_count.2.1 113 = .ok (.aload_n 0, 1) := by decide +kernel
theorem d_X11_count_114 : decode J_X11_count.2.1 114 = .ok (.getfield 78, 3) := by decide +kernel
theorem d_X11_count_117 : decode J_X11_count.2.1 117 = .ok (.getfield 303, 3) := by decide +kernel
theorem d_X11_count_120 : decode J_X11_count.2.1 120 = .ok (.ireturn, 1) := by decide +kernel
theorem d_X11_count_121 : decode J_X11_count.2.1 121 = .ok (.iconst (-1), 1) := by decide +kernel
theorem d_X11_count_122 : decode J_X11_count.2.1 122 = .ok (.ireturn, 1) := by decide +kernel
def f_X11_count (N : Nat) (K : oK) (p1 : Int32) (M : oM) : Option (Int32 × oM) :=
  (if p1 = 0 then some ((M.1 6 5), M) else (if p1 = 1 then some ((M.1 6 6), M) else (if p1 = 2 then some ((M.1 11 6), M) else (if p1 = 3 then some ((M.1 0 11), M) else (if p1 = 4 then some ((M.1 17 2), M) else (if p1 = 5 then some ((M.1 37 2), M) else (if p1 = 6 then some ((M.1 40 3), M) else (if p1 = 7 then some ((M.1 1 5), M) else (if p1 = 8 then some ((M.1 44 1), M) else some ((-1), M))))))))))
set_option maxRecDepth 20000 in
theorem v_X11_count {X : oX} {N : Nat} {K : oK} {p1 : Int32} {M : oM} {v : Int32} {M' : oM} (hK : oSR K)  (h : f_X11_count N K p1 M = some (v, M')) : oMet X 1 J_X11_count [(.ref 0), (.int p1)] K M (some (.int v)) K M' := by
  unfold f_X11_count at h
  refine oMet_of (L := [some (.ref 0), some (.int p1)]) jJ_X11_count.1 rfl (Nat.le_of_ble_eq_true rfl) rfl (Nat.le_refl _) (Nat.le_refl _) ?_
  have hd : 1 ≤ 1 := Nat.le_refl _
  refine oe_iload_n (pc := 0) d_X11_count_0 rfl ?_
  by_cases c1_0 : p1 = 0
  · replace h := (if_pos c1_0).symm.trans h
    refine oe_tableIn (pc := 1) (tgt := 52) (off := 51) d_X11_count_1 (by rw [c1_0]; decide) (by rw [c1_0]; decide) (by rw [c1_0]; rfl) (by decide) ?_
    refine oe_aload_n (pc := 52) d_X11_count_52 rfl ?_
    refine oe_getr (pc := 53) d_X11_count_53 fl_X11_21 ock11 (k := 1) (b := 6) (Nat.le_of_ble_eq_true rfl) (by decide) (oLt hK (a := 0) (Nat.le_of_ble_eq_true rfl)) (oSho hK (a := 0) (Nat.le_of_ble_eq_true rfl) rfl) (oRfK hK rfl) ?_
    refine oe_getf (pc := 56) d_X11_count_56 fl_X11_341 ock4 (k := 5) (Nat.le_of_ble_eq_true rfl) rfl (oLt hK (a := 6) (Nat.le_of_ble_eq_true rfl)) (oSho hK (a := 6) (Nat.le_of_ble_eq_true rfl) rfl) ?_
    obtain ⟨rfl, rfl⟩ := oRes h
    exact oe_iret (pc := 59) d_X11_count_59 ⟨_, rfl, rfl⟩
  · replace h := (if_neg c1_0).symm.trans h
    by_cases c1_1 : p1 = 1
    · replace h := (if_pos c1_1).symm.trans h
      refine oe_tableIn (pc := 1) (tgt := 60) (off := 59) d_X11_count_1 (by rw [c1_1]; decide) (by rw [c1_1]; decide) (by rw [c1_1]; rfl) (by decide) ?_
      refine oe_aload_n (pc := 60) d_X11_count_60 rfl ?_
      refine oe_getr (pc := 61) d_X11_count_61 fl_X11_21 ock11 (k := 1) (b := 6) (Nat.le_of_ble_eq_true rfl) (by decide) (oLt hK (a := 0) (Nat.le_of_ble_eq_true rfl)) (oSho hK (a := 0) (Nat.le_of_ble_eq_true rfl) rfl) (oRfK hK rfl) ?_
      refine oe_getf (pc := 64) d_X11_count_64 fl_X11_344 ock4 (k := 6) (Nat.le_of_ble_eq_true rfl) rfl (oLt hK (a := 6) (Nat.le_of_ble_eq_true rfl)) (oSho hK (a := 6) (Nat.le_of_ble_eq_true rfl) rfl) ?_
      obtain ⟨rfl, rfl⟩ := oRes h
      exact oe_iret (pc := 67) d_X11_count_67 ⟨_, rfl, rfl⟩
    · replace h := (if_neg c1_1).symm.trans h
      by_cases c1_2 : p1 = 2
      · replace h := (if_pos c1_2).symm.trans h
        refine oe_tableIn (pc := 1) (tgt := 68) (off := 67) d_X11_count_1 (by rw [c1_2]; decide) (by rw [c1_2]; decide) (by rw [c1_2]; rfl) (by decide) ?_
        refine oe_aload_n (pc := 68) d_X11_count_68 rfl ?_
        refine oe_getr (pc := 69) d_X11_count_69 fl_X11_28 ock11 (k := 2) (b := 11) (Nat.le_of_ble_eq_true rfl) (by decide) (oLt hK (a := 0) (Nat.le_of_ble_eq_true rfl)) (oSho hK (a := 0) (Nat.le_of_ble_eq_true rfl) rfl) (oRfK hK rfl) ?_
        refine oe_getf (pc := 72) d_X11_count_72 fl_X11_270 ock3 (k := 6) (Nat.le_of_ble_eq_true rfl) rfl (oLt hK (a := 11) (Nat.le_of_ble_eq_true rfl)) (oSho hK (a := 11) (Nat.le_of_ble_eq_true rfl) rfl) ?_
        obtain ⟨rfl, rfl⟩ := oRes h
        exact oe_iret (pc := 75) d_X11_count_75 ⟨_, rfl, rfl⟩
      · replace h := (if_neg c1_2).symm.trans h
        by_cases c1_3 : p1 = 3
        · replace h := (if_pos c1_3).symm.trans h
          refine oe_tableIn (pc := 1) (tgt := 76) (off := 75) d_X11_count_1 (by rw [c1_3]; decide) (by rw [c1_3]; decide) (by rw [c1_3]; rfl) (by decide) ?_
          refine oe_aload_n (pc := 76) d_X11_count_76 rfl ?_
          refine oe_getf (pc := 77) d_X11_count_77 fl_X11_141 ock11 (k := 11) (Nat.le_of_ble_eq_true rfl) rfl (oLt hK (a := 0) (Nat.le_of_ble_eq_true rfl)) (oSho hK (a := 0) (Nat.le_of_ble_eq_true rfl) rfl) ?_
          obtain ⟨rfl, rfl⟩ := oRes h
          exact oe_iret (pc := 80) d_X11_count_80 ⟨_, rfl, rfl⟩
        · replace h := (if_neg c1_3).symm.trans h
          by_cases c1_4 : p1 = 4
          · replace h := (if_pos c1_4).symm.trans h
            refine oe_tableIn (pc := 1) (tgt := 81) (off := 80) d_X11_count_1 (by rw [c1_4]; decide) (by rw [c1_4]; decide) (by rw [c1_4]; rfl) (by decide) ?_
            refine oe_aload_n (pc := 81) d_X11_count_81 rfl ?_
            refine oe_getr (pc := 82) d_X11_count_82 fl_X11_35 ock11 (k := 3) (b := 17) (Nat.le_of_ble_eq_true rfl) (by decide) (oLt hK (a := 0) (Nat.le_of_ble_eq_true rfl)) (oSho hK (a := 0) (Nat.le_of_ble_eq_true rfl) rfl) (oRfK hK rfl) ?_
            refine oe_getf (pc := 85) d_X11_count_85 fl_X11_347 ock10 (k := 2) (Nat.le_of_ble_eq_true rfl) rfl (oLt hK (a := 17) (Nat.le_of_ble_eq_true rfl)) (oSho hK (a := 17) (Nat.le_of_ble_eq_true rfl) rfl) ?_
            obtain ⟨rfl, rfl⟩ := oRes h
            exact oe_iret (pc := 88) d_X11_count_88 ⟨_, rfl, rfl⟩
          · replace h := (if_neg c1_4).symm.trans h
            by_cases c1_5 : p1 = 5
            · replace h := (if_pos c1_5).symm.trans h
              refine oe_tableIn (pc := 1) (tgt := 89) (off := 88) d_X11_count_1 (by rw [c1_5]; decide) (by rw [c1_5]; decide) (by rw [c1_5]; rfl) (by decide) ?_
              refine oe_aload_n (pc := 89) d_X11_count_89 rfl ?_
              refine oe_getr (pc := 90) d_X11_count_90 fl_X11_64 ock11 (k := 7) (b := 37) (Nat.le_of_ble_eq_true rfl) (by decide) (oLt hK (a := 0) (Nat.le_of_ble_eq_true rfl)) (oSho hK (a := 0) (Nat.le_of_ble_eq_true rfl) rfl) (oRfK hK rfl) ?_
              refine oe_getf (pc := 93) d_X11_count_93 fl_X11_242 ock5 (k := 2) (Nat.le_of_ble_eq_true rfl) rfl (oLt hK (a := 37) (Nat.le_of_ble_eq_true rfl)) (oSho hK (a := 37) (Nat.le_of_ble_eq_true rfl) rfl) ?_
              obtain ⟨rfl, rfl⟩ := oRes h
              exact oe_iret (pc := 96) d_X11_count_96 ⟨_, rfl, rfl⟩
            · replace h := (if_neg c1_5).symm.trans h
              by_cases c1_6 : p1 = 6
              · replace h := (if_pos c1_6).symm.trans h
                refine oe_tableIn (pc := 1) (tgt := 97) (off := 96) d_X11_count_1 (by rw [c1_6]; decide) (by rw [c1_6]; decide) (by rw [c1_6]; rfl) (by decide) ?_
                refine oe_aload_n (pc := 97) d_X11_count_97 rfl ?_
                refine oe_getr (pc := 98) d_X11_count_98 fl_X11_71 ock11 (k := 8) (b := 40) (Nat.le_of_ble_eq_true rfl) (by decide) (oLt hK (a := 0) (Nat.le_of_ble_eq_true rfl)) (oSho hK (a := 0) (Nat.le_of_ble_eq_true rfl) rfl) (oRfK hK rfl) ?_
                refine oe_getf (pc := 101) d_X11_count_101 fl_X11_282 ock1 (k := 3) (Nat.le_of_ble_eq_true rfl) rfl (oLt hK (a := 40) (Nat.le_of_ble_eq_true rfl)) (oSho hK (a := 40) (Nat.le_of_ble_eq_true rfl) rfl) ?_
                obtain ⟨rfl, rfl⟩ := oRes h
                exact oe_iret (pc := 104) d_X11_count_104 ⟨_, rfl, rfl⟩
              · replace h := (if_neg c1_6).symm.trans h
                by_cases c1_7 : p1 = 7
                · replace h := (if_pos c1_7).symm.trans h
                  refine oe_tableIn (pc := 1) (tgt := 105) (off := 104) d_X11_count_1 (by rw [c1_7]; decide) (by rw [c1_7]; decide) (by rw [c1_7]; rfl) (by decide) ?_
                  refine oe_aload_n (pc := 105) d_X11_count_105 rfl ?_
                  refine oe_getr (pc := 106) d_X11_count_106 fl_X11_10 ock11 (k := 0) (b := 1) (Nat.le_of_ble_eq_true rfl) (by decide) (oLt hK (a := 0) (Nat.le_of_ble_eq_true rfl)) (oSho hK (a := 0) (Nat.le_of_ble_eq_true rfl) rfl) (oRfK hK rfl) ?_
                  refine oe_getf (pc := 109) d_X11_count_109 fl_X11_350 ock8 (k := 5) (Nat.le_of_ble_eq_true rfl) rfl (oLt hK (a := 1) (Nat.le_of_ble_eq_true rfl)) (oSho hK (a := 1) (Nat.le_of_ble_eq_true rfl) rfl) ?_
                  obtain ⟨rfl, rfl⟩ := oRes h
                  exact oe_iret (pc := 112) d_X11_count_112 ⟨_, rfl, rfl⟩
                · replace h := (if_neg c1_7).symm.trans h
                  by_cases c1_8 : p1 = 8
                  · replace h := (if_pos c1_8).symm.trans h
                    refine oe_tableIn (pc := 1) (tgt := 113) (off := 112) d_X11_count_1 (by rw [c1_8]; decide) (by rw [c1_8]; decide) (by rw [c1_8]; rfl) (by decide) ?_
                    refine oe_aload_n (pc := 113) d_X11_count_113 rfl ?_
                    refine oe_getr (pc := 114) d_X11_count_114 fl_X11_78 ock11 (k := 9) (b := 44) (Nat.le_of_ble_eq_true rfl) (by decide) (oLt hK (a := 0) (Nat.le_of_ble_eq_true rfl)) (oSho hK (a := 0) (Nat.le_of_ble_eq_true rfl) rfl) (oRfK hK rfl) ?_
                    refine oe_getf (pc := 117) d_X11_count_117 fl_X11_303 ock0 (k := 1) (Nat.le_of_ble_eq_true rfl) rfl (oLt hK (a := 44) (Nat.le_of_ble_eq_true rfl)) (oSho hK (a := 44) (Nat.le_of_ble_eq_true rfl) rfl) ?_
                    obtain ⟨rfl, rfl⟩ := oRes h
                    exact oe_iret (pc := 120) d_X11_count_120 ⟨_, rfl, rfl⟩
                  · replace h := (if_neg c1_8).symm.trans h
                    refine oe_tableOut (pc := 1) (tgt := 121) d_X11_count_1 (by have := oNe (k := 0) c1_0 rfl; have := oNe (k := 1) c1_1 rfl; have := oNe (k := 2) c1_2 rfl; have := oNe (k := 3) c1_3 rfl; have := oNe (k := 4) c1_4 rfl; have := oNe (k := 5) c1_5 rfl; have := oNe (k := 6) c1_6 rfl; have := oNe (k := 7) c1_7 rfl; have := oNe (k := 8) c1_8 rfl; omega) (by decide) ?_
                    refine oe_iconst (pc := 121) (v := (-1)) d_X11_count_121 rfl ?_
                    obtain ⟨rfl, rfl⟩ := oRes h
                    exact oe_iret (pc := 122) d_X11_count_122 ⟨_, rfl, rfl⟩
theorem d_X12_within_0 : decode J_X12_within.2.1 0 = .ok (.lload_n 0, 1) := by decide +kernel
theorem d_X12_within_1 : decode J_X12_within.2.1 1 = .ok (.lload_n 2, 1) := by decide +kernel
theorem d_X12_within_2 : decode J_X12_within.2.1 2 = .ok (.lcmp, 1) := by decide +kernel
theorem d_X12_within_3 : decode J_X12_within.2.1 3 = .ok (.ifCond .lt 14, 3) := by decide +kernel
theorem d_X12_within_6 : decode J_X12_within.2.1 6 = .ok (.lload_n 0, 1) := by decide +kernel
theorem d_X12_within_7 : decode J_X12_within.2.1 7 = .ok (.lload 4, 2) := by decide +kernel
theorem d_X12_within_9 : decode J_X12_within.2.1 9 = .ok (.lcmp, 1) := by decide +kernel
theorem d_X12_within_10 : decode J_X12_within.2.1 10 = .ok (.ifCond .gt 7, 3) := by decide +kernel
theorem d_X12_within_13 : decode J_X12_within.2.1 13 = .ok (.iconst 1, 1) := by decide +kernel
theorem d_X12_within_14 : decode J_X12_within.2.1 14 = .ok (.goto 4, 3) := by decide +kernel
theorem d_X12_within_17 : decode J_X12_within.2.1 17 = .ok (.iconst 0, 1) := by decide +kernel
theorem d_X12_within_18 : decode J_X12_within.2.1 18 = .ok (.ireturn, 1) := by decide +kernel
def f_X12_within (N : Nat) (K : oK) (p0 : Int64) (p2 : Int64) (p4 : Int64) (M : oM) : Option (Bool × oM) :=
  (if (lg_cmp (p0) (p2)) < 0 then some (false, M) else (if 0 < (lg_cmp (p0) (p4)) then some (false, M) else some (true, M)))
set_option maxRecDepth 20000 in
theorem v_X12_within {X : oX} {N : Nat} {K : oK} {p0 : Int64} {p2 : Int64} {p4 : Int64} {M : oM} {v : Bool} {M' : oM} (hK : oSR K)  (h : f_X12_within N K p0 p2 p4 M = some (v, M')) : oMet X 1 J_X12_within [(.long p0), (.long p2), (.long p4)] K M (some (.int (oBi v))) K M' := by
  unfold f_X12_within at h
  refine oMet_of (L := [some (.long p0), none, some (.long p2), none, some (.long p4), none]) jJ_X12_within.1 rfl (Nat.le_of_ble_eq_true rfl) rfl (Nat.le_refl _) (Nat.le_refl _) ?_
  have hd : 1 ≤ 1 := Nat.le_refl _
  refine oe_lload_n (pc := 0) d_X12_within_0 rfl ?_
  refine oe_lload_n (pc := 1) d_X12_within_1 rfl ?_
  refine oe_lcmp (pc := 2) d_X12_within_2 ?_
  refine oe_if_lt (pc := 3) (tgt := 17) d_X12_within_3 (by decide) (fun c1 => ?_) (fun c1 => ?_)
  · replace h := (if_pos c1).symm.trans h
    refine oe_iconst (pc := 17) (v := 0) d_X12_within_17 rfl ?_
    obtain ⟨rfl, rfl⟩ := oRes h
    exact oe_iret (pc := 18) d_X12_within_18 ⟨_, rfl, rfl⟩
  · replace h := (if_neg c1).symm.trans h
    refine oe_lload_n (pc := 6) d_X12_within_6 rfl ?_
    refine oe_lload (pc := 7) d_X12_within_7 rfl ?_
    refine oe_lcmp (pc := 9) d_X12_within_9 ?_
    refine oe_if_gt (pc := 10) (tgt := 17) d_X12_within_10 (by decide) (fun c2 => ?_) (fun c2 => ?_)
    · replace h := (if_pos c2).symm.trans h
      refine oe_iconst (pc := 17) (v := 0) d_X12_within_17 rfl ?_
      obtain ⟨rfl, rfl⟩ := oRes h
      exact oe_iret (pc := 18) d_X12_within_18 ⟨_, rfl, rfl⟩
    · replace h := (if_neg c2).symm.trans h
      refine oe_iconst (pc := 13) (v := 1) d_X12_within_13 rfl ?_
      refine oe_goto (pc := 14) (tgt := 18) d_X12_within_14 (by decide) ?_
      obtain ⟨rfl, rfl⟩ := oRes h
      exact oe_iret (pc := 18) d_X12_within_18 ⟨_, rfl, rfl⟩
theorem d_X12_becomes_0 : decode J_X12_becomes.2.1 0 = .ok (.aload_n 0, 1) := by decide +kernel
theorem d_X12_becomes_1 : decode J_X12_becomes.2.1 1 = .ok (.getfield 7, 3) := by decide +kernel
theorem d_X12_becomes_4 : decode J_X12_becomes.2.1 4 = .ok (.iload_n 1, 1) := by decide +kernel
theorem d_X12_becomes_5 : decode J_X12_becomes.2.1 5 = .ok (.iaload, 1) := by decide +kernel
theorem d_X12_becomes_6 : decode J_X12_becomes.2.1 6 = .ok (.istore_n 3, 1) := by decide +kernel
theorem d_X12_becomes_7 : decode J_X12_becomes.2.1 7 = .ok (.iload_n 3, 1) := by decide +kernel
theorem d_X12_becomes_8 : decode J_X12_becomes.2.1 8 = .ok (.iload_n 2, 1) := by decide +kernel
theorem d_X12_becomes_9 : decode J_X12_becomes.2.1 9 = .ok (.if_icmp .ne 5, 3) := by decide +kernel
theorem d_X12_becomes_12 : decode J_X12_becomes.2.1 12 = .ok (.iload_n 3, 1) := by decide +kernel
theorem d_X12_becomes_13 : decode J_X12_becomes.2.1 13 = .ok (.ireturn, 1) := by decide +kernel
theorem d_X12_becomes_14 : decode J_X12_becomes.2.1 14 = .ok (.aload_n 0, 1) := by decide +kernel
theorem d_X12_becomes_15 : decode J_X12_becomes.2.1 15 = .ok (.getfield 135, 3) := by decide +kernel
theorem d_X12_becomes_18 : decode J_X12_becomes.2.1 18 = .ok (.bipush 40, 2) := by decide +kernel
theorem d_X12_becomes_20 : decode J_X12_becomes.2.1 20 = .ok (.if_icmp .ne 77, 3) := by decide +kernel
theorem d_X12_becomes_23 : decode J_X12_becomes.2.1 23 = .ok (.iconst 1, 1) := by decide +kernel
theorem d_X12_becomes_24 : decode J_X12_becomes.2.1 24 = .ok (.istore 4, 2) := by decide +kernel
theorem d_X12_becomes_26 : decode J_X12_becomes.2.1 26 = .ok (.iload 4, 2) := by decide +kernel
theorem d_X12_becomes_28 : decode J_X12_becomes.2.1 28 = .ok (.bipush 40, 2) := by decide +kernel
theorem d_X12_becomes_30 : decode J_X12_becomes.2.1 30 = .ok (.if_icmp .ge 57, 3) := by decide +kernel
theorem d_X12_becomes_33 : decode J_X12_becomes.2.1 33 = .ok (.aload_n 0, 1) := by decide +kernel
theorem d_X12_becomes_34 : decode J_X12_becomes.2.1 34 = .ok (.getfield 13, 3) := by decide +kernel
theorem d_X12_becomes_37 : decode J_X12_becomes.2.1 37 = .ok (.iload 4, 2) := by decide +kernel
theorem d_X12_becomes_39 : decode J_X12_becomes.2.1 39 = .ok (.iconst 1, 1) := by decide +kernel
theorem d_X12_becomes_40 : decode J_X12_becomes.2.1 40 = .ok (.isub, 1) := by decide +kernel
theorem d_X12_becomes_41 : decode J_X12_becomes.2.1 41 = .ok (.aload_n 0, 1) := by decide +kernel
theorem d_X12_becomes_42 : decode J_X12_becomes.2.1 42 = .ok (.getfield 13, 3) := by decide +kernel
theorem d_X12_becomes_45 : decode J_X12_becomes.2.1 45 = .ok (.iload 4, 2) := by decide +kernel
theorem d_X12_becomes_47 : decode J_X12_becomes.2.1 47 = .ok (.iaload, 1) := by decide +kernel
theorem d_X12_becomes_48 : decode J_X12_becomes.2.1 48 = .ok (.iastore, 1) := by decide +kernel
theorem d_X12_becomes_49 : decode J_X12_becomes.2.1 49 = .ok (.aload_n 0, 1) := by decide +kernel
theorem d_X12_becomes_50 : decode J_X12_becomes.2.1 50 = .ok (.getfield 16, 3) := by decide +kernel
theorem d_X12_becomes_53 : decode J_X12_becomes.2.1 53 = .ok (.iload 4, 2) := by decide +kernel
theorem d_X12_becomes_55 : decode J_X12_becomes.2.1 55 = .ok (.iconst 1, 1) := by decide +kernel
theorem d_X12_becomes_56 : decode J_X12_becomes.2.1 56 = .ok (.isub, 1) := by decide +kernel
theorem d_X12_becomes_57 : decode J_X12_becomes.2.1 57 = .ok (.aload_n 0, 1) := by decide +kernel
theorem d_X12_becomes_58 : decode J_X12_becomes.2.1 58 = .ok (.getfield 16, 3) := by decide +kernel
theorem d_X12_becomes_61 : decode J_X12_becomes.2.1 61 = .ok (.iload 4, 2) := by decide +kernel
theorem d_X12_becomes_63 : decode J_X12_becomes.2.1 63 = .ok (.iaload, 1) := by decide +kernel
theorem d_X12_becomes_64 : decode J_X12_becomes.2.1 64 = .ok (.iastore, 1) := by decide +kernel
theorem d_X12_becomes_65 : decode J_X12_becomes.2.1 65 = .ok (.aload_n 0, 1) := by decide +kernel
theorem d_X12_becomes_66 : decode J_X12_becomes.2.1 66 = .ok (.getfield 19, 3) := by decide +kernel
theorem d_X12_becomes_69 : decode J_X12_becomes.2.1 69 = .ok (.iload 4, 2) := by decide +kernel
theorem d_X12_becomes_71 : decode J_X12_becomes.2.1 71 = .ok (.iconst 1, 1) := by decide +kernel
theorem d_X12_becomes_72 : decode J_X12_becomes.2.1 72 = .ok (.isub, 1) := by decide +kernel
theorem d_X12_becomes_73 : decode J_X12_becomes.2.1 73 = .ok (.aload_n 0, 1) := by decide +kernel
theorem d_X12_becomes_74 : decode J_X12_becomes.2.1 74 = .ok (.getfield 19, 3) := by decide +kernel
theorem d_X12_becomes_77 : decode J_X12_becomes.2.1 77 = .ok (.iload 4, 2) := by decide +kernel
theorem d_X12_becomes_79 : decode J_X12_becomes.2.1 79 = .ok (.iaload, 1) := by decide +kernel
theorem d_X12_becomes_80 : decode J_X12_becomes.2.1 80 = .ok (.iastore, 1) := by decide +kernel
theorem d_X12_becomes_81 : decode J_X12_becomes.2.1 81 = .ok (.iinc 4 1, 3) := by decide +kernel
theorem d_X12_becomes_84 : decode J_X12_becomes.2.1 84 = .ok (.goto (-58), 3) := by decide +kernel
theorem d_X12_becomes_87 : decode J_X12_becomes.2.1 87 = .ok (.aload_n 0, 1) := by decide +kernel
theorem d_X12_becomes_88 : decode J_X12_becomes.2.1 88 = .ok (.dup, 1) := by decide +kernel
theorem d_X12_becomes_89 : decode J_X12_becomes.2.1 89 = .ok (.getfield 135, 3) := by decide +kernel
theorem d_X12_becomes_92 : decode J_X12_becomes.2.1 92 = .ok (.iconst 1, 1) := by decide +kernel
theorem d_X12_becomes_93 : decode J_X12_becomes.2.1 93 = .ok (.isub, 1) := by decide +kernel
theorem d_X12_becomes_94 : decode J_X12_becomes.2.1 94 = .ok (.putfield 135, 3) := by decide +kernel
theorem d_X12_becomes_97 : decode J_X12_becomes.2.1 97 = .ok (.aload_n 0, 1) := by decide +kernel
theorem d_X12_becomes_98 : decode J_X12_becomes.2.1 98 = .ok (.getfield 13, 3) := by decide +kernel
theorem d_X12_becomes_101 : decode J_X12_becomes.2.1 101 = .ok (.aload_n 0, 1) := by decide +kernel
theorem d_X12_becomes_102 : decode J_X12_becomes.2.1 102 = .ok (.getfield 135, 3) := by decide +kernel
theorem d_X12_becomes_105 : decode J_X12_becomes.2.1 105 = .ok (.iload_n 1, 1) := by decide +kernel
theorem d_X12_becomes_106 : decode J_X12_becomes.2.1 106 = .ok (.iastore, 1) := by decide +kernel
theorem d_X12_becomes_107 : decode J_X12_becomes.2.1 107 = .ok (.aload_n 0, 1) := by decide +kernel
theorem d_X12_becomes_108 : decode J_X12_becomes.2.1 108 = .ok (.getfield 16, 3) := by decide +kernel
theorem d_X12_becomes_111 : decode J_X12_becomes.2.1 111 = .ok (.aload_n 0, 1) := by decide +kernel
theorem d_X12_becomes_112 : decode J_X12_becomes.2.1 112 = .ok (.getfield 135, 3) := by decide +kernel
theorem d_X12_becomes_115 : decode J_X12_becomes.2.1 115 = .ok (.iload_n 3, 1) := by decide +kernel
theorem d_X12_becomes_116 : decode J_X12_becomes.2.1 116 = .ok (.iastore, 1) := by decide +kernel
theorem d_X12_becomes_117 : decode J_X12_becomes.2.1 117 = .ok (.aload_n 0, 1) := by decide +kernel
theorem d_X12_becomes_118 : decode J_X12_becomes.2.1 118 = .ok (.getfield 19, 3) := by decide +kernel
theorem d_X12_becomes_121 : decode J_X12_becomes.2.1 121 = .ok (.aload_n 0, 1) := by decide +kernel
theorem d_X12_becomes_122 : decode J_X12_becomes.2.1 122 = .ok (.getfield 135, 3) := by decide +kernel
theorem d_X12_becomes_125 : decode J_X12_becomes.2.1 125 = .ok (.iload_n 2, 1) := by decide +kernel
theorem d_X12_becomes_126 : decode J_X12_becomes.2.1 126 = .ok (.iastore, 1) := by decide +kernel
theorem d_X12_becomes_127 : decode J_X12_becomes.2.1 127 = .ok (.aload_n 0, 1) := by decide +kernel
theorem d_X12_becomes_128 : decode J_X12_becomes.2.1 128 = .ok (.dup, 1) := by decide +kernel
theorem d_X12_becomes_129 : decode J_X12_becomes.2.1 129 = .ok (.getfield 135, 3) := by decide +kernel
theorem d_X12_becomes_132 : decode J_X12_becomes.2.1 132 = .ok (.iconst 1, 1) := by decide +kernel
theorem d_X12_becomes_133 : decode J_X12_becomes.2.1 133 = .ok (.iadd, 1) := by decide +kernel
theorem d_X12_becomes_134 : decode J_X12_becomes.2.1 134 = .ok (.putfield 135, 3) := by decide +kernel
theorem d_X12_becomes_137 : decode J_X12_becomes.2.1 137 = .ok (.aload_n 0, 1) := by decide +kernel
theorem d_X12_becomes_138 : decode J_X12_becomes.2.1 138 = .ok (.aload_n 0, 1) := by decide +kernel
theorem d_X12_becomes_139 : decode J_X12_becomes.2.1 139 = .ok (.getfield 135, 3) := by decide +kernel
theorem d_X12_becomes_142 : decode J_X12_becomes.2.1 142 = .ok (.putfield 139, 3) := by decide +kernel
theorem d_X12_becomes_145 : decode J_X12_becomes.2.1 145 = .ok (.aload_n 0, 1) := by decide +kernel
theorem d_X12_becomes_146 : decode J_X12_becomes.2.1 146 = .ok (.getfield 7, 3) := by decide +kernel
theorem d_X12_becomes_149 : decode J_X12_becomes.2.1 149 = .ok (.iload_n 1, 1) := by decide +kernel
theorem d_X12_becomes_150 : decode J_X12_becomes.2.1 150 = .ok (.iload_n 2, 1) := by decide +kernel
theorem d_X12_becomes_151 : decode J_X12_becomes.2.1 151 = .ok (.iastore, 1) := by decide +kernel
theorem d_X12_becomes_152 : decode J_X12_becomes.2.1 152 = .ok (.iload_n 3, 1) := by decide +kernel
theorem d_X12_becomes_153 : decode J_X12_becomes.2.1 153 = .ok (.ireturn, 1) := by decide +kernel
def f_X12_becomes_97 (N : Nat) (K : oK)  (p1 : Int32) (p2 : Int32) (p3 : Int32) (M : oM) : Option (Int32 × oM) :=
  oIx ((M.1 59 5)) 40 (oIx (((oUp M 61 ((M.1 59 5) : Int32).toNatClampNeg p1).1 59 5)) 40 (oIx (((oUp (oUp M 61 ((M.1 59 5) : Int32).toNatClampNeg p1) 62 (((oUp M 61 ((M.1 59 5) : Int32).toNatClampNeg p1).1 59 5) : Int32).toNatClampNeg p3).1 59 5)) 40 (oIx (p1) 21 (some (p3, (oUp (oUp (oUp (oUp (oUp (oUp M 61 ((M.1 59 5) : Int32).toNatClampNeg p1) 62 (((oUp M 61 ((M.1 59 5) : Int32).toNatClampNeg p1).1 59 5) : Int32).toNatClampNeg p3) 63 (((oUp (oUp M 61 ((M.1 59 5) : Int32).toNatClampNeg p1) 62 (((oUp M 61 ((M.1 59 5) : Int32).toNatClampNeg p1).1 59 5) : Int32).toNatClampNeg p3).1 59 5) : Int32).toNatClampNeg p2) 59 5 (((oUp (oUp (oUp M 61 ((M.1 59 5) : Int32).toNatClampNeg p1) 62 (((oUp M 61 ((M.1 59 5) : Int32).toNatClampNeg p1).1 59 5) : Int32).toNatClampNeg p3) 63 (((oUp (oUp M 61 ((M.1 59 5) : Int32).toNatClampNeg p1) 62 (((oUp M 61 ((M.1 59 5) : Int32).toNatClampNeg p1).1 59 5) : Int32).toNatClampNeg p3).1 59 5) : Int32).toNatClampNeg p2).1 59 5) + 1)) 59 4 ((oUp (oUp (oUp (oUp M 61 ((M.1 59 5) : Int32).toNatClampNeg p1) 62 (((oUp M 61 ((M.1 59 5) : Int32).toNatClampNeg p1).1 59 5) : Int32).toNatClampNeg p3) 63 (((oUp (oUp M 61 ((M.1 59 5) : Int32).toNatClampNeg p1) 62 (((oUp M 61 ((M.1 59 5) : Int32).toNatClampNeg p1).1 59 5) : Int32).toNatClampNeg p3).1 59 5) : Int32).toNatClampNeg p2) 59 5 (((oUp (oUp (oUp M 61 ((M.1 59 5) : Int32).toNatClampNeg p1) 62 (((oUp M 61 ((M.1 59 5) : Int32).toNatClampNeg p1).1 59 5) : Int32).toNatClampNeg p3) 63 (((oUp (oUp M 61 ((M.1 59 5) : Int32).toNatClampNeg p1) 62 (((oUp M 61 ((M.1 59 5) : Int32).toNatClampNeg p1).1 59 5) : Int32).toNatClampNeg p3).1 59 5) : Int32).toNatClampNeg p2).1 59 5) + 1)).1 59 5)) 60 (p1 : Int32).toNatClampNeg p2))))))
set_option maxRecDepth 20000 in
theorem v_X12_becomes_97 {X : oX} {d N : Nat} {K : oK}  {p1 : Int32} {p2 : Int32} {p3 : Int32} {M : oM} {v : Int32} {M' : oM}  (hd : 1 ≤ d) (hK : oSR K)   (h : f_X12_becomes_97 N K  p1 p2 p3 M = some (v, M')) : oEv X d J_X12_becomes 97 [some (.ref 59), some (.int p1), some (.int p2), some (.int p3), none] [] K M (some (.int v)) K M' := by
  unfold f_X12_becomes_97 at h
  refine oe_aload_n (pc := 97) d_X12_becomes_97 rfl ?_
  refine oe_getr (pc := 98) d_X12_becomes_98 fl_X12_13 ock12 (k := 1) (b := 61) (Nat.le_of_ble_eq_true rfl) (by decide) (oLt hK (a := 59) (Nat.le_of_ble_eq_true rfl)) (oSho hK (a := 59) (Nat.le_of_ble_eq_true rfl) rfl) (oRfK hK rfl) ?_
  refine oe_aload_n (pc := 101) d_X12_becomes_101 rfl ?_
  refine oe_getf (pc := 102) d_X12_becomes_102 fl_X12_135 ock12 (k := 5) (Nat.le_of_ble_eq_true rfl) rfl (oLt hK (a := 59) (Nat.le_of_ble_eq_true rfl)) (oSho hK (a := 59) (Nat.le_of_ble_eq_true rfl) rfl) ?_
  refine oe_iload_n (pc := 105) d_X12_becomes_105 rfl ?_
  obtain ⟨i4, h⟩ := oIx_some h
  refine oe_iast (pc := 106) d_X12_becomes_106 (oLt hK (a := 61) (Nat.le_of_ble_eq_true rfl)) (oSha hK (a := 61) (Nat.le_of_ble_eq_true rfl) rfl) i4 ?_
  refine oe_aload_n (pc := 107) d_X12_becomes_107 rfl ?_
  refine oe_getr (pc := 108) d_X12_becomes_108 fl_X12_16 ock12 (k := 2) (b := 62) (Nat.le_of_ble_eq_true rfl) (by decide) (oLt hK (a := 59) (Nat.le_of_ble_eq_true rfl)) (oSho hK (a := 59) (Nat.le_of_ble_eq_true rfl) rfl) (oRfK hK rfl) ?_
  refine oe_aload_n (pc := 111) d_X12_becomes_111 rfl ?_
  refine oe_getf (pc := 112) d_X12_becomes_112 fl_X12_135 ock12 (k := 5) (Nat.le_of_ble_eq_true rfl) rfl (oLt hK (a := 59) (Nat.le_of_ble_eq_true rfl)) (oSho hK (a := 59) (Nat.le_of_ble_eq_true rfl) rfl) ?_
  refine oe_iload_n (pc := 115) d_X12_becomes_115 rfl ?_
  obtain ⟨i5, h⟩ := oIx_some h
  refine oe_iast (pc := 116) d_X12_becomes_116 (oLt hK (a := 62) (Nat.le_of_ble_eq_true rfl)) (oSha hK (a := 62) (Nat.le_of_ble_eq_true rfl) rfl) i5 ?_
  refine oe_aload_n (pc := 117) d_X12_becomes_117 rfl ?_
  refine oe_getr (pc := 118) d_X12_becomes_118 fl_X12_19 ock12 (k := 3) (b := 63) (Nat.le_of_ble_eq_true rfl) (by decide) (oLt hK (a := 59) (Nat.le_of_ble_eq_true rfl)) (oSho hK (a := 59) (Nat.le_of_ble_eq_true rfl) rfl) (oRfK hK rfl) ?_
  refine oe_aload_n (pc := 121) d_X12_becomes_121 rfl ?_
  refine oe_getf (pc := 122) d_X12_becomes_122 fl_X12_135 ock12 (k := 5) (Nat.le_of_ble_eq_true rfl) rfl (oLt hK (a := 59) (Nat.le_of_ble_eq_true rfl)) (oSho hK (a := 59) (Nat.le_of_ble_eq_true rfl) rfl) ?_
  refine oe_iload_n (pc := 125) d_X12_becomes_125 rfl ?_
  obtain ⟨i6, h⟩ := oIx_some h
  refine oe_iast (pc := 126) d_X12_becomes_126 (oLt hK (a := 63) (Nat.le_of_ble_eq_true rfl)) (oSha hK (a := 63) (Nat.le_of_ble_eq_true rfl) rfl) i6 ?_
  refine oe_aload_n (pc := 127) d_X12_becomes_127 rfl ?_
  refine oe_dup (pc := 128) d_X12_becomes_128 rfl ?_
  refine oe_getf (pc := 129) d_X12_becomes_129 fl_X12_135 ock12 (k := 5) (Nat.le_of_ble_eq_true rfl) rfl (oLt hK (a := 59) (Nat.le_of_ble_eq_true rfl)) (oSho hK (a := 59) (Nat.le_of_ble_eq_true rfl) rfl) ?_
  refine oe_iconst (pc := 132) (v := 1) d_X12_becomes_132 rfl ?_
  refine oe_iadd (pc := 133) d_X12_becomes_133 ?_
  refine oe_putf (pc := 134) d_X12_becomes_134 fl_X12_135 ock12 (k := 5) (Nat.le_of_ble_eq_true rfl) rfl rfl (oLt hK (a := 59) (Nat.le_of_ble_eq_true rfl)) (oSho hK (a := 59) (Nat.le_of_ble_eq_true rfl) rfl) ?_
  refine oe_aload_n (pc := 137) d_X12_becomes_137 rfl ?_
  refine oe_aload_n (pc := 138) d_X12_becomes_138 rfl ?_
  refine oe_getf (pc := 139) d_X12_becomes_139 fl_X12_135 ock12 (k := 5) (Nat.le_of_ble_eq_true rfl) rfl (oLt hK (a := 59) (Nat.le_of_ble_eq_true rfl)) (oSho hK (a := 59) (Nat.le_of_ble_eq_true rfl) rfl) ?_
  refine oe_putf (pc := 142) d_X12_becomes_142 fl_X12_139 ock12 (k := 4) (Nat.le_of_ble_eq_true rfl) rfl rfl (oLt hK (a := 59) (Nat.le_of_ble_eq_true rfl)) (oSho hK (a := 59) (Nat.le_of_ble_eq_true rfl) rfl) ?_
  refine oe_aload_n (pc := 145) d_X12_becomes_145 rfl ?_
  refine oe_getr (pc := 146) d_X12_becomes_146 fl_X12_7 ock12 (k := 0) (b := 60) (Nat.le_of_ble_eq_true rfl) (by decide) (oLt hK (a := 59) (Nat.le_of_ble_eq_true rfl)) (oSho hK (a := 59) (Nat.le_of_ble_eq_true rfl) rfl) (oRfK hK rfl) ?_
  refine oe_iload_n (pc := 149) d_X12_becomes_149 rfl ?_
  refine oe_iload_n (pc := 150) d_X12_becomes_150 rfl ?_
  obtain ⟨i7, h⟩ := oIx_some h
  refine oe_iast (pc := 151) d_X12_becomes_151 (oLt hK (a := 60) (Nat.le_of_ble_eq_true rfl)) (oSha hK (a := 60) (Nat.le_of_ble_eq_true rfl) rfl) i7 ?_
  refine oe_iload_n (pc := 152) d_X12_becomes_152 rfl ?_
  obtain ⟨rfl, rfl⟩ := oRes h
  exact oe_iret (pc := 153) d_X12_becomes_153 ⟨_, rfl, rfl⟩
def f_X12_becomes_26 (N : Nat) (K : oK)  : Nat → Int32 → Int32 → Int32 → Int32 → oM → Option (Int32 × oM)
  | 0, _, _, _, _, _ => none
  | n + 1, p1, p2, p3, p4, M => (fun r26 => (if 40 ≤ p4 then (f_X12_becomes_97 N K  p1 p2 p3 (oUp M 59 5 ((M.1 59 5) - 1))) else oIx (p4) 40 (oIx ((p4 - 1)) 40 (oIx (p4) 40 (oIx ((p4 - 1)) 40 (oIx (p4) 40 (oIx ((p4 - 1)) 40 ((r26 p1 p2 p3 (p4 + 1) (oUp (oUp (oUp M 61 ((p4 - 1) : Int32).toNatClampNeg (M.1 61 (p4 : Int32).toNatClampNeg)) 62 ((p4 - 1) : Int32).toNatClampNeg ((oUp M 61 ((p4 - 1) : Int32).toNatClampNeg (M.1 61 (p4 : Int32).toNatClampNeg)).1 62 (p4 : Int32).toNatClampNeg)) 63 ((p4 - 1) : Int32).toNatClampNeg ((oUp (oUp M 61 ((p4 - 1) : Int32).toNatClampNeg (M.1 61 (p4 : Int32).toNatClampNeg)) 62 ((p4 - 1) : Int32).toNatClampNeg ((oUp M 61 ((p4 - 1) : Int32).toNatClampNeg (M.1 61 (p4 : Int32).toNatClampNeg)).1 62 (p4 : Int32).toNatClampNeg)).1 63 (p4 : Int32).toNatClampNeg))))))))))) (f_X12_becomes_26 N K  n)
set_option maxRecDepth 20000 in
theorem v_X12_becomes_26_L {X : oX} {d N : Nat} {K : oK}  (hd : 1 ≤ d) (hK : oSR K)  : ∀ (n : Nat) (p1 : Int32) (p2 : Int32) (p3 : Int32) (p4 : Int32) (M : oM) (v : Int32) (M' : oM)  , f_X12_becomes_26 N K  n p1 p2 p3 p4 M = some (v, M') → oEv X d J_X12_becomes 26 [some (.ref 59), some (.int p1), some (.int p2), some (.int p3), some (.int p4)] [] K M (some (.int v)) K M' := by
  intro n
  induction n with
  | zero =>
    intro p1 p2 p3 p4 M v M'   h
    cases h
  | succ n hr26 =>
    intro p1 p2 p3 p4 M v M'   h
    refine oe_iload (pc := 26) d_X12_becomes_26 rfl ?_
    refine oe_bipush (pc := 28) (v := 40) d_X12_becomes_28 rfl ?_
    refine oe_icmp_ge (pc := 30) (tgt := 87) d_X12_becomes_30 (by decide) (fun c8 => ?_) (fun c8 => ?_)
    · replace h := (if_pos c8).symm.trans h
      refine oe_aload_n (pc := 87) d_X12_becomes_87 rfl ?_
      refine oe_dup (pc := 88) d_X12_becomes_88 rfl ?_
      refine oe_getf (pc := 89) d_X12_becomes_89 fl_X12_135 ock12 (k := 5) (Nat.le_of_ble_eq_true rfl) rfl (oLt hK (a := 59) (Nat.le_of_ble_eq_true rfl)) (oSho hK (a := 59) (Nat.le_of_ble_eq_true rfl) rfl) ?_
      refine oe_iconst (pc := 92) (v := 1) d_X12_becomes_92 rfl ?_
      refine oe_isub (pc := 93) d_X12_becomes_93 ?_
      refine oe_putf (pc := 94) d_X12_becomes_94 fl_X12_135 ock12 (k := 5) (Nat.le_of_ble_eq_true rfl) rfl rfl (oLt hK (a := 59) (Nat.le_of_ble_eq_true rfl)) (oSho hK (a := 59) (Nat.le_of_ble_eq_true rfl) rfl) ?_
      refine oEv.fg [true, true, true, true, false] ?_
      exact v_X12_becomes_97 hd hK   h
    · replace h := (if_neg c8).symm.trans h
      refine oe_aload_n (pc := 33) d_X12_becomes_33 rfl ?_
      refine oe_getr (pc := 34) d_X12_becomes_34 fl_X12_13 ock12 (k := 1) (b := 61) (Nat.le_of_ble_eq_true rfl) (by decide) (oLt hK (a := 59) (Nat.le_of_ble_eq_true rfl)) (oSho hK (a := 59) (Nat.le_of_ble_eq_true rfl) rfl) (oRfK hK rfl) ?_
      refine oe_iload (pc := 37) d_X12_becomes_37 rfl ?_
      refine oe_iconst (pc := 39) (v := 1) d_X12_becomes_39 rfl ?_
      refine oe_isub (pc := 40) d_X12_becomes_40 ?_
      refine oe_aload_n (pc := 41) d_X12_becomes_41 rfl ?_
      refine oe_getr (pc := 42) d_X12_becomes_42 fl_X12_13 ock12 (k := 1) (b := 61) (Nat.le_of_ble_eq_true rfl) (by decide) (oLt hK (a := 59) (Nat.le_of_ble_eq_true rfl)) (oSho hK (a := 59) (Nat.le_of_ble_eq_true rfl) rfl) (oRfK hK rfl) ?_
      refine oe_iload (pc := 45) d_X12_becomes_45 rfl ?_
      obtain ⟨i9, h⟩ := oIx_some h
      refine oe_iald (pc := 47) d_X12_becomes_47 (oLt hK (a := 61) (Nat.le_of_ble_eq_true rfl)) (oSha hK (a := 61) (Nat.le_of_ble_eq_true rfl) rfl) i9 ?_
      obtain ⟨i10, h⟩ := oIx_some h
      refine oe_iast (pc := 48) d_X12_becomes_48 (oLt hK (a := 61) (Nat.le_of_ble_eq_true rfl)) (oSha hK (a := 61) (Nat.le_of_ble_eq_true rfl) rfl) i10 ?_
      refine oe_aload_n (pc := 49) d_X12_becomes_49 rfl ?_
      refine oe_getr (pc := 50) d_X12_becomes_50 fl_X12_16 ock12 (k := 2) (b := 62) (Nat.le_of_ble_eq_true rfl) (by decide) (oLt hK (a := 59) (Nat.le_of_ble_eq_true rfl)) (oSho hK (a := 59) (Nat.le_of_ble_eq_true rfl) rfl) (oRfK hK rfl) ?_
      refine oe_iload (pc := 53) d_X12_becomes_53 rfl ?_
      refine oe_iconst (pc := 55) (v := 1) d_X12_becomes_55 rfl ?_
      refine oe_isub (pc := 56) d_X12_becomes_56 ?_
      refine oe_aload_n (pc := 57) d_X12_becomes_57 rfl ?_
      refine oe_getr (pc := 58) d_X12_becomes_58 fl_X12_16 ock12 (k := 2) (b := 62) (Nat.le_of_ble_eq_true rfl) (by decide) (oLt hK (a := 59) (Nat.le_of_ble_eq_true rfl)) (oSho hK (a := 59) (Nat.le_of_ble_eq_true rfl) rfl) (oRfK hK rfl) ?_
      refine oe_iload (pc := 61) d_X12_becomes_61 rfl ?_
      obtain ⟨i11, h⟩ := oIx_some h
      refine oe_iald (pc := 63) d_X12_becomes_63 (oLt hK (a := 62) (Nat.le_of_ble_eq_true rfl)) (oSha hK (a := 62) (Nat.le_of_ble_eq_true rfl) rfl) i11 ?_
      obtain ⟨i12, h⟩ := oIx_some h
      refine oe_iast (pc := 64) d_X12_becomes_64 (oLt hK (a := 62) (Nat.le_of_ble_eq_true rfl)) (oSha hK (a := 62) (Nat.le_of_ble_eq_true rfl) rfl) i12 ?_
      refine oe_aload_n (pc := 65) d_X12_becomes_65 rfl ?_
      refine oe_getr (pc := 66) d_X12_becomes_66 fl_X12_19 ock12 (k := 3) (b := 63) (Nat.le_of_ble_eq_true rfl) (by decide) (oLt hK (a := 59) (Nat.le_of_ble_eq_true rfl)) (oSho hK (a := 59) (Nat.le_of_ble_eq_true rfl) rfl) (oRfK hK rfl) ?_
      refine oe_iload (pc := 69) d_X12_becomes_69 rfl ?_
      refine oe_iconst (pc := 71) (v := 1) d_X12_becomes_71 rfl ?_
      refine oe_isub (pc := 72) d_X12_becomes_72 ?_
      refine oe_aload_n (pc := 73) d_X12_becomes_73 rfl ?_
      refine oe_getr (pc := 74) d_X12_becomes_74 fl_X12_19 ock12 (k := 3) (b := 63) (Nat.le_of_ble_eq_true rfl) (by decide) (oLt hK (a := 59) (Nat.le_of_ble_eq_true rfl)) (oSho hK (a := 59) (Nat.le_of_ble_eq_true rfl) rfl) (oRfK hK rfl) ?_
      refine oe_iload (pc := 77) d_X12_becomes_77 rfl ?_
      obtain ⟨i13, h⟩ := oIx_some h
      refine oe_iald (pc := 79) d_X12_becomes_79 (oLt hK (a := 63) (Nat.le_of_ble_eq_true rfl)) (oSha hK (a := 63) (Nat.le_of_ble_eq_true rfl) rfl) i13 ?_
      obtain ⟨i14, h⟩ := oIx_some h
      refine oe_iast (pc := 80) d_X12_becomes_80 (oLt hK (a := 63) (Nat.le_of_ble_eq_true rfl)) (oSha hK (a := 63) (Nat.le_of_ble_eq_true rfl) rfl) i14 ?_
      refine oe_iinc (pc := 81) (v := (p4 + 1)) (L2 := [_, _, _, _, _]) d_X12_becomes_81 rfl rfl rfl (Nat.le_of_ble_eq_true rfl) rfl ?_
      refine oe_goto (pc := 84) (tgt := 26) d_X12_becomes_84 (by decide) ?_
      exact hr26 _ _ _ _ _ _ _ h
theorem v_X12_becomes_26 {X : oX} {d N : Nat} {K : oK}  {p1 : Int32} {p2 : Int32} {p3 : Int32} {p4 : Int32} {M : oM} {v : Int32} {M' : oM}  (hd : 1 ≤ d) (hK : oSR K)   (h : f_X12_becomes_26 N K  N p1 p2 p3 p4 M = some (v, M')) : oEv X d J_X12_becomes 26 [some (.ref 59), some (.int p1), some (.int p2), some (.int p3), some (.int p4)] [] K M (some (.int v)) K M' := v_X12_becomes_26_L hd hK  N p1 p2 p3 p4 M v M'   h
def f_X12_becomes (N : Nat) (K : oK) (p1 : Int32) (p2 : Int32) (M : oM) : Option (Int32 × oM) :=
  oIx (p1) 21 ((if (M.1 60 (p1 : Int32).toNatClampNeg) = p2 then some ((M.1 60 (p1 : Int32).toNatClampNeg), M) else (if (M.1 59 5) = 40 then (f_X12_becomes_26 N K  N p1 p2 (M.1 60 (p1 : Int32).toNatClampNeg) 1 M) else (f_X12_becomes_97 N K  p1 p2 (M.1 60 (p1 : Int32).toNatClampNeg) M))))
set_option maxRecDepth 20000 in
theorem v_X12_becomes {X : oX} {N : Nat} {K : oK} {p1 : Int32} {p2 : Int32} {M : oM} {v : Int32} {M' : oM} (hK : oSR K)  (h : f_X12_becomes N K p1 p2 M = some (v, M')) : oMet X 1 J_X12_becomes [(.ref 59), (.int p1), (.int p2)] K M (some (.int v)) K M' := by
  unfold f_X12_becomes at h
  refine oMet_of (L := [some (.ref 59), some (.int p1), some (.int p2), none, none]) jJ_X12_becomes.1 rfl (Nat.le_of_ble_eq_true rfl) rfl (Nat.le_refl _) (Nat.le_refl _) ?_
  have hd : 1 ≤ 1 := Nat.le_refl _
  refine oe_aload_n (pc := 0) d_X12_becomes_0 rfl ?_
  refine oe_getr (pc := 1) d_X12_becomes_1 fl_X12_7 ock12 (k := 0) (b := 60) (Nat.le_of_ble_eq_true rfl) (by decide) (oLt hK (a := 59) (Nat.le_of_ble_eq_true rfl)) (oSho hK (a := 59) (Nat.le_of_ble_eq_true rfl) rfl) (oRfK hK rfl) ?_
  refine oe_iload_n (pc := 4) d_X12_becomes_4 rfl ?_
  obtain ⟨i1, h⟩ := oIx_some h
  refine oe_iald (pc := 5) d_X12_becomes_5 (oLt hK (a := 60) (Nat.le_of_ble_eq_true rfl)) (oSha hK (a := 60) (Nat.le_of_ble_eq_true rfl) rfl) i1 ?_
  refine oe_istore_n (pc := 6) (L2 := [_, _, _, _, _]) d_X12_becomes_6 rfl rfl (Nat.le_of_ble_eq_true rfl) rfl ?_
  refine oe_iload_n (pc := 7) d_X12_becomes_7 rfl ?_
  refine oe_iload_n (pc := 8) d_X12_becomes_8 rfl ?_
  refine oe_icmp_ne (pc := 9) (tgt := 14) d_X12_becomes_9 (by decide) (fun c2 => ?_) (fun c2 => ?_)
  · replace h := (if_neg c2).symm.trans h
    refine oe_aload_n (pc := 14) d_X12_becomes_14 rfl ?_
    refine oe_getf (pc := 15) d_X12_becomes_15 fl_X12_135 ock12 (k := 5) (Nat.le_of_ble_eq_true rfl) rfl (oLt hK (a := 59) (Nat.le_of_ble_eq_true rfl)) (oSho hK (a := 59) (Nat.le_of_ble_eq_true rfl) rfl) ?_
    refine oe_bipush (pc := 18) (v := 40) d_X12_becomes_18 rfl ?_
    refine oe_icmp_ne (pc := 20) (tgt := 97) d_X12_becomes_20 (by decide) (fun c3 => ?_) (fun c3 => ?_)
    · replace h := (if_neg c3).symm.trans h
      exact v_X12_becomes_97 hd hK   h
    · replace h := (if_pos c3).symm.trans h
      refine oe_iconst (pc := 23) (v := 1) d_X12_becomes_23 rfl ?_
      refine oe_istore (pc := 24) (L2 := [_, _, _, _, _]) d_X12_becomes_24 rfl (Nat.le_of_ble_eq_true rfl) rfl ?_
      exact v_X12_becomes_26 hd hK   h
  · replace h := (if_pos c2).symm.trans h
    refine oe_iload_n (pc := 12) d_X12_becomes_12 rfl ?_
    obtain ⟨rfl, rfl⟩ := oRes h
    exact oe_iret (pc := 13) d_X12_becomes_13 ⟨_, rfl, rfl⟩
theorem d_X12_undo_0 : decode J_X12_undo.2.1 0 = .ok (.aload_n 0, 1) := by decide +kernel
theorem d_X12_undo_1 : decode J_X12_undo.2.1 1 = .ok (.getfield 135, 3) := by decide +kernel
theorem d_X12_undo_4 : decode J_X12_undo.2.1 4 = .ok (.ifCond .ne 6, 3) := by decide +kernel
theorem d_X12_undo_7 : decode J_X12_undo.2.1 7 = .ok (.bipush (-5), 2) := by decide +kernel
theorem d_X12_undo_9 : decode J_X12_undo.2.1 9 = .ok (.ireturn, 1) := by decide +kernel
theorem d_X12_undo_10 : decode J_X12_undo.2.1 10 = .ok (.aload_n 0, 1) := by decide +kernel
theorem d_X12_undo_11 : decode J_X12_undo.2.1 11 = .ok (.dup, 1) := by decide +kernel
theorem d_X12_undo_12 : decode J_X12_undo.2.1 12 = .ok (.getfield 135, 3) := by decide +kernel
theorem d_X12_undo_15 : decode J_X12_undo.2.1 15 = .ok (.iconst 1, 1) := by decide +kernel
theorem d_X12_undo_16 : decode J_X12_undo.2.1 16 = .ok (.isub, 1) := by decide +kernel
theorem d_X12_undo_17 : decode J_X12_undo.2.1 17 = .ok (.putfield 135, 3) := by decide +kernel
theorem d_X12_undo_20 : decode J_X12_undo.2.1 20 = .ok (.aload_n 0, 1) := by decide +kernel
theorem d_X12_undo_21 : decode J_X12_undo.2.1 21 = .ok (.getfield 7, 3) := by decide +kernel
theorem d_X12_undo_24 : decode J_X12_undo.2.1 24 = .ok (.aload_n 0, 1) := by decide +kernel
theorem d_X12_undo_25 : decode J_X12_undo.2.1 25 = .ok (.getfield 13, 3) := by decide +kernel
theorem d_X12_undo_28 : decode J_X12_undo.2.1 28 = .ok (.aload_n 0, 1) := by decide +kernel
theorem d_X12_undo_29 : decode J_X12_undo.2.1 29 = .ok (.getfield 135, 3) := by decide +kernel
theorem d_X12_undo_32 : decode J_X12_undo.2.1 32 = .ok (.iaload, 1) := by decide +kernel
theorem d_X12_undo_33 : decode J_X12_undo.2.1 33 = .ok (.aload_n 0, 1) := by decide +kernel
theorem d_X12_undo_34 : decode J_X12_undo.2.1 34 = .ok (.getfield 16, 3) := by decide +kernel
theorem d_X12_undo_37 : decode J_X12_undo.2.1 37 = .ok (.aload_n 0, 1) := by decide +kernel
theorem d_X12_undo_38 : decode J_X12_undo.2.1 38 = .ok (.getfield 135, 3) := by decide +kernel
theorem d_X12_undo_41 : decode J_X12_undo.2.1 41 = .ok (.iaload, 1) := by decide +kernel
theorem d_X12_undo_42 : decode J_X12_undo.2.1 42 = .ok (.iastore, 1) := by decide +kernel
theorem d_X12_undo_43 : decode J_X12_undo.2.1 43 = .ok (.aload_n 0, 1) := by decide +kernel
theorem d_X12_undo_44 : decode J_X12_undo.2.1 44 = .ok (.getfield 135, 3) := by decide +kernel
theorem d_X12_undo_47 : decode J_X12_undo.2.1 47 = .ok (.ireturn, 1) := by decide +kernel
def f_X12_undo (N : Nat) (K : oK)  (M : oM) : Option (Int32 × oM) :=
  (if (M.1 59 5) = 0 then some ((-5), M) else oIx (((oUp M 59 5 ((M.1 59 5) - 1)).1 59 5)) 40 (oIx (((oUp M 59 5 ((M.1 59 5) - 1)).1 59 5)) 40 (oIx (((oUp M 59 5 ((M.1 59 5) - 1)).1 61 (((oUp M 59 5 ((M.1 59 5) - 1)).1 59 5) : Int32).toNatClampNeg)) 21 (some (((oUp (oUp M 59 5 ((M.1 59 5) - 1)) 60 (((oUp M 59 5 ((M.1 59 5) - 1)).1 61 (((oUp M 59 5 ((M.1 59 5) - 1)).1 59 5) : Int32).toNatClampNeg) : Int32).toNatClampNeg ((oUp M 59 5 ((M.1 59 5) - 1)).1 62 (((oUp M 59 5 ((M.1 59 5) - 1)).1 59 5) : Int32).toNatClampNeg)).1 59 5), (oUp (oUp M 59 5 ((M.1 59 5) - 1)) 60 (((oUp M 59 5 ((M.1 59 5) - 1)).1 61 (((oUp M 59 5 ((M.1 59 5) - 1)).1 59 5) : Int32).toNatClampNeg) : Int32).toNatClampNeg ((oUp M 59 5 ((M.1 59 5) - 1)).1 62 (((oUp M 59 5 ((M.1 59 5) - 1)).1 59 5) : Int32).toNatClampNeg)))))))
set_option maxRecDepth 20000 in
theorem v_X12_undo {X : oX} {N : Nat} {K : oK}  {M : oM} {v : Int32} {M' : oM} (hK : oSR K)  (h : f_X12_undo N K  M = some (v, M')) : oMet X 1 J_X12_undo [(.ref 59)] K M (some (.int v)) K M' := by
  unfold f_X12_undo at h
  refine oMet_of (L := [some (.ref 59)]) jJ_X12_undo.1 rfl (Nat.le_of_ble_eq_true rfl) rfl (Nat.le_refl _) (Nat.le_refl _) ?_
  have hd : 1 ≤ 1 := Nat.le_refl _
  refine oe_aload_n (pc := 0) d_X12_undo_0 rfl ?_
  refine oe_getf (pc := 1) d_X12_undo_1 fl_X12_135 ock12 (k := 5) (Nat.le_of_ble_eq_true rfl) rfl (oLt hK (a := 59) (Nat.le_of_ble_eq_true rfl)) (oSho hK (a := 59) (Nat.le_of_ble_eq_true rfl) rfl) ?_
  refine oe_if_ne (pc := 4) (tgt := 10) d_X12_undo_4 (by decide) (fun c1 => ?_) (fun c1 => ?_)
  · replace h := (if_neg c1).symm.trans h
    refine oe_aload_n (pc := 10) d_X12_undo_10 rfl ?_
    refine oe_dup (pc := 11) d_X12_undo_11 rfl ?_
    refine oe_getf (pc := 12) d_X12_undo_12 fl_X12_135 ock12 (k := 5) (Nat.le_of_ble_eq_true rfl) rfl (oLt hK (a := 59) (Nat.le_of_ble_eq_true rfl)) (oSho hK (a := 59) (Nat.le_of_ble_eq_true rfl) rfl) ?_
    refine oe_iconst (pc := 15) (v := 1) d_X12_undo_15 rfl ?_
    refine oe_isub (pc := 16) d_X12_undo_16 ?_
    refine oe_putf (pc := 17) d_X12_undo_17 fl_X12_135 ock12 (k := 5) (Nat.le_of_ble_eq_true rfl) rfl rfl (oLt hK (a := 59) (Nat.le_of_ble_eq_true rfl)) (oSho hK (a := 59) (Nat.le_of_ble_eq_true rfl) rfl) ?_
    refine oe_aload_n (pc := 20) d_X12_undo_20 rfl ?_
    refine oe_getr (pc := 21) d_X12_undo_21 fl_X12_7 ock12 (k := 0) (b := 60) (Nat.le_of_ble_eq_true rfl) (by decide) (oLt hK (a := 59) (Nat.le_of_ble_eq_true rfl)) (oSho hK (a := 59) (Nat.le_of_ble_eq_true rfl) rfl) (oRfK hK rfl) ?_
    refine oe_aload_n (pc := 24) d_X12_undo_24 rfl ?_
    refine oe_getr (pc := 25) d_X12_undo_25 fl_X12_13 ock12 (k := 1) (b := 61) (Nat.le_of_ble_eq_true rfl) (by decide) (oLt hK (a := 59) (Nat.le_of_ble_eq_true rfl)) (oSho hK (a := 59) (Nat.le_of_ble_eq_true rfl) rfl) (oRfK hK rfl) ?_
    refine oe_aload_n (pc := 28) d_X12_undo_28 rfl ?_
    refine oe_getf (pc := 29) d_X12_undo_29 fl_X12_135 ock12 (k := 5) (Nat.le_of_ble_eq_true rfl) rfl (oLt hK (a := 59) (Nat.le_of_ble_eq_true rfl)) (oSho hK (a := 59) (Nat.le_of_ble_eq_true rfl) rfl) ?_
    obtain ⟨i2, h⟩ := oIx_some h
    refine oe_iald (pc := 32) d_X12_undo_32 (oLt hK (a := 61) (Nat.le_of_ble_eq_true rfl)) (oSha hK (a := 61) (Nat.le_of_ble_eq_true rfl) rfl) i2 ?_
    refine oe_aload_n (pc := 33) d_X12_undo_33 rfl ?_
    refine oe_getr (pc := 34) d_X12_undo_34 fl_X12_16 ock12 (k := 2) (b := 62) (Nat.le_of_ble_eq_true rfl) (by decide) (oLt hK (a := 59) (Nat.le_of_ble_eq_true rfl)) (oSho hK (a := 59) (Nat.le_of_ble_eq_true rfl) rfl) (oRfK hK rfl) ?_
    refine oe_aload_n (pc := 37) d_X12_undo_37 rfl ?_
    refine oe_getf (pc := 38) d_X12_undo_38 fl_X12_135 ock12 (k := 5) (Nat.le_of_ble_eq_true rfl) rfl (oLt hK (a := 59) (Nat.le_of_ble_eq_true rfl)) (oSho hK (a := 59) (Nat.le_of_ble_eq_true rfl) rfl) ?_
    obtain ⟨i3, h⟩ := oIx_some h
    refine oe_iald (pc := 41) d_X12_undo_41 (oLt hK (a := 62) (Nat.le_of_ble_eq_true rfl)) (oSha hK (a := 62) (Nat.le_of_ble_eq_true rfl) rfl) i3 ?_
    obtain ⟨i4, h⟩ := oIx_some h
    refine oe_iast (pc := 42) d_X12_undo_42 (oLt hK (a := 60) (Nat.le_of_ble_eq_true rfl)) (oSha hK (a := 60) (Nat.le_of_ble_eq_true rfl) rfl) i4 ?_
    refine oe_aload_n (pc := 43) d_X12_undo_43 rfl ?_
    refine oe_getf (pc := 44) d_X12_undo_44 fl_X12_135 ock12 (k := 5) (Nat.le_of_ble_eq_true rfl) rfl (oLt hK (a := 59) (Nat.le_of_ble_eq_true rfl)) (oSho hK (a := 59) (Nat.le_of_ble_eq_true rfl) rfl) ?_
    obtain ⟨rfl, rfl⟩ := oRes h
    exact oe_iret (pc := 47) d_X12_undo_47 ⟨_, rfl, rfl⟩
  · replace h := (if_pos c1).symm.trans h
    refine oe_bipush (pc := 7) (v := (-5)) d_X12_undo_7 rfl ?_
    obtain ⟨rfl, rfl⟩ := oRes h
    exact oe_iret (pc := 9) d_X12_undo_9 ⟨_, rfl, rfl⟩
theorem d_X12_redo_0 : decode J_X12_redo.2.1 0 = .ok (.aload_n 0, 1) := by decide +kernel
theorem d_X12_redo_1 : decode J_X12_redo.2.1 1 = .ok (.getfield 135, 3) := by decide +kernel
theorem d_X12_redo_4 : decode J_X12_redo.2.1 4 = .ok (.aload_n 0, 1) := by decide +kernel
theorem d_X12_redo_5 : decode J_X12_redo.2.1 5 = .ok (.getfield 139, 3) := by decide +kernel
theorem d_X12_redo_8 : decode J_X12_redo.2.1 8 = .ok (.if_icmp .ne 6, 3) := by decide +kernel
theorem d_X12_redo_11 : decode J_X12_redo.2.1 11 = .ok (.bipush (-5), 2) := by decide +kernel
theorem d_X12_redo_13 : decode J_X12_redo.2.1 13 = .ok (.ireturn, 1) := by decide +kernel
theorem d_X12_redo_14 : decode J_X12_redo.2.1 14 = .ok (.aload_n 0, 1) := by decide +kernel
theorem d_X12_redo_15 : decode J_X12_redo.2.1 15 = .ok (.getfield 7, 3) := by decide +kernel
theorem d_X12_redo_18 : decode J_X12_redo.2.1 18 = .ok (.aload_n 0, 1) := by decide +kernel
theorem d_X12_redo_19 : decode J_X12_redo.2.1 19 = .ok (.getfield 13, 3) := by decide +kernel
theorem d_X12_redo_22 : decode J_X12_redo.2.1 22 = .ok (.aload_n 0, 1) := by decide +kernel
theorem d_X12_redo_23 : decode J_X12_redo.2.1 23 = .ok (.getfield 135, 3) := by decide +kernel
theorem d_X12_redo_26 : decode J_X12_redo.2.1 26 = .ok (.iaload, 1) := by decide +kernel
theorem d_X12_redo_27 : decode J_X12_redo.2.1 27 = .ok (.aload_n 0, 1) := by decide +kernel
theorem d_X12_redo_28 : decode J_X12_redo.2.1 28 = .ok (.getfield 19, 3) := by decide +kernel
theorem d_X12_redo_31 : decode J_X12_redo.2.1 31 = .ok (.aload_n 0, 1) := by decide +kernel
theorem d_X12_redo_32 : decode J_X12_redo.2.1 32 = .ok (.getfield 135, 3) := by decide +kernel
theorem d_X12_redo_35 : decode J_X12_redo.2.1 35 = .ok (.iaload, 1) := by decide +kernel
theorem d_X12_redo_36 : decode J_X12_redo.2.1 36 = .ok (.iastore, 1) := by decide +kernel
theorem d_X12_redo_37 : decode J_X12_redo.2.1 37 = .ok (.aload_n 0, 1) := by decide +kernel
theorem d_X12_redo_38 : decode J_X12_redo.2.1 38 = .ok (.dup, 1) := by decide +kernel
theorem d_X12_redo_39 : decode J_X12_redo.2.1 39 = .ok (.getfield 135, 3) := by decide +kernel
theorem d_X12_redo_42 : decode J_X12_redo.2.1 42 = .ok (.iconst 1, 1) := by decide +kernel
theorem d_X12_redo_43 : decode J_X12_redo.2.1 43 = .ok (.iadd, 1) := by decide +kernel
theorem d_X12_redo_44 : decode J_X12_redo.2.1 44 = .ok (.putfield 135, 3) := by decide +kernel
theorem d_X12_redo_47 : decode J_X12_redo.2.1 47 = .ok (.aload_n 0, 1) := by decide +kernel
theorem d_X12_redo_48 : decode J_X12_redo.2.1 48 = .ok (.getfield 139, 3) := by decide +kernel
theorem d_X12_redo_51 : decode J_X12_redo.2.1 51 = .ok (.aload_n 0, 1) := by decide +kernel
theorem d_X12_redo_52 : decode J_X12_redo.2.1 52 = .ok (.getfield 135, 3) := by decide +kernel
theorem d_X12_redo_55 : decode J_X12_redo.2.1 55 = .ok (.isub, 1) := by decide +kernel
theorem d_X12_redo_56 : decode J_X12_redo.2.1 56 = .ok (.ireturn, 1) := by decide +kernel
def f_X12_redo (N : Nat) (K : oK)  (M : oM) : Option (Int32 × oM) :=
  (if (M.1 59 5) = (M.1 59 4) then some ((-5), M) else oIx ((M.1 59 5)) 40 (oIx ((M.1 59 5)) 40 (oIx ((M.1 61 ((M.1 59 5) : Int32).toNatClampNeg)) 21 (some ((((oUp (oUp M 60 ((M.1 61 ((M.1 59 5) : Int32).toNatClampNeg) : Int32).toNatClampNeg (M.1 63 ((M.1 59 5) : Int32).toNatClampNeg)) 59 5 (((oUp M 60 ((M.1 61 ((M.1 59 5) : Int32).toNatClampNeg) : Int32).toNatClampNeg (M.1 63 ((M.1 59 5) : Int32).toNatClampNeg)).1 59 5) + 1)).1 59 4) - ((oUp (oUp M 60 ((M.1 61 ((M.1 59 5) : Int32).toNatClampNeg) : Int32).toNatClampNeg (M.1 63 ((M.1 59 5) : Int32).toNatClampNeg)) 59 5 (((oUp M 60 ((M.1 61 ((M.1 59 5) : Int32).toNatClampNeg) : Int32).toNatClampNeg (M.1 63 ((M.1 59 5) : Int32).toNatClampNeg)).1 59 5) + 1)).1 59 5)), (oUp (oUp M 60 ((M.1 61 ((M.1 59 5) : Int32).toNatClampNeg) : Int32).toNatClampNeg (M.1 63 ((M.1 59 5) : Int32).toNatClampNeg)) 59 5 (((oUp M 60 ((M.1 61 ((M.1 59 5) : Int32).toNatClampNeg) : Int32).toNatClampNeg (M.1 63 ((M.1 59 5) : Int32).toNatClampNeg)).1 59 5) + 1)))))))
set_option maxRecDepth 20000 in
theorem v_X12_redo {X : oX} {N : Nat} {K : oK}  {M : oM} {v : Int32} {M' : oM} (hK : oSR K)  (h : f_X12_redo N K  M = some (v, M')) : oMet X 1 J_X12_redo [(.ref 59)] K M (some (.int v)) K M' := by
  unfold f_X12_redo at h
  refine oMet_of (L := [some (.ref 59)]) jJ_X12_redo.1 rfl (Nat.le_of_ble_eq_true rfl) rfl (Nat.le_refl _) (Nat.le_refl _) ?_
  have hd : 1 ≤ 1 := Nat.le_refl _
  refine oe_aload_n (pc := 0) d_X12_redo_0 rfl ?_
  refine oe_getf (pc := 1) d_X12_redo_1 fl_X12_135 ock12 (k := 5) (Nat.le_of_ble_eq_true rfl) rfl (oLt hK (a := 59) (Nat.le_of_ble_eq_true rfl)) (oSho hK (a := 59) (Nat.le_of_ble_eq_true rfl) rfl) ?_
  refine oe_aload_n (pc := 4) d_X12_redo_4 rfl ?_
  refine oe_getf (pc := 5) d_X12_redo_5 fl_X12_139 ock12 (k := 4) (Nat.le_of_ble_eq_true rfl) rfl (oLt hK (a := 59) (Nat.le_of_ble_eq_true rfl)) (oSho hK (a := 59) (Nat.le_of_ble_eq_true rfl) rfl) ?_
  refine oe_icmp_ne (pc := 8) (tgt := 14) d_X12_redo_8 (by decide) (fun c1 => ?_) (fun c1 => ?_)
  · replace h := (if_neg c1).symm.trans h
    refine oe_aload_n (pc := 14) d_X12_redo_14 rfl ?_
    refine oe_getr (pc := 15) d_X12_redo_15 fl_X12_7 ock12 (k := 0) (b := 60) (Nat.le_of_ble_eq_true rfl) (by decide) (oLt hK (a := 59) (Nat.le_of_ble_eq_true rfl)) (oSho hK (a := 59) (Nat.le_of_ble_eq_true rfl) rfl) (oRfK hK rfl) ?_
    refine oe_aload_n (pc := 18) d_X12_redo_18 rfl ?_
    refine oe_getr (pc := 19) d_X12_redo_19 fl_X12_13 ock12 (k := 1) (b := 61) (Nat.le_of_ble_eq_true rfl) (by decide) (oLt hK (a := 59) (Nat.le_of_ble_eq_true rfl)) (oSho hK (a := 59) (Nat.le_of_ble_eq_true rfl) rfl) (oRfK hK rfl) ?_
    refine oe_aload_n (pc := 22) d_X12_redo_22 rfl ?_
    refine oe_getf (pc := 23) d_X12_redo_23 fl_X12_135 ock12 (k := 5) (Nat.le_of_ble_eq_true rfl) rfl (oLt hK (a := 59) (Nat.le_of_ble_eq_true rfl)) (oSho hK (a := 59) (Nat.le_of_ble_eq_true rfl) rfl) ?_
    obtain ⟨i2, h⟩ := oIx_some h
    refine oe_iald (pc := 26) d_X12_redo_26 (oLt hK (a := 61) (Nat.le_of_ble_eq_true rfl)) (oSha hK (a := 61) (Nat.le_of_ble_eq_true rfl) rfl) i2 ?_
    refine oe_aload_n (pc := 27) d_X12_redo_27 rfl ?_
    refine oe_getr (pc := 28) d_X12_redo_28 fl_X12_19 ock12 (k := 3) (b := 63) (Nat.le_of_ble_eq_true rfl) (by decide) (oLt hK (a := 59) (Nat.le_of_ble_eq_true rfl)) (oSho hK (a := 59) (Nat.le_of_ble_eq_true rfl) rfl) (oRfK hK rfl) ?_
    refine oe_aload_n (pc := 31) d_X12_redo_31 rfl ?_
    refine oe_getf (pc := 32) d_X12_redo_32 fl_X12_135 ock12 (k := 5) (Nat.le_of_ble_eq_true rfl) rfl (oLt hK (a := 59) (Nat.le_of_ble_eq_true rfl)) (oSho hK (a := 59) (Nat.le_of_ble_eq_true rfl) rfl) ?_
    obtain ⟨i3, h⟩ := oIx_some h
    refine oe_iald (pc := 35) d_X12_redo_35 (oLt hK (a := 63) (Nat.le_of_ble_eq_true rfl)) (oSha hK (a := 63) (Nat.le_of_ble_eq_true rfl) rfl) i3 ?_
    obtain ⟨i4, h⟩ := oIx_some h
    refine oe_iast (pc := 36) d_X12_redo_36 (oLt hK (a := 60) (Nat.le_of_ble_eq_true rfl)) (oSha hK (a := 60) (Nat.le_of_ble_eq_true rfl) rfl) i4 ?_
    refine oe_aload_n (pc := 37) d_X12_redo_37 rfl ?_
    refine oe_dup (pc := 38) d_X12_redo_38 rfl ?_
    refine oe_getf (pc := 39) d_X12_redo_39 fl_X12_135 ock12 (k := 5) (Nat.le_of_ble_eq_true rfl) rfl (oLt hK (a := 59) (Nat.le_of_ble_eq_true rfl)) (oSho hK (a := 59) (Nat.le_of_ble_eq_true rfl) rfl) ?_
    refine oe_iconst (pc := 42) (v := 1) d_X12_redo_42 rfl ?_
    refine oe_iadd (pc := 43) d_X12_redo_43 ?_
    refine oe_putf (pc := 44) d_X12_redo_44 fl_X12_135 ock12 (k := 5) (Nat.le_of_ble_eq_true rfl) rfl rfl (oLt hK (a := 59) (Nat.le_of_ble_eq_true rfl)) (oSho hK (a := 59) (Nat.le_of_ble_eq_true rfl) rfl) ?_
    refine oe_aload_n (pc := 47) d_X12_redo_47 rfl ?_
    refine oe_getf (pc := 48) d_X12_redo_48 fl_X12_139 ock12 (k := 4) (Nat.le_of_ble_eq_true rfl) rfl (oLt hK (a := 59) (Nat.le_of_ble_eq_true rfl)) (oSho hK (a := 59) (Nat.le_of_ble_eq_true rfl) rfl) ?_
    refine oe_aload_n (pc := 51) d_X12_redo_51 rfl ?_
    refine oe_getf (pc := 52) d_X12_redo_52 fl_X12_135 ock12 (k := 5) (Nat.le_of_ble_eq_true rfl) rfl (oLt hK (a := 59) (Nat.le_of_ble_eq_true rfl)) (oSho hK (a := 59) (Nat.le_of_ble_eq_true rfl) rfl) ?_
    refine oe_isub (pc := 55) d_X12_redo_55 ?_
    obtain ⟨rfl, rfl⟩ := oRes h
    exact oe_iret (pc := 56) d_X12_redo_56 ⟨_, rfl, rfl⟩
  · replace h := (if_pos c1).symm.trans h
    refine oe_bipush (pc := 11) (v := (-5)) d_X12_redo_11 rfl ?_
    obtain ⟨rfl, rfl⟩ := oRes h
    exact oe_iret (pc := 13) d_X12_redo_13 ⟨_, rfl, rfl⟩
theorem d_X12_isPoint_0 : decode J_X12_isPoint.2.1 0 = .ok (.iload_n 1, 1) := by decide +kernel
theorem d_X12_isPoint_1 : decode J_X12_isPoint.2.1 1 = .ok (.i2l, 1) := by decide +kernel
theorem d_X12_isPoint_2 : decode J_X12_isPoint.2.1 2 = .ok (.lconst 0, 1) := by decide +kernel
theorem d_X12_isPoint_3 : decode J_X12_isPoint.2.1 3 = .ok (.aload_n 0, 1) := by decide +kernel
theorem d_X12_isPoint_4 : decode J_X12_isPoint.2.1 4 = .ok (.getfield 142, 3) := by decide +kernel
theorem d_X12_isPoint_7 : decode J_X12_isPoint.2.1 7 = .ok (.iconst 1, 1) := by decide +kernel
theorem d_X12_isPoint_8 : decode J_X12_isPoint.2.1 8 = .ok (.isub, 1) := by decide +kernel
theorem d_X12_isPoint_9 : decode J_X12_isPoint.2.1 9 = .ok (.i2l, 1) := by decide +kernel
theorem d_X12_isPoint_10 : decode J_X12_isPoint.2.1 10 = .ok (.invokestatic 145, 3) := by decide +kernel
theorem d_X12_isPoint_13 : decode J_X12_isPoint.2.1 13 = .ok (.ireturn, 1) := by decide +kernel
def f_X12_isPoint (N : Nat) (K : oK) (p1 : Int32) (M : oM) : Option (Bool × oM) :=
  oB2 (f_X12_within N K ((p1 : Int32).toInt64) 0 ((((M.1 59 6) - 1) : Int32).toInt64) M) (fun v1 M2 => cond v1 (some (true, M2)) (some (false, M2)))
set_option maxRecDepth 20000 in
theorem v_X12_isPoint {X : oX} {N : Nat} {K : oK} {p1 : Int32} {M : oM} {v : Bool} {M' : oM} (hK : oSR K)  (h : f_X12_isPoint N K p1 M = some (v, M')) : oMet X 2 J_X12_isPoint [(.ref 59), (.int p1)] K M (some (.int (oBi v))) K M' := by
  unfold f_X12_isPoint at h
  refine oMet_of (L := [some (.ref 59), some (.int p1)]) jJ_X12_isPoint.1 rfl (Nat.le_of_ble_eq_true rfl) rfl (Nat.le_refl _) (Nat.le_refl _) ?_
  have hd : 2 ≤ 2 := Nat.le_refl _
  refine oe_iload_n (pc := 0) d_X12_isPoint_0 rfl ?_
  refine oe_i2l (pc := 1) d_X12_isPoint_1 ?_
  refine oe_lconst (pc := 2) (v := 0) d_X12_isPoint_2 rfl ?_
  refine oe_aload_n (pc := 3) d_X12_isPoint_3 rfl ?_
  refine oe_getf (pc := 4) d_X12_isPoint_4 fl_X12_142 ock12 (k := 6) (Nat.le_of_ble_eq_true rfl) rfl (oLt hK (a := 59) (Nat.le_of_ble_eq_true rfl)) (oSho hK (a := 59) (Nat.le_of_ble_eq_true rfl) rfl) ?_
  refine oe_iconst (pc := 7) (v := 1) d_X12_isPoint_7 rfl ?_
  refine oe_isub (pc := 8) d_X12_isPoint_8 ?_
  refine oe_i2l (pc := 9) d_X12_isPoint_9 ?_
  obtain ⟨v1, M2, q3, h⟩ := oB2_some h
  cases v1 with
  | true =>
    replace h := oCt h
    refine oe_callS (pc := 10) d_X12_isPoint_10 (v_X12_within hK  q3) (by omega) ml_X12_145 jJ_X12_within rfl rfl (Nat.le_of_ble_eq_true rfl) ⟨Nat.le_refl _, Nat.le_refl _⟩ ⟨Nat.le_refl _, Nat.le_refl _⟩ ?_
    obtain ⟨rfl, rfl⟩ := oRes h
    exact oe_iret (pc := 13) d_X12_isPoint_13 ⟨_, rfl, rfl⟩
  | false =>
    replace h := oCf h
    refine oe_callS (pc := 10) d_X12_isPoint_10 (v_X12_within hK  q3) (by omega) ml_X12_145 jJ_X12_within rfl rfl (Nat.le_of_ble_eq_true rfl) ⟨Nat.le_refl _, Nat.le_refl _⟩ ⟨Nat.le_refl _, Nat.le_refl _⟩ ?_
    obtain ⟨rfl, rfl⟩ := oRes h
    exact oe_iret (pc := 13) d_X12_isPoint_13 ⟨_, rfl, rfl⟩
theorem d_X12_isWay_0 : decode J_X12_isWay.2.1 0 = .ok (.iload_n 1, 1) := by decide +kernel
theorem d_X12_isWay_1 : decode J_X12_isWay.2.1 1 = .ok (.i2l, 1) := by decide +kernel
theorem d_X12_isWay_2 : decode J_X12_isWay.2.1 2 = .ok (.lconst 0, 1) := by decide +kernel
theorem d_X12_isWay_3 : decode J_X12_isWay.2.1 3 = .ok (.aload_n 0, 1) := by decide +kernel
theorem d_X12_isWay_4 : decode J_X12_isWay.2.1 4 = .ok (.getfield 149, 3) := by decide +kernel
theorem d_X12_isWay_7 : decode J_X12_isWay.2.1 7 = .ok (.iconst 1, 1) := by decide +kernel
theorem d_X12_isWay_8 : decode J_X12_isWay.2.1 8 = .ok (.isub, 1) := by decide +kernel
theorem d_X12_isWay_9 : decode J_X12_isWay.2.1 9 = .ok (.i2l, 1) := by decide +kernel
theorem d_X12_isWay_10 : decode J_X12_isWay.2.1 10 = .ok (.invokestatic 145, 3) := by decide +kernel
theorem d_X12_isWay_13 : decode J_X12_isWay.2.1 13 = .ok (.ireturn, 1) := by decide +kernel
def f_X12_isWay (N : Nat) (K : oK) (p1 : Int32) (M : oM) : Option (Bool × oM) :=
  oB2 (f_X12_within N K ((p1 : Int32).toInt64) 0 ((((M.1 59 7) - 1) : Int32).toInt64) M) (fun v1 M2 => cond v1 (some (true, M2)) (some (false, M2)))
set_option maxRecDepth 20000 in
theorem v_X12_isWay {X : oX} {N : Nat} {K : oK} {p1 : Int32} {M : oM} {v : Bool} {M' : oM} (hK : oSR K)  (h : f_X12_isWay N K p1 M = some (v, M')) : oMet X 2 J_X12_isWay [(.ref 59), (.int p1)] K M (some (.int (oBi v))) K M' := by
  unfold f_X12_isWay at h
  refine oMet_of (L := [some (.ref 59), some (.int p1)]) jJ_X12_isWay.1 rfl (Nat.le_of_ble_eq_true rfl) rfl (Nat.le_refl _) (Nat.le_refl _) ?_
  have hd : 2 ≤ 2 := Nat.le_refl _
  refine oe_iload_n (pc := 0) d_X12_isWay_0 rfl ?_
  refine oe_i2l (pc := 1) d_X12_isWay_1 ?_
  refine oe_lconst (pc := 2) (v := 0) d_X12_isWay_2 rfl ?_
  refine oe_aload_n (pc := 3) d_X12_isWay_3 rfl ?_
  refine oe_getf (pc := 4) d_X12_isWay_4 fl_X12_149 ock12 (k := 7) (Nat.le_of_ble_eq_true rfl) rfl (oLt hK (a := 59) (Nat.le_of_ble_eq_true rfl)) (oSho hK (a := 59) (Nat.le_of_ble_eq_true rfl) rfl) ?_
  refine oe_iconst (pc := 7) (v := 1) d_X12_isWay_7 rfl ?_
  refine oe_isub (pc := 8) d_X12_isWay_8 ?_
  refine oe_i2l (pc := 9) d_X12_isWay_9 ?_
  obtain ⟨v1, M2, q3, h⟩ := oB2_some h
  cases v1 with
  | true =>
    replace h := oCt h
    refine oe_callS (pc := 10) d_X12_isWay_10 (v_X12_within hK  q3) (by omega) ml_X12_145 jJ_X12_within rfl rfl (Nat.le_of_ble_eq_true rfl) ⟨Nat.le_refl _, Nat.le_refl _⟩ ⟨Nat.le_refl _, Nat.le_refl _⟩ ?_
    obtain ⟨rfl, rfl⟩ := oRes h
    exact oe_iret (pc := 13) d_X12_isWay_13 ⟨_, rfl, rfl⟩
  | false =>
    replace h := oCf h
    refine oe_callS (pc := 10) d_X12_isWay_10 (v_X12_within hK  q3) (by omega) ml_X12_145 jJ_X12_within rfl rfl (Nat.le_of_ble_eq_true rfl) ⟨Nat.le_refl _, Nat.le_refl _⟩ ⟨Nat.le_refl _, Nat.le_refl _⟩ ?_
    obtain ⟨rfl, rfl⟩ := oRes h
    exact oe_iret (pc := 13) d_X12_isWay_13 ⟨_, rfl, rfl⟩
theorem d_X12_isBore_0 : decode J_X12_isBore.2.1 0 = .ok (.iload_n 0, 1) := by decide +kernel
theorem d_X12_isBore_1 : decode J_X12_isBore.2.1 1 = .ok (.i2l, 1) := by decide +kernel
theorem d_X12_isBore_2 : decode J_X12_isBore.2.1 2 = .ok (.lconst 0, 1) := by decide +kernel
theorem d_X12_isBore_3 : decode J_X12_isBore.2.1 3 = .ok (.ldc2_w 152, 3) := by decide +kernel
theorem d_X12_isBore_6 : decode J_X12_isBore.2.1 6 = .ok (.invokestatic 145, 3) := by decide +kernel
theorem d_X12_isBore_9 : decode J_X12_isBore.2.1 9 = .ok (.ireturn, 1) := by decide +kernel
def f_X12_isBore (N : Nat) (K : oK) (p0 : Int32) (M : oM) : Option (Bool × oM) :=
  oB2 (f_X12_within N K ((p0 : Int32).toInt64) 0 2 M) (fun v1 M2 => cond v1 (some (true, M2)) (some (false, M2)))
set_option maxRecDepth 20000 in
theorem v_X12_isBore {X : oX} {N : Nat} {K : oK} {p0 : Int32} {M : oM} {v : Bool} {M' : oM} (hK : oSR K)  (h : f_X12_isBore N K p0 M = some (v, M')) : oMet X 2 J_X12_isBore [(.int p0)] K M (some (.int (oBi v))) K M' := by
  unfold f_X12_isBore at h
  refine oMet_of (L := [some (.int p0)]) jJ_X12_isBore.1 rfl (Nat.le_of_ble_eq_true rfl) rfl (Nat.le_refl _) (Nat.le_refl _) ?_
  have hd : 2 ≤ 2 := Nat.le_refl _
  refine oe_iload_n (pc := 0) d_X12_isBore_0 rfl ?_
  refine oe_i2l (pc := 1) d_X12_isBore_1 ?_
  refine oe_lconst (pc := 2) (v := 0) d_X12_isBore_2 rfl ?_
  refine oe_ldc2 (pc := 3) d_X12_isBore_3 co_X12_152 ?_
  obtain ⟨v1, M2, q3, h⟩ := oB2_some h
  cases v1 with
  | true =>
    replace h := oCt h
    refine oe_callS (pc := 6) d_X12_isBore_6 (v_X12_within hK  q3) (by omega) ml_X12_145 jJ_X12_within rfl rfl (Nat.le_of_ble_eq_true rfl) ⟨Nat.le_refl _, Nat.le_refl _⟩ ⟨Nat.le_refl _, Nat.le_refl _⟩ ?_
    obtain ⟨rfl, rfl⟩ := oRes h
    exact oe_iret (pc := 9) d_X12_isBore_9 ⟨_, rfl, rfl⟩
  | false =>
    replace h := oCf h
    refine oe_callS (pc := 6) d_X12_isBore_6 (v_X12_within hK  q3) (by omega) ml_X12_145 jJ_X12_within rfl rfl (Nat.le_of_ble_eq_true rfl) ⟨Nat.le_refl _, Nat.le_refl _⟩ ⟨Nat.le_refl _, Nat.le_refl _⟩ ?_
    obtain ⟨rfl, rfl⟩ := oRes h
    exact oe_iret (pc := 9) d_X12_isBore_9 ⟨_, rfl, rfl⟩
theorem d_X12_isEngine_0 : decode J_X12_isEngine.2.1 0 = .ok (.iload_n 1, 1) := by decide +kernel
theorem d_X12_isEngine_1 : decode J_X12_isEngine.2.1 1 = .ok (.i2l, 1) := by decide +kernel
theorem d_X12_isEngine_2 : decode J_X12_isEngine.2.1 2 = .ok (.lconst 0, 1) := by decide +kernel
theorem d_X12_isEngine_3 : decode J_X12_isEngine.2.1 3 = .ok (.aload_n 0, 1) := by decide +kernel
theorem d_X12_isEngine_4 : decode J_X12_isEngine.2.1 4 = .ok (.getfield 154, 3) := by decide +kernel
theorem d_X12_isEngine_7 : decode J_X12_isEngine.2.1 7 = .ok (.iconst 1, 1) := by decide +kernel
theorem d_X12_isEngine_8 : decode J_X12_isEngine.2.1 8 = .ok (.isub, 1) := by decide +kernel
theorem d_X12_isEngine_9 : decode J_X12_isEngine.2.1 9 = .ok (.i2l, 1) := by decide +kernel
theorem d_X12_isEngine_10 : decode J_X12_isEngine.2.1 10 = .ok (.invokestatic 145, 3) := by decide +kernel
theorem d_X12_isEngine_13 : decode J_X12_isEngine.2.1 13 = .ok (.ireturn, 1) := by decide +kernel
def f_X12_isEngine (N : Nat) (K : oK) (p1 : Int32) (M : oM) : Option (Bool × oM) :=
  oB2 (f_X12_within N K ((p1 : Int32).toInt64) 0 ((((M.1 59 11) - 1) : Int32).toInt64) M) (fun v1 M2 => cond v1 (some (true, M2)) (some (false, M2)))
set_option maxRecDepth 20000 in
theorem v_X12_isEngine {X : oX} {N : Nat} {K : oK} {p1 : Int32} {M : oM} {v : Bool} {M' : oM} (hK : oSR K)  (h : f_X12_isEngine N K p1 M = some (v, M')) : oMet X 2 J_X12_isEngine [(.ref 59), (.int p1)] K M (some (.int (oBi v))) K M' := by
  unfold f_X12_isEngine at h
  refine oMet_of (L := [some (.ref 59), some (.int p1)]) jJ_X12_isEngine.1 rfl (Nat.le_of_ble_eq_true rfl) rfl (Nat.le_refl _) (Nat.le_refl _) ?_
  have hd : 2 ≤ 2 := Nat.le_refl _
  refine oe_iload_n (pc := 0) d_X12_isEngine_0 rfl ?_
  refine oe_i2l (pc := 1) d_X12_isEngine_1 ?_
  refine oe_lconst (pc := 2) (v := 0) d_X12_isEngine_2 rfl ?_
  refine oe_aload_n (pc := 3) d_X12_isEngine_3 rfl ?_
  refine oe_getf (pc := 4) d_X12_isEngine_4 fl_X12_154 ock12 (k := 11) (Nat.le_of_ble_eq_true rfl) rfl (oLt hK (a := 59) (Nat.le_of_ble_eq_true rfl)) (oSho hK (a := 59) (Nat.le_of_ble_eq_true rfl) rfl) ?_
  refine oe_iconst (pc := 7) (v := 1) d_X12_isEngine_7 rfl ?_
  refine oe_isub (pc := 8) d_X12_isEngine_8 ?_
  refine oe_i2l (pc := 9) d_X12_isEngine_9 ?_
  obtain ⟨v1, M2, q3, h⟩ := oB2_some h
  cases v1 with
  | true =>
    replace h := oCt h
    refine oe_callS (pc := 10) d_X12_isEngine_10 (v_X12_within hK  q3) (by omega) ml_X12_145 jJ_X12_within rfl rfl (Nat.le_of_ble_eq_true rfl) ⟨Nat.le_refl _, Nat.le_refl _⟩ ⟨Nat.le_refl _, Nat.le_refl _⟩ ?_
    obtain ⟨rfl, rfl⟩ := oRes h
    exact oe_iret (pc := 13) d_X12_isEngine_13 ⟨_, rfl, rfl⟩
  | false =>
    replace h := oCf h
    refine oe_callS (pc := 10) d_X12_isEngine_10 (v_X12_within hK  q3) (by omega) ml_X12_145 jJ_X12_within rfl rfl (Nat.le_of_ble_eq_true rfl) ⟨Nat.le_refl _, Nat.le_refl _⟩ ⟨Nat.le_refl _, Nat.le_refl _⟩ ?_
    obtain ⟨rfl, rfl⟩ := oRes h
    exact oe_iret (pc := 13) d_X12_isEngine_13 ⟨_, rfl, rfl⟩
theorem d_X12_point_0 : decode J_X12_point.2.1 0 = .ok (.iload_n 1, 1) := by decide +kernel
theorem d_X12_point_1 : decode J_X12_point.2.1 1 = .ok (.i2l, 1) := by decide +kernel
theorem d_X12_point_2 : decode J_X12_point.2.1 2 = .ok (.lconst 0, 1) := by decide +kernel
theorem d_X12_point_3 : decode J_X12_point.2.1 3 = .ok (.ldc2_w 157, 3) := by decide +kernel
theorem d_X12_point_6 : decode J_X12_point.2.1 6 = .ok (.invokestatic 145, 3) := by decide +kernel
theorem d_X12_point_9 : decode J_X12_point.2.1 9 = .ok (.ifCond .ne 5, 3) := by decide +kernel
theorem d_X12_point_12 : decode J_X12_point.2.1 12 = .ok (.iconst (-1), 1) := by decide +kernel
theorem d_X12_point_13 : decode J_X12_point.2.1 13 = .ok (.ireturn, 1) := by decide +kernel
theorem d_X12_point_14 : decode J_X12_point.2.1 14 = .ok (.aload_n 0, 1) := by decide +kernel
theorem d_X12_point_15 : decode J_X12_point.2.1 15 = .ok (.getfield 142, 3) := by decide +kernel
theorem d_X12_point_18 : decode J_X12_point.2.1 18 = .ok (.bipush 12, 2) := by decide +kernel
theorem d_X12_point_20 : decode J_X12_point.2.1 20 = .ok (.if_icmp .ne 6, 3) := by decide +kernel
theorem d_X12_point_23 : decode J_X12_point.2.1 23 = .ok (.bipush (-3), 2) := by decide +kernel
theorem d_X12_point_25 : decode J_X12_point.2.1 25 = .ok (.ireturn, 1) := by decide +kernel
theorem d_X12_point_26 : decode J_X12_point.2.1 26 = .ok (.aload_n 0, 1) := by decide +kernel
theorem d_X12_point_27 : decode J_X12_point.2.1 27 = .ok (.getfield 7, 3) := by decide +kernel
theorem d_X12_point_30 : decode J_X12_point.2.1 30 = .ok (.aload_n 0, 1) := by decide +kernel
theorem d_X12_point_31 : decode J_X12_point.2.1 31 = .ok (.getfield 142, 3) := by decide +kernel
theorem d_X12_point_34 : decode J_X12_point.2.1 34 = .ok (.iload_n 1, 1) := by decide +kernel
theorem d_X12_point_35 : decode J_X12_point.2.1 35 = .ok (.iastore, 1) := by decide +kernel
theorem d_X12_point_36 : decode J_X12_point.2.1 36 = .ok (.aload_n 0, 1) := by decide +kernel
theorem d_X12_point_37 : decode J_X12_point.2.1 37 = .ok (.dup, 1) := by decide +kernel
theorem d_X12_point_38 : decode J_X12_point.2.1 38 = .ok (.getfield 142, 3) := by decide +kernel
theorem d_X12_point_41 : decode J_X12_point.2.1 41 = .ok (.iconst 1, 1) := by decide +kernel
theorem d_X12_point_42 : decode J_X12_point.2.1 42 = .ok (.iadd, 1) := by decide +kernel
theorem d_X12_point_43 : decode J_X12_point.2.1 43 = .ok (.putfield 142, 3) := by decide +kernel
theorem d_X12_point_46 : decode J_X12_point.2.1 46 = .ok (.aload_n 0, 1) := by decide +kernel
theorem d_X12_point_47 : decode J_X12_point.2.1 47 = .ok (.getfield 142, 3) := by decide +kernel
theorem d_X12_point_50 : decode J_X12_point.2.1 50 = .ok (.iconst 1, 1) := by decide +kernel
theorem d_X12_point_51 : decode J_X12_point.2.1 51 = .ok (.isub, 1) := by decide +kernel
theorem d_X12_point_52 : decode J_X12_point.2.1 52 = .ok (.ireturn, 1) := by decide +kernel
def f_X12_point (N : Nat) (K : oK) (p1 : Int32) (M : oM) : Option (Int32 × oM) :=
  oB2 (f_X12_within N K ((p1 : Int32).toInt64) 0 999 M) (fun v1 M2 => cond v1 ((if (M2.1 59 6) = 12 then some ((-3), M2) else oIx ((M2.1 59 6)) 21 (some ((((oUp (oUp M2 60 ((M2.1 59 6) : Int32).toNatClampNeg p1) 59 6 (((oUp M2 60 ((M2.1 59 6) : Int32).toNatClampNeg p1).1 59 6) + 1)).1 59 6) - 1), (oUp (oUp M2 60 ((M2.1 59 6) : Int32).toNatClampNeg p1) 59 6 (((oUp M2 60 ((M2.1 59 6) : Int32).toNatClampNeg p1).1 59 6) + 1)))))) (some ((-1), M2)))
set_option maxRecDepth 20000 in
theorem v_X12_point {X : oX} {N : Nat} {K : oK} {p1 : Int32} {M : oM} {v : Int32} {M' : oM} (hK : oSR K)  (h : f_X12_point N K p1 M = some (v, M')) : oMet X 2 J_X12_point [(.ref 59), (.int p1)] K M (some (.int v)) K M' := by
  unfold f_X12_point at h
  refine oMet_of (L := [some (.ref 59), some (.int p1)]) jJ_X12_point.1 rfl (Nat.le_of_ble_eq_true rfl) rfl (Nat.le_refl _) (Nat.le_refl _) ?_
  have hd : 2 ≤ 2 := Nat.le_refl _
  refine oe_iload_n (pc := 0) d_X12_point_0 rfl ?_
  refine oe_i2l (pc := 1) d_X12_point_1 ?_
  refine oe_lconst (pc := 2) (v := 0) d_X12_point_2 rfl ?_
  refine oe_ldc2 (pc := 3) d_X12_point_3 co_X12_157 ?_
  obtain ⟨v1, M2, q3, h⟩ := oB2_some h
  cases v1 with
  | true =>
    replace h := oCt h
    refine oe_callS (pc := 6) d_X12_point_6 (v_X12_within hK  q3) (by omega) ml_X12_145 jJ_X12_within rfl rfl (Nat.le_of_ble_eq_true rfl) ⟨Nat.le_refl _, Nat.le_refl _⟩ ⟨Nat.le_refl _, Nat.le_refl _⟩ ?_
    refine oe_if_ne (pc := 9) (tgt := 14) d_X12_point_9 (by decide) (fun _ => ?_) (fun c => absurd c (by decide))
    refine oe_aload_n (pc := 14) d_X12_point_14 rfl ?_
    refine oe_getf (pc := 15) d_X12_point_15 fl_X12_142 ock12 (k := 6) (Nat.le_of_ble_eq_true rfl) rfl (oLt hK (a := 59) (Nat.le_of_ble_eq_true rfl)) (oSho hK (a := 59) (Nat.le_of_ble_eq_true rfl) rfl) ?_
    refine oe_bipush (pc := 18) (v := 12) d_X12_point_18 rfl ?_
    refine oe_icmp_ne (pc := 20) (tgt := 26) d_X12_point_20 (by decide) (fun c4 => ?_) (fun c4 => ?_)
    · replace h := (if_neg c4).symm.trans h
      refine oe_aload_n (pc := 26) d_X12_point_26 rfl ?_
      refine oe_getr (pc := 27) d_X12_point_27 fl_X12_7 ock12 (k := 0) (b := 60) (Nat.le_of_ble_eq_true rfl) (by decide) (oLt hK (a := 59) (Nat.le_of_ble_eq_true rfl)) (oSho hK (a := 59) (Nat.le_of_ble_eq_true rfl) rfl) (oRfK hK rfl) ?_
      refine oe_aload_n (pc := 30) d_X12_point_30 rfl ?_
      refine oe_getf (pc := 31) d_X12_point_31 fl_X12_142 ock12 (k := 6) (Nat.le_of_ble_eq_true rfl) rfl (oLt hK (a := 59) (Nat.le_of_ble_eq_true rfl)) (oSho hK (a := 59) (Nat.le_of_ble_eq_true rfl) rfl) ?_
      refine oe_iload_n (pc := 34) d_X12_point_34 rfl ?_
      obtain ⟨i5, h⟩ := oIx_some h
      refine oe_iast (pc := 35) d_X12_point_35 (oLt hK (a := 60) (Nat.le_of_ble_eq_true rfl)) (oSha hK (a := 60) (Nat.le_of_ble_eq_true rfl) rfl) i5 ?_
      refine oe_aload_n (pc := 36) d_X12_point_36 rfl ?_
      refine oe_dup (pc := 37) d_X12_point_37 rfl ?_
      refine oe_getf (pc := 38) d_X12_point_38 fl_X12_142 ock12 (k := 6) (Nat.le_of_ble_eq_true rfl) rfl (oLt hK (a := 59) (Nat.le_of_ble_eq_true rfl)) (oSho hK (a := 59) (Nat.le_of_ble_eq_true rfl) rfl) ?_
      refine oe_iconst (pc := 41) (v := 1) d_X12_point_41 rfl ?_
      refine oe_iadd (pc := 42) d_X12_point_42 ?_
      refine oe_putf (pc := 43) d_X12_point_43 fl_X12_142 ock12 (k := 6) (Nat.le_of_ble_eq_true rfl) rfl rfl (oLt hK (a := 59) (Nat.le_of_ble_eq_true rfl)) (oSho hK (a := 59) (Nat.le_of_ble_eq_true rfl) rfl) ?_
      refine oe_aload_n (pc := 46) d_X12_point_46 rfl ?_
      refine oe_getf (pc := 47) d_X12_point_47 fl_X12_142 ock12 (k := 6) (Nat.le_of_ble_eq_true rfl) rfl (oLt hK (a := 59) (Nat.le_of_ble_eq_true rfl)) (oSho hK (a := 59) (Nat.le_of_ble_eq_true rfl) rfl) ?_
      refine oe_iconst (pc := 50) (v := 1) d_X12_point_50 rfl ?_
      refine oe_isub (pc := 51) d_X12_point_51 ?_
      obtain ⟨rfl, rfl⟩ := oRes h
      exact oe_iret (pc := 52) d_X12_point_52 ⟨_, rfl, rfl⟩
    · replace h := (if_pos c4).symm.trans h
      refine oe_bipush (pc := 23) (v := (-3)) d_X12_point_23 rfl ?_
      obtain ⟨rfl, rfl⟩ := oRes h
      exact oe_iret (pc := 25) d_X12_point_25 ⟨_, rfl, rfl⟩
  | false =>
    replace h := oCf h
    refine oe_callS (pc := 6) d_X12_point_6 (v_X12_within hK  q3) (by omega) ml_X12_145 jJ_X12_within rfl rfl (Nat.le_of_ble_eq_true rfl) ⟨Nat.le_refl _, Nat.le_refl _⟩ ⟨Nat.le_refl _, Nat.le_refl _⟩ ?_
    refine oe_if_ne (pc := 9) (tgt := 14) d_X12_point_9 (by decide) (fun c => absurd (by decide) c) (fun _ => ?_)
    refine oe_iconst (pc := 12) (v := (-1)) d_X12_point_12 rfl ?_
    obtain ⟨rfl, rfl⟩ := oRes h
    exact oe_iret (pc := 13) d_X12_point_13 ⟨_, rfl, rfl⟩
theorem d_X12_height_0 : decode J_X12_height.2.1 0 = .ok (.aload_n 0, 1) := by decide +kernel
theorem d_X12_height_1 : decode J_X12_height.2.1 1 = .ok (.iload_n 1, 1) := by decide +kernel
theorem d_X12_height_2 : decode J_X12_height.2.1 2 = .ok (.invokevirtual 159, 3) := by decide +kernel
theorem d_X12_height_5 : decode J_X12_height.2.1 5 = .ok (.ifCond .eq 24, 3) := by decide +kernel
theorem d_X12_height_8 : decode J_X12_height.2.1 8 = .ok (.iload_n 2, 1) := by decide +kernel
theorem d_X12_height_9 : decode J_X12_height.2.1 9 = .ok (.i2l, 1) := by decide +kernel
theorem d_X12_height_10 : decode J_X12_height.2.1 10 = .ok (.lconst 0, 1) := by decide +kernel
theorem d_X12_height_11 : decode J_X12_height.2.1 11 = .ok (.ldc2_w 157, 3) := by decide +kernel
theorem d_X12_height_14 : decode J_X12_height.2.1 14 = .ok (.invokestatic 145, 3) := by decide +kernel
theorem d_X12_height_17 : decode J_X12_height.2.1 17 = .ok (.ifCond .eq 12, 3) := by decide +kernel
theorem d_X12_height_20 : decode J_X12_height.2.1 20 = .ok (.aload_n 0, 1) := by decide +kernel
theorem d_X12_height_21 : decode J_X12_height.2.1 21 = .ok (.iload_n 1, 1) := by decide +kernel
theorem d_X12_height_22 : decode J_X12_height.2.1 22 = .ok (.iload_n 2, 1) := by decide +kernel
theorem d_X12_height_23 : decode J_X12_height.2.1 23 = .ok (.invokevirtual 163, 3) := by decide +kernel
theorem d_X12_height_26 : decode J_X12_height.2.1 26 = .ok (.goto 4, 3) := by decide +kernel
theorem d_X12_height_29 : decode J_X12_height.2.1 29 = .ok (.iconst (-1), 1) := by decide +kernel
theorem d_X12_height_30 : decode J_X12_height.2.1 30 = .ok (.ireturn, 1) := by decide +kernel
def f_X12_height (N : Nat) (K : oK) (p1 : Int32) (p2 : Int32) (M : oM) : Option (Int32 × oM) :=
  oB2 (f_X12_isPoint N K p1 M) (fun v1 M2 => cond v1 (oB2 (f_X12_within N K ((p2 : Int32).toInt64) 0 999 M2) (fun v4 M5 => cond v4 (oB2 (f_X12_becomes N K p1 p2 M5) (fun v7 M8 => some (v7, M8))) (some ((-1), M5)))) (some ((-1), M2)))
set_option maxRecDepth 20000 in
theorem v_X12_height {X : oX} {N : Nat} {K : oK} {p1 : Int32} {p2 : Int32} {M : oM} {v : Int32} {M' : oM} (hK : oSR K)  (h : f_X12_height N K p1 p2 M = some (v, M')) : oMet X 3 J_X12_height [(.ref 59), (.int p1), (.int p2)] K M (some (.int v)) K M' := by
  unfold f_X12_height at h
  refine oMet_of (L := [some (.ref 59), some (.int p1), some (.int p2)]) jJ_X12_height.1 rfl (Nat.le_of_ble_eq_true rfl) rfl (Nat.le_refl _) (Nat.le_refl _) ?_
  have hd : 3 ≤ 3 := Nat.le_refl _
  refine oe_aload_n (pc := 0) d_X12_height_0 rfl ?_
  refine oe_iload_n (pc := 1) d_X12_height_1 rfl ?_
  obtain ⟨v1, M2, q3, h⟩ := oB2_some h
  cases v1 with
  | true =>
    replace h := oCt h
    refine oe_callV (pc := 2) (ci := 12) d_X12_height_2 (v_X12_isPoint hK  q3) (by omega) ml_X12_159 jJ_X12_isPoint rfl rfl (oLt hK (a := 59) (Nat.le_of_ble_eq_true rfl)) (oSho hK (a := 59) (Nat.le_of_ble_eq_true rfl) rfl) ock12 rfl (Nat.le_of_ble_eq_true rfl) ⟨Nat.le_refl _, Nat.le_refl _⟩ ⟨Nat.le_refl _, Nat.le_refl _⟩ ?_
    refine oe_if_eq (pc := 5) (tgt := 29) d_X12_height_5 (by decide) (fun c => absurd c (by decide)) (fun _ => ?_)
    refine oe_iload_n (pc := 8) d_X12_height_8 rfl ?_
    refine oe_i2l (pc := 9) d_X12_height_9 ?_
    refine oe_lconst (pc := 10) (v := 0) d_X12_height_10 rfl ?_
    refine oe_ldc2 (pc := 11) d_X12_height_11 co_X12_157 ?_
    obtain ⟨v4, M5, q6, h⟩ := oB2_some h
    cases v4 with
    | true =>
      replace h := oCt h
      refine oe_callS (pc := 14) d_X12_height_14 (v_X12_within hK  q6) (by omega) ml_X12_145 jJ_X12_within rfl rfl (Nat.le_of_ble_eq_true rfl) ⟨Nat.le_refl _, Nat.le_refl _⟩ ⟨Nat.le_refl _, Nat.le_refl _⟩ ?_
      refine oe_if_eq (pc := 17) (tgt := 29) d_X12_height_17 (by decide) (fun c => absurd c (by decide)) (fun _ => ?_)
      refine oe_aload_n (pc := 20) d_X12_height_20 rfl ?_
      refine oe_iload_n (pc := 21) d_X12_height_21 rfl ?_
      refine oe_iload_n (pc := 22) d_X12_height_22 rfl ?_
      obtain ⟨v7, M8, q9, h⟩ := oB2_some h
      refine oe_callV (pc := 23) (ci := 12) d_X12_height_23 (v_X12_becomes hK  q9) (by omega) ml_X12_163 jJ_X12_becomes rfl rfl (oLt hK (a := 59) (Nat.le_of_ble_eq_true rfl)) (oSho hK (a := 59) (Nat.le_of_ble_eq_true rfl) rfl) ock12 rfl (Nat.le_of_ble_eq_true rfl) ⟨Nat.le_refl _, Nat.le_refl _⟩ ⟨Nat.le_refl _, Nat.le_refl _⟩ ?_
      refine oe_goto (pc := 26) (tgt := 30) d_X12_height_26 (by decide) ?_
      obtain ⟨rfl, rfl⟩ := oRes h
      exact oe_iret (pc := 30) d_X12_height_30 ⟨_, rfl, rfl⟩
    | false =>
      replace h := oCf h
      refine oe_callS (pc := 14) d_X12_height_14 (v_X12_within hK  q6) (by omega) ml_X12_145 jJ_X12_within rfl rfl (Nat.le_of_ble_eq_true rfl) ⟨Nat.le_refl _, Nat.le_refl _⟩ ⟨Nat.le_refl _, Nat.le_refl _⟩ ?_
      refine oe_if_eq (pc := 17) (tgt := 29) d_X12_height_17 (by decide) (fun _ => ?_) (fun c => absurd (by decide) c)
      refine oe_iconst (pc := 29) (v := (-1)) d_X12_height_29 rfl ?_
      obtain ⟨rfl, rfl⟩ := oRes h
      exact oe_iret (pc := 30) d_X12_height_30 ⟨_, rfl, rfl⟩
  | false =>
    replace h := oCf h
    refine oe_callV (pc := 2) (ci := 12) d_X12_height_2 (v_X12_isPoint hK  q3) (by omega) ml_X12_159 jJ_X12_isPoint rfl rfl (oLt hK (a := 59) (Nat.le_of_ble_eq_true rfl)) (oSho hK (a := 59) (Nat.le_of_ble_eq_true rfl) rfl) ock12 rfl (Nat.le_of_ble_eq_true rfl) ⟨Nat.le_refl _, Nat.le_refl _⟩ ⟨Nat.le_refl _, Nat.le_refl _⟩ ?_
    refine oe_if_eq (pc := 5) (tgt := 29) d_X12_height_5 (by decide) (fun _ => ?_) (fun c => absurd (by decide) c)
    refine oe_iconst (pc := 29) (v := (-1)) d_X12_height_29 rfl ?_
    obtain ⟨rfl, rfl⟩ := oRes h
    exact oe_iret (pc := 30) d_X12_height_30 ⟨_, rfl, rfl⟩
