/-! layings and shelves anew: what changes the cells -/
theorem d_X6_init_0 : decode J_X6_init.2.1 0 = .ok (.aload_n 0, 1) := by decide +kernel
theorem d_X6_init_1 : decode J_X6_init.2.1 1 = .ok (.invokespecial 3, 3) := by decide +kernel
theorem d_X6_init_4 : decode J_X6_init.2.1 4 = .ok (.aload_n 0, 1) := by decide +kernel
theorem d_X6_init_5 : decode J_X6_init.2.1 5 = .ok (.bipush 24, 2) := by decide +kernel
theorem d_X6_init_7 : decode J_X6_init.2.1 7 = .ok (.newarray .int, 2) := by decide +kernel
theorem d_X6_init_9 : decode J_X6_init.2.1 9 = .ok (.putfield 9, 3) := by decide +kernel
theorem d_X6_init_12 : decode J_X6_init.2.1 12 = .ok (.aload_n 0, 1) := by decide +kernel
theorem d_X6_init_13 : decode J_X6_init.2.1 13 = .ok (.bipush 24, 2) := by decide +kernel
theorem d_X6_init_15 : decode J_X6_init.2.1 15 = .ok (.newarray .int, 2) := by decide +kernel
theorem d_X6_init_17 : decode J_X6_init.2.1 17 = .ok (.putfield 15, 3) := by decide +kernel
theorem d_X6_init_20 : decode J_X6_init.2.1 20 = .ok (.aload_n 0, 1) := by decide +kernel
theorem d_X6_init_21 : decode J_X6_init.2.1 21 = .ok (.bipush 24, 2) := by decide +kernel
theorem d_X6_init_23 : decode J_X6_init.2.1 23 = .ok (.newarray .int, 2) := by decide +kernel
theorem d_X6_init_25 : decode J_X6_init.2.1 25 = .ok (.putfield 18, 3) := by decide +kernel
theorem d_X6_init_28 : decode J_X6_init.2.1 28 = .ok (.aload_n 0, 1) := by decide +kernel
theorem d_X6_init_29 : decode J_X6_init.2.1 29 = .ok (.bipush 24, 2) := by decide +kernel
theorem d_X6_init_31 : decode J_X6_init.2.1 31 = .ok (.newarray .int, 2) := by decide +kernel
theorem d_X6_init_33 : decode J_X6_init.2.1 33 = .ok (.putfield 21, 3) := by decide +kernel
theorem d_X6_init_36 : decode J_X6_init.2.1 36 = .ok (.aload_n 0, 1) := by decide +kernel
theorem d_X6_init_37 : decode J_X6_init.2.1 37 = .ok (.iload_n 1, 1) := by decide +kernel
theorem d_X6_init_38 : decode J_X6_init.2.1 38 = .ok (.putfield 24, 3) := by decide +kernel
theorem d_X6_init_41 : decode J_X6_init.2.1 41 = .ok (.aload_n 0, 1) := by decide +kernel
theorem d_X6_init_42 : decode J_X6_init.2.1 42 = .ok (.iload_n 2, 1) := by decide +kernel
theorem d_X6_init_43 : decode J_X6_init.2.1 43 = .ok (.putfield 28, 3) := by decide +kernel
theorem d_X6_init_46 : decode J_X6_init.2.1 46 = .ok (.aload_n 0, 1) := by decide +kernel
theorem d_X6_init_47 : decode J_X6_init.2.1 47 = .ok (.iload_n 3, 1) := by decide +kernel
theorem d_X6_init_48 : decode J_X6_init.2.1 48 = .ok (.putfield 31, 3) := by decide +kernel
theorem d_X6_init_51 : decode J_X6_init.2.1 51 = .ok (.return_, 1) := by decide +kernel
/-- a row of 24 that is made new and kept in a field -/
def inK (K : oK) (a k : Nat) : oK := oUpR (oNewK K 0 24) a k (some K.1)
theorem inK_1 (K : oK) (a k : Nat) : (inK K a k).1 = K.1 + 1 := rfl
theorem inK_2 (K : oK) (a k : Nat) : (inK K a k).2.1 = K.2.1 + 24 := rfl
theorem inK_s (K : oK) (a k b : Nat) : (inK K a k).2.2.1 b = if b = K.1 then (0, 24) else K.2.2.1 b := rfl
theorem inK_r (K : oK) {a : Nat} (ha : a < K.1) (k b j : Nat) : (inK K a k).2.2.2 b j = if b = a ∧ j = k then some K.1 else if b = K.1 then none else K.2.2.2 b j := by
  unfold inK oUpR oNewK va_up
  by_cases c : b = a
  · subst c
    have hne : ¬ b = K.1 := by omega
    by_cases d : j = k
    · simp [d]
    · simp [d, hne]
  · by_cases d : b = K.1
    · subst d
      simp [c]
    · simp [c, d]
def inM (K : oK) (M : oM) (a : Nat) : oM := oNewM (inK (inK (inK K a 3) a 4) a 5) (oNewM (inK (inK K a 3) a 4) (oNewM (inK K a 3) (oNewM K M)))
def inKK (K : oK) (a : Nat) : oK := inK (inK (inK (inK K a 3) a 4) a 5) a 6
theorem v_X6_init {X : oX} {K : oK} {M : oM} {a : Nat} {num kd st : Int32} (ha : a < K.1) (hs : (K.2.2.1 a).1 = 6 + 6) (hn : K.1 + 4 ≤ 1000000) : oMet X 2 J_X6_init [.ref a, .int num, .int kd, .int st] K M none (inKK K a) (oUp (oUp (oUp (inM K M a) a 0 num) a 1 kd) a 2 st) := by
  have s1 : ((inK K a 3).2.2.1 a).1 = 6 + 6 := by rw [inK_s, if_neg (by omega)]; exact hs
  have s2 : ((inK (inK K a 3) a 4).2.2.1 a).1 = 6 + 6 := by rw [inK_s, inK_1, if_neg (by omega)]; exact s1
  have s3 : ((inK (inK (inK K a 3) a 4) a 5).2.2.1 a).1 = 6 + 6 := by rw [inK_s, inK_1, inK_1, if_neg (by omega)]; exact s2
  have s4 : ((inKK K a).2.2.1 a).1 = 6 + 6 := by unfold inKK; rw [inK_s, inK_1, inK_1, inK_1, if_neg (by omega)]; exact s3
  have t0 : ((oNewK K 0 24).2.2.1 a).1 = 6 + 6 := s1
  have e1 : (inKK K a).1 = K.1 + 4 := rfl
  have e2 : (inKK K a).2.1 = K.2.1 + 96 := by show K.2.1 + 24 + 24 + 24 + 24 = _; omega
  refine oMet_of (L := [some (.ref a), some (.int num), some (.int kd), some (.int st)]) jJ_X6_init.1 rfl (Nat.le_of_ble_eq_true rfl) rfl (by omega) (by omega) ?_
  refine oe_aload_n (pc := 0) d_X6_init_0 rfl ?_
  refine oe_obj (pc := 1) d_X6_init_1 mo_X6_3 (by decide) (Nat.le_of_ble_eq_true rfl) ?_
  refine oe_aload_n (pc := 4) d_X6_init_4 rfl ?_
  refine oe_bipush (pc := 5) (v := 24) d_X6_init_5 rfl ?_
  refine oe_newaI (pc := 7) (N := 24) d_X6_init_7 (by decide) rfl (Nat.le_of_ble_eq_true rfl) (by omega) (by omega) (by omega) ?_
  refine oe_putrf (pc := 9) (x := some K.1) d_X6_init_9 fl_X6_9 ock6 (k := 3) (Nat.le_of_ble_eq_true rfl) (by decide) rfl ⟨rfl, fun _ => ⟨rfl, rfl⟩⟩ rfl rfl rfl (show a < K.1 + 1 by omega) s1 ?_
  refine oEv.re (K2 := inK K a 3) (M2 := oNewM K M) (S2 := []) rfl rfl rfl ?_
  refine oe_aload_n (pc := 12) d_X6_init_12 rfl ?_
  refine oe_bipush (pc := 13) (v := 24) d_X6_init_13 rfl ?_
  refine oe_newaI (pc := 15) (N := 24) d_X6_init_15 (by decide) rfl (Nat.le_of_ble_eq_true rfl) (by rw [inK_1]; omega) (by rw [inK_2]; omega) (by rw [inK_1]; omega) ?_
  refine oe_putrf (pc := 17) (x := some (K.1 + 1)) d_X6_init_17 fl_X6_15 ock6 (k := 4) (Nat.le_of_ble_eq_true rfl) (by decide) rfl ⟨rfl, fun _ => ⟨rfl, rfl⟩⟩ rfl rfl rfl (show a < K.1 + 1 + 1 by omega) s2 ?_
  refine oEv.re (K2 := inK (inK K a 3) a 4) (M2 := oNewM (inK K a 3) (oNewM K M)) (S2 := []) rfl rfl rfl ?_
  refine oe_aload_n (pc := 20) d_X6_init_20 rfl ?_
  refine oe_bipush (pc := 21) (v := 24) d_X6_init_21 rfl ?_
  refine oe_newaI (pc := 23) (N := 24) d_X6_init_23 (by decide) rfl (Nat.le_of_ble_eq_true rfl) (by rw [inK_1, inK_1]; omega) (by rw [inK_2, inK_2]; omega) (by rw [inK_1, inK_1]; omega) ?_
  refine oe_putrf (pc := 25) (x := some (K.1 + 1 + 1)) d_X6_init_25 fl_X6_18 ock6 (k := 5) (Nat.le_of_ble_eq_true rfl) (by decide) rfl ⟨rfl, fun _ => ⟨rfl, rfl⟩⟩ rfl rfl rfl (show a < K.1 + 1 + 1 + 1 by omega) s3 ?_
  refine oEv.re (K2 := inK (inK (inK K a 3) a 4) a 5) (M2 := oNewM (inK (inK K a 3) a 4) (oNewM (inK K a 3) (oNewM K M))) (S2 := []) rfl rfl rfl ?_
  refine oe_aload_n (pc := 28) d_X6_init_28 rfl ?_
  refine oe_bipush (pc := 29) (v := 24) d_X6_init_29 rfl ?_
  refine oe_newaI (pc := 31) (N := 24) d_X6_init_31 (by decide) rfl (Nat.le_of_ble_eq_true rfl) (by rw [inK_1, inK_1, inK_1]; omega) (by rw [inK_2, inK_2, inK_2]; omega) (by rw [inK_1, inK_1, inK_1]; omega) ?_
  refine oe_putrf (pc := 33) (x := some (K.1 + 1 + 1 + 1)) d_X6_init_33 fl_X6_21 ock6 (k := 6) (Nat.le_of_ble_eq_true rfl) (by decide) rfl ⟨rfl, fun _ => ⟨rfl, rfl⟩⟩ rfl rfl rfl (show a < K.1 + 1 + 1 + 1 + 1 by omega) s4 ?_
  refine oEv.re (K2 := inKK K a) (M2 := inM K M a) (S2 := []) rfl rfl rfl ?_
  refine oe_aload_n (pc := 36) d_X6_init_36 rfl ?_
  refine oe_iload_n (pc := 37) d_X6_init_37 rfl ?_
  refine oe_putff (pc := 38) (x := num) d_X6_init_38 fl_X6_24 ock6 (k := 0) (Nat.le_of_ble_eq_true rfl) rfl rfl rfl rfl (show a < K.1 + 4 by omega) s4 ?_
  refine oe_aload_n (pc := 41) d_X6_init_41 rfl ?_
  refine oe_iload_n (pc := 42) d_X6_init_42 rfl ?_
  refine oe_putff (pc := 43) (x := kd) d_X6_init_43 fl_X6_28 ock6 (k := 1) (Nat.le_of_ble_eq_true rfl) rfl rfl rfl rfl (show a < K.1 + 4 by omega) s4 ?_
  refine oe_aload_n (pc := 46) d_X6_init_46 rfl ?_
  refine oe_iload_n (pc := 47) d_X6_init_47 rfl ?_
  refine oe_putff (pc := 48) (x := st) d_X6_init_48 fl_X6_31 ock6 (k := 2) (Nat.le_of_ble_eq_true rfl) rfl rfl rfl rfl (show a < K.1 + 4 by omega) s4 ?_
  exact oe_vret (pc := 51) d_X6_init_51 rfl
theorem d_X11_laying_0 : decode J_X11_laying.2.1 0 = .ok (.iload_n 1, 1) := by decide +kernel
theorem d_X11_laying_1 : decode J_X11_laying.2.1 1 = .ok (.invokestatic 138, 3) := by decide +kernel
theorem d_X11_laying_4 : decode J_X11_laying.2.1 4 = .ok (.ifCond .eq 14, 3) := by decide +kernel
theorem d_X11_laying_7 : decode J_X11_laying.2.1 7 = .ok (.aload_n 0, 1) := by decide +kernel
theorem d_X11_laying_8 : decode J_X11_laying.2.1 8 = .ok (.getfield 21, 3) := by decide +kernel
theorem d_X11_laying_11 : decode J_X11_laying.2.1 11 = .ok (.iload_n 2, 1) := by decide +kernel
theorem d_X11_laying_12 : decode J_X11_laying.2.1 12 = .ok (.invokevirtual 97, 3) := by decide +kernel
theorem d_X11_laying_15 : decode J_X11_laying.2.1 15 = .ok (.ifCond .ne 5, 3) := by decide +kernel
theorem d_X11_laying_18 : decode J_X11_laying.2.1 18 = .ok (.iconst (-1), 1) := by decide +kernel
theorem d_X11_laying_19 : decode J_X11_laying.2.1 19 = .ok (.ireturn, 1) := by decide +kernel
theorem d_X11_laying_20 : decode J_X11_laying.2.1 20 = .ok (.aload_n 0, 1) := by decide +kernel
theorem d_X11_laying_21 : decode J_X11_laying.2.1 21 = .ok (.getfield 141, 3) := by decide +kernel
theorem d_X11_laying_24 : decode J_X11_laying.2.1 24 = .ok (.bipush 20, 2) := by decide +kernel
theorem d_X11_laying_26 : decode J_X11_laying.2.1 26 = .ok (.if_icmp .lt 6, 3) := by decide +kernel
theorem d_X11_laying_29 : decode J_X11_laying.2.1 29 = .ok (.bipush (-3), 2) := by decide +kernel
theorem d_X11_laying_31 : decode J_X11_laying.2.1 31 = .ok (.ireturn, 1) := by decide +kernel
theorem d_X11_laying_32 : decode J_X11_laying.2.1 32 = .ok (.aload_n 0, 1) := by decide +kernel
theorem d_X11_laying_33 : decode J_X11_laying.2.1 33 = .ok (.getfield 41, 3) := by decide +kernel
theorem d_X11_laying_36 : decode J_X11_laying.2.1 36 = .ok (.aload_n 0, 1) := by decide +kernel
theorem d_X11_laying_37 : decode J_X11_laying.2.1 37 = .ok (.getfield 141, 3) := by decide +kernel
theorem d_X11_laying_40 : decode J_X11_laying.2.1 40 = .ok (.new 39, 3) := by decide +kernel
theorem d_X11_laying_43 : decode J_X11_laying.2.1 43 = .ok (.dup, 1) := by decide +kernel
theorem d_X11_laying_44 : decode J_X11_laying.2.1 44 = .ok (.aload_n 0, 1) := by decide +kernel
theorem d_X11_laying_45 : decode J_X11_laying.2.1 45 = .ok (.getfield 141, 3) := by decide +kernel
theorem d_X11_laying_48 : decode J_X11_laying.2.1 48 = .ok (.iload_n 1, 1) := by decide +kernel
theorem d_X11_laying_49 : decode J_X11_laying.2.1 49 = .ok (.iload_n 2, 1) := by decide +kernel
theorem d_X11_laying_50 : decode J_X11_laying.2.1 50 = .ok (.invokespecial 145, 3) := by decide +kernel
theorem d_X11_laying_53 : decode J_X11_laying.2.1 53 = .ok (.aastore, 1) := by decide +kernel
theorem d_X11_laying_54 : decode J_X11_laying.2.1 54 = .ok (.aload_n 0, 1) := by decide +kernel
theorem d_X11_laying_55 : decode J_X11_laying.2.1 55 = .ok (.dup, 1) := by decide +kernel
theorem d_X11_laying_56 : decode J_X11_laying.2.1 56 = .ok (.getfield 141, 3) := by decide +kernel
theorem d_X11_laying_59 : decode J_X11_laying.2.1 59 = .ok (.dup_x1, 1) := by decide +kernel
theorem d_X11_laying_60 : decode J_X11_laying.2.1 60 = .ok (.iconst 1, 1) := by decide +kernel
theorem d_X11_laying_61 : decode J_X11_laying.2.1 61 = .ok (.iadd, 1) := by decide +kernel
theorem d_X11_laying_62 : decode J_X11_laying.2.1 62 = .ok (.putfield 141, 3) := by decide +kernel
theorem d_X11_laying_65 : decode J_X11_laying.2.1 65 = .ok (.ireturn, 1) := by decide +kernel
theorem v_X11_laying_no {X : oX} {N : Nat} {K : oK} {M : oM} (hK : oSR K) {k p r : Int32} (h : (¬ ((0 ≤ k.toInt ∧ k.toInt ≤ 5) ∧ 0 ≤ p.toInt ∧ p.toInt < (M.1 6 5).toInt) ∧ r = -1) ∨ (((0 ≤ k.toInt ∧ k.toInt ≤ 5) ∧ 0 ≤ p.toInt ∧ p.toInt < (M.1 6 5).toInt) ∧ 20 ≤ (M.1 0 11).toInt ∧ r = -3)) : oMet X 4 J_X11_laying [.ref 0, .int k, .int p] K M (some (.int r)) K M := by
  refine oMet_of (L := [some (.ref 0), some (.int k), some (.int p)]) jJ_X11_laying.1 rfl (Nat.le_of_ble_eq_true rfl) rfl (Nat.le_refl _) (Nat.le_refl _) ?_
  refine oe_iload_n (pc := 0) d_X11_laying_0 rfl ?_
  by_cases ck : 0 ≤ k.toInt ∧ k.toInt ≤ 5
  · refine oe_callS (pc := 1) d_X11_laying_1 (v_X11_isKind (N := N) hK (v := true) (M' := M) (by rw [isKi11, decide_eq_true ck])) (by decide) ml_X11_138 jJ_X11_isKind rfl rfl (Nat.le_of_ble_eq_true rfl) ⟨Nat.le_refl _, Nat.le_refl _⟩ ⟨Nat.le_refl _, Nat.le_refl _⟩ ?_
    refine oe_if_eq (pc := 4) (tgt := 18) d_X11_laying_4 (by decide) (fun z => absurd z (by decide)) (fun _ => ?_)
    refine oe_aload_n (pc := 7) d_X11_laying_7 rfl ?_
    refine oe_getr (pc := 8) d_X11_laying_8 fl_X11_21 ock11 (k := 1) (b := 6) (Nat.le_of_ble_eq_true rfl) (by decide) (oLt hK (a := 0) (Nat.le_of_ble_eq_true rfl)) (oSho hK (a := 0) (Nat.le_of_ble_eq_true rfl) rfl) (oRfK hK (a := 0) (k := 1) rfl) ?_
    refine oe_iload_n (pc := 11) d_X11_laying_11 rfl ?_
    by_cases cp : 0 ≤ p.toInt ∧ p.toInt < (M.1 6 5).toInt
    · obtain ⟨h20, rfl⟩ : 20 ≤ (M.1 0 11).toInt ∧ r = -3 := by
        rcases h with ⟨h, -⟩ | ⟨-, h⟩
        · exact absurd ⟨ck, cp⟩ h
        · exact h
      refine oe_callV (pc := 12) (ci := 4) d_X11_laying_12 (v_X4_isPoint (N := N) hK (v := true) (M' := M) (by rw [isPt4, decide_eq_true cp])) (by decide) ml_X11_97 jJ_X4_isPoint rfl rfl (oLt hK (a := 6) (Nat.le_of_ble_eq_true rfl)) (oSho hK (a := 6) (Nat.le_of_ble_eq_true rfl) rfl) ock4 rfl (Nat.le_of_ble_eq_true rfl) ⟨Nat.le_refl _, Nat.le_refl _⟩ ⟨Nat.le_refl _, Nat.le_refl _⟩ ?_
      refine oe_if_ne (pc := 15) (tgt := 20) d_X11_laying_15 (by decide) (fun _ => ?_) (fun z => absurd z (by decide))
      refine oe_aload_n (pc := 20) d_X11_laying_20 rfl ?_
      refine oe_getf (pc := 21) d_X11_laying_21 fl_X11_141 ock11 (k := 11) (Nat.le_of_ble_eq_true rfl) rfl (oLt hK (a := 0) (Nat.le_of_ble_eq_true rfl)) (oSho hK (a := 0) (Nat.le_of_ble_eq_true rfl) rfl) ?_
      refine oe_bipush (pc := 24) (v := 20) d_X11_laying_24 rfl ?_
      refine oe_icmp_lt (pc := 26) (tgt := 32) d_X11_laying_26 (by decide) (fun z => absurd z (by rw [oLtI, tl_20]; omega)) (fun _ => ?_)
      refine oe_bipush (pc := 29) (v := -3) d_X11_laying_29 rfl ?_
      exact oe_iret (pc := 31) d_X11_laying_31 ⟨_, rfl, rfl⟩
    · obtain rfl : r = -1 := by
        rcases h with ⟨-, h⟩ | ⟨h, -⟩
        · exact h
        · exact absurd h.2 cp
      refine oe_callV (pc := 12) (ci := 4) d_X11_laying_12 (v_X4_isPoint (N := N) hK (v := false) (M' := M) (by rw [isPt4, decide_eq_false cp])) (by decide) ml_X11_97 jJ_X4_isPoint rfl rfl (oLt hK (a := 6) (Nat.le_of_ble_eq_true rfl)) (oSho hK (a := 6) (Nat.le_of_ble_eq_true rfl) rfl) ock4 rfl (Nat.le_of_ble_eq_true rfl) ⟨Nat.le_refl _, Nat.le_refl _⟩ ⟨Nat.le_refl _, Nat.le_refl _⟩ ?_
      refine oe_if_ne (pc := 15) (tgt := 20) d_X11_laying_15 (by decide) (fun z => absurd rfl z) (fun _ => ?_)
      refine oe_iconst (pc := 18) (v := -1) d_X11_laying_18 rfl ?_
      exact oe_iret (pc := 19) d_X11_laying_19 ⟨_, rfl, rfl⟩
  · obtain rfl : r = -1 := by
      rcases h with ⟨-, h⟩ | ⟨h, -⟩
      · exact h
      · exact absurd h.1 ck
    refine oe_callS (pc := 1) d_X11_laying_1 (v_X11_isKind (N := N) hK (v := false) (M' := M) (by rw [isKi11, decide_eq_false ck])) (by decide) ml_X11_138 jJ_X11_isKind rfl rfl (Nat.le_of_ble_eq_true rfl) ⟨Nat.le_refl _, Nat.le_refl _⟩ ⟨Nat.le_refl _, Nat.le_refl _⟩ ?_
    refine oe_if_eq (pc := 4) (tgt := 18) d_X11_laying_4 (by decide) (fun _ => ?_) (fun z => absurd rfl z)
    refine oe_iconst (pc := 18) (v := -1) d_X11_laying_18 rfl ?_
    exact oe_iret (pc := 19) d_X11_laying_19 ⟨_, rfl, rfl⟩
/-- the cells, and the ints, behind a new laying -/
def lyK (K : oK) (l : Nat) : oK := oUpR (inKK (oNewK K (6 + 6) (oNn 6)) K.1) 20 l (some K.1)
def lyM (K : oK) (M : oM) (num k p : Int32) : oM := oUp (oUp (oUp (oUp (inM (oNewK K (6 + 6) (oNn 6)) (oNewM K M) K.1) K.1 0 num) K.1 1 k) K.1 2 p) 0 11 (num + 1)
theorem v_X11_laying_ok {X : oX} {N : Nat} {K : oK} {M : oM} (hK : oSR K) {k p : Int32} (ck : 0 ≤ k.toInt ∧ k.toInt ≤ 5) (cp : 0 ≤ p.toInt ∧ p.toInt < (M.1 6 5).toInt) (c0 : 0 ≤ (M.1 0 11).toInt) (h20 : (M.1 0 11).toInt < 20) (hn : K.1 + 5 ≤ 1000000) : oMet X 4 J_X11_laying [.ref 0, .int k, .int p] K M (some (.int (M.1 0 11))) (lyK K (M.1 0 11).toNatClampNeg) (lyM K M (M.1 0 11) k p) := by
  have h101 := hK.1.1
  have e8 : oNn 6 = 8 := by decide
  have z1 : (lyK K (M.1 0 11).toNatClampNeg).1 = K.1 + 5 := rfl
  have z2 : (lyK K (M.1 0 11).toNatClampNeg).2.1 = K.2.1 + 104 := by show K.2.1 + oNn 6 + 24 + 24 + 24 + 24 = _; omega
  have y1 : (inKK (oNewK K (6 + 6) (oNn 6)) K.1).1 = K.1 + 5 := rfl
  have y2 : (inKK (oNewK K (6 + 6) (oNn 6)) K.1).2.1 = K.2.1 + 104 := z2
  have q1 : (oNewK K (6 + 6) (oNn 6)).1 = K.1 + 1 := rfl
  have q2 : (oNewK K (6 + 6) (oNn 6)).2.1 = K.2.1 + 8 := by show K.2.1 + oNn 6 = _; omega
  -- what the cells are, ahead of the call
  have qs : ∀ b, (oNewK K (6 + 6) (oNn 6)).2.2.1 b = if b = K.1 then (6 + 6, oNn 6) else K.2.2.1 b := fun b => rfl
  have ys : ∀ b, b < K.1 + 1 → (inKK (oNewK K (6 + 6) (oNn 6)) K.1).2.2.1 b = (oNewK K (6 + 6) (oNn 6)).2.2.1 b := by
    intro b hb
    unfold inKK
    rw [inK_s, inK_s, inK_s, inK_s, inK_1, inK_1, inK_1, q1, if_neg (by omega), if_neg (by omega), if_neg (by omega), if_neg (by omega)]
  refine oMet_of (L := [some (.ref 0), some (.int k), some (.int p)]) jJ_X11_laying.1 rfl (Nat.le_of_ble_eq_true rfl) rfl (by omega) (by omega) ?_
  refine oe_iload_n (pc := 0) d_X11_laying_0 rfl ?_
  refine oe_callS (pc := 1) d_X11_laying_1 (v_X11_isKind (N := N) hK (v := true) (M' := M) (by rw [isKi11, decide_eq_true ck])) (by decide) ml_X11_138 jJ_X11_isKind rfl rfl (Nat.le_of_ble_eq_true rfl) ⟨Nat.le_refl _, by omega⟩ ⟨Nat.le_refl _, by omega⟩ ?_
  refine oe_if_eq (pc := 4) (tgt := 18) d_X11_laying_4 (by decide) (fun z => absurd z (by decide)) (fun _ => ?_)
  refine oe_aload_n (pc := 7) d_X11_laying_7 rfl ?_
  refine oe_getr (pc := 8) d_X11_laying_8 fl_X11_21 ock11 (k := 1) (b := 6) (Nat.le_of_ble_eq_true rfl) (by decide) (oLt hK (a := 0) (Nat.le_of_ble_eq_true rfl)) (oSho hK (a := 0) (Nat.le_of_ble_eq_true rfl) rfl) (oRfK hK (a := 0) (k := 1) rfl) ?_
  refine oe_iload_n (pc := 11) d_X11_laying_11 rfl ?_
  refine oe_callV (pc := 12) (ci := 4) d_X11_laying_12 (v_X4_isPoint (N := N) hK (v := true) (M' := M) (by rw [isPt4, decide_eq_true cp])) (by decide) ml_X11_97 jJ_X4_isPoint rfl rfl (oLt hK (a := 6) (Nat.le_of_ble_eq_true rfl)) (oSho hK (a := 6) (Nat.le_of_ble_eq_true rfl) rfl) ock4 rfl (Nat.le_of_ble_eq_true rfl) ⟨Nat.le_refl _, by omega⟩ ⟨Nat.le_refl _, by omega⟩ ?_
  refine oe_if_ne (pc := 15) (tgt := 20) d_X11_laying_15 (by decide) (fun _ => ?_) (fun z => absurd z (by decide))
  refine oe_aload_n (pc := 20) d_X11_laying_20 rfl ?_
  refine oe_getf (pc := 21) d_X11_laying_21 fl_X11_141 ock11 (k := 11) (Nat.le_of_ble_eq_true rfl) rfl (oLt hK (a := 0) (Nat.le_of_ble_eq_true rfl)) (oSho hK (a := 0) (Nat.le_of_ble_eq_true rfl) rfl) ?_
  refine oe_bipush (pc := 24) (v := 20) d_X11_laying_24 rfl ?_
  refine oe_icmp_lt (pc := 26) (tgt := 32) d_X11_laying_26 (by decide) (fun _ => ?_) (fun z => absurd (by rw [oLtI, tl_20]; omega) z)
  refine oe_aload_n (pc := 32) d_X11_laying_32 rfl ?_
  refine oe_getr (pc := 33) d_X11_laying_33 fl_X11_41 ock11 (k := 4) (b := 20) (Nat.le_of_ble_eq_true rfl) (by decide) (oLt hK (a := 0) (Nat.le_of_ble_eq_true rfl)) (oSho hK (a := 0) (Nat.le_of_ble_eq_true rfl) rfl) (oRfK hK (a := 0) (k := 4) rfl) ?_
  refine oe_aload_n (pc := 36) d_X11_laying_36 rfl ?_
  refine oe_getf (pc := 37) d_X11_laying_37 fl_X11_141 ock11 (k := 11) (Nat.le_of_ble_eq_true rfl) rfl (oLt hK (a := 0) (Nat.le_of_ble_eq_true rfl)) (oSho hK (a := 0) (Nat.le_of_ble_eq_true rfl) rfl) ?_
  refine oe_new (pc := 40) (ci := 6) d_X11_laying_40 cl_X11_39 ock6 oins6 oini6 (by decide) (by omega) (by omega) (by omega) ?_
  refine oe_dup (pc := 43) d_X11_laying_43 rfl ?_
  refine oe_aload_n (pc := 44) d_X11_laying_44 rfl ?_
  have m0 : (oNewM K M).1 0 = M.1 0 := by unfold oNewM; dsimp only; rw [if_neg (by omega)]
  have s0 : ((oNewK K (6 + 6) (oNn 6)).2.2.1 0).1 = 11 + 6 := by rw [qs, if_neg (by omega)]; exact oSho hK (a := 0) (Nat.le_of_ble_eq_true rfl) rfl
  refine oe_getf (pc := 45) d_X11_laying_45 fl_X11_141 ock11 (k := 11) (Nat.le_of_ble_eq_true rfl) rfl (by omega) s0 ?_
  rw [m0]
  refine oe_iload_n (pc := 48) d_X11_laying_48 rfl ?_
  refine oe_iload_n (pc := 49) d_X11_laying_49 rfl ?_
  refine oe_callI (pc := 50) d_X11_laying_50 (v_X6_init (K := oNewK K (6 + 6) (oNn 6)) (M := oNewM K M) (a := K.1) (num := M.1 0 11) (kd := k) (st := p) (by omega) (by rw [qs, if_pos rfl]) (by omega)) (by decide) ml_X11_145 jJ_X6_init rfl rfl (Nat.le_of_ble_eq_true rfl) ⟨by omega, by omega⟩ ⟨by omega, by omega⟩ ?_
  have s20 : (inKK (oNewK K (6 + 6) (oNn 6)) K.1).2.2.1 20 = (4, 20) := by rw [ys _ (by omega), qs, if_neg (by omega)]; exact oSha hK (a := 20) (Nat.le_of_ble_eq_true rfl) rfl
  have sc : ((inKK (oNewK K (6 + 6) (oNn 6)) K.1).2.2.1 K.1).1 = 6 + 6 := by rw [ys _ (by omega), qs, if_pos rfl]
  have s0' : ((inKK (oNewK K (6 + 6) (oNn 6)) K.1).2.2.1 0).1 = 11 + 6 := by rw [ys _ (by omega)]; exact s0
  refine oe_aast4 (pc := 53) (n := 20) d_X11_laying_53 (by omega) s20 (fun z => by
    rcases z with z | z
    · rw [oLtI, tl_0] at z; omega
    · rw [oTnn] at z; omega) (by omega) sc ?_
  refine oe_aload_n (pc := 54) d_X11_laying_54 rfl ?_
  refine oe_dup (pc := 55) d_X11_laying_55 rfl ?_
  have m0' : (oUp (oUp (oUp (inM (oNewK K (6 + 6) (oNn 6)) (oNewM K M) K.1) K.1 0 (M.1 0 11)) K.1 1 k) K.1 2 p).1 0 = M.1 0 := by
    rw [oUp_ro _ _ _ _ (by omega), oUp_ro _ _ _ _ (by omega), oUp_ro _ _ _ _ (by omega)]
    unfold inM oNewM
    dsimp only
    rw [inK_1, inK_1, inK_1, q1, if_neg (by omega), if_neg (by omega), if_neg (by omega), if_neg (by omega), if_neg (by omega)]
  refine oe_getf (pc := 56) d_X11_laying_56 fl_X11_141 ock11 (k := 11) (Nat.le_of_ble_eq_true rfl) rfl (show 0 < K.1 + 5 by omega) s0' ?_
  rw [m0']
  refine oe_dup_x1 (pc := 59) d_X11_laying_59 rfl rfl ?_
  refine oe_iconst (pc := 60) (v := 1) d_X11_laying_60 rfl ?_
  refine oe_iadd (pc := 61) d_X11_laying_61 ?_
  refine oe_putf (pc := 62) d_X11_laying_62 fl_X11_141 ock11 (k := 11) (Nat.le_of_ble_eq_true rfl) rfl rfl (show 0 < K.1 + 5 by omega) s0' ?_
  exact oe_iret (pc := 65) d_X11_laying_65 ⟨_, rfl, rfl⟩
