/-! shelves: keep, row, as the machine does them -/
theorem d_X11_keep_0 : decode J_X11_keep.2.1 0 = .ok (.aload_n 0, 1) := by decide +kernel
theorem d_X11_keep_1 : decode J_X11_keep.2.1 1 = .ok (.iload_n 1, 1) := by decide +kernel
theorem d_X11_keep_2 : decode J_X11_keep.2.1 2 = .ok (.invokevirtual 156, 3) := by decide +kernel
theorem d_X11_keep_5 : decode J_X11_keep.2.1 5 = .ok (.astore_n 3, 1) := by decide +kernel
theorem d_X11_keep_6 : decode J_X11_keep.2.1 6 = .ok (.aload_n 0, 1) := by decide +kernel
theorem d_X11_keep_7 : decode J_X11_keep.2.1 7 = .ok (.iload_n 2, 1) := by decide +kernel
theorem d_X11_keep_8 : decode J_X11_keep.2.1 8 = .ok (.invokevirtual 148, 3) := by decide +kernel
theorem d_X11_keep_11 : decode J_X11_keep.2.1 11 = .ok (.astore 4, 2) := by decide +kernel
theorem d_X11_keep_13 : decode J_X11_keep.2.1 13 = .ok (.aload_n 3, 1) := by decide +kernel
theorem d_X11_keep_14 : decode J_X11_keep.2.1 14 = .ok (.ifnull 13, 3) := by decide +kernel
theorem d_X11_keep_17 : decode J_X11_keep.2.1 17 = .ok (.aload 4, 2) := by decide +kernel
theorem d_X11_keep_19 : decode J_X11_keep.2.1 19 = .ok (.ifnonnull 10, 3) := by decide +kernel
theorem d_X11_keep_22 : decode J_X11_keep.2.1 22 = .ok (.iload_n 2, 1) := by decide +kernel
theorem d_X11_keep_23 : decode J_X11_keep.2.1 23 = .ok (.iconst (-1), 1) := by decide +kernel
theorem d_X11_keep_24 : decode J_X11_keep.2.1 24 = .ok (.if_icmp .eq 5, 3) := by decide +kernel
theorem d_X11_keep_27 : decode J_X11_keep.2.1 27 = .ok (.iconst (-1), 1) := by decide +kernel
theorem d_X11_keep_28 : decode J_X11_keep.2.1 28 = .ok (.ireturn, 1) := by decide +kernel
theorem d_X11_keep_29 : decode J_X11_keep.2.1 29 = .ok (.aload_n 3, 1) := by decide +kernel
theorem d_X11_keep_30 : decode J_X11_keep.2.1 30 = .ok (.aload 4, 2) := by decide +kernel
theorem d_X11_keep_32 : decode J_X11_keep.2.1 32 = .ok (.ifnonnull 7, 3) := by decide +kernel
theorem d_X11_keep_35 : decode J_X11_keep.2.1 35 = .ok (.iconst 0, 1) := by decide +kernel
theorem d_X11_keep_36 : decode J_X11_keep.2.1 36 = .ok (.goto 4, 3) := by decide +kernel
theorem d_X11_keep_39 : decode J_X11_keep.2.1 39 = .ok (.iconst 1, 1) := by decide +kernel
theorem d_X11_keep_40 : decode J_X11_keep.2.1 40 = .ok (.putfield 160, 3) := by decide +kernel
theorem d_X11_keep_43 : decode J_X11_keep.2.1 43 = .ok (.aload_n 3, 1) := by decide +kernel
theorem d_X11_keep_44 : decode J_X11_keep.2.1 44 = .ok (.aload 4, 2) := by decide +kernel
theorem d_X11_keep_46 : decode J_X11_keep.2.1 46 = .ok (.putfield 312, 3) := by decide +kernel
theorem d_X11_keep_49 : decode J_X11_keep.2.1 49 = .ok (.iconst 1, 1) := by decide +kernel
theorem d_X11_keep_50 : decode J_X11_keep.2.1 50 = .ok (.ireturn, 1) := by decide +kernel
theorem d_X11_row_0 : decode J_X11_row.2.1 0 = .ok (.aload_n 0, 1) := by decide +kernel
theorem d_X11_row_1 : decode J_X11_row.2.1 1 = .ok (.iload_n 1, 1) := by decide +kernel
theorem d_X11_row_2 : decode J_X11_row.2.1 2 = .ok (.invokevirtual 156, 3) := by decide +kernel
theorem d_X11_row_5 : decode J_X11_row.2.1 5 = .ok (.astore 4, 2) := by decide +kernel
theorem d_X11_row_7 : decode J_X11_row.2.1 7 = .ok (.aload 4, 2) := by decide +kernel
theorem d_X11_row_9 : decode J_X11_row.2.1 9 = .ok (.ifnull 18, 3) := by decide +kernel
theorem d_X11_row_12 : decode J_X11_row.2.1 12 = .ok (.iload_n 2, 1) := by decide +kernel
theorem d_X11_row_13 : decode J_X11_row.2.1 13 = .ok (.iconst 0, 1) := by decide +kernel
theorem d_X11_row_14 : decode J_X11_row.2.1 14 = .ok (.iconst 4, 1) := by decide +kernel
theorem d_X11_row_15 : decode J_X11_row.2.1 15 = .ok (.invokestatic 89, 3) := by decide +kernel
theorem d_X11_row_18 : decode J_X11_row.2.1 18 = .ok (.ifCond .eq 9, 3) := by decide +kernel
theorem d_X11_row_21 : decode J_X11_row.2.1 21 = .ok (.iload_n 3, 1) := by decide +kernel
theorem d_X11_row_22 : decode J_X11_row.2.1 22 = .ok (.bipush 60, 2) := by decide +kernel
theorem d_X11_row_24 : decode J_X11_row.2.1 24 = .ok (.if_icmp .le 5, 3) := by decide +kernel
theorem d_X11_row_27 : decode J_X11_row.2.1 27 = .ok (.iconst (-1), 1) := by decide +kernel
theorem d_X11_row_28 : decode J_X11_row.2.1 28 = .ok (.ireturn, 1) := by decide +kernel
theorem d_X11_row_29 : decode J_X11_row.2.1 29 = .ok (.iload_n 3, 1) := by decide +kernel
theorem d_X11_row_30 : decode J_X11_row.2.1 30 = .ok (.ifCond .ge 6, 3) := by decide +kernel
theorem d_X11_row_33 : decode J_X11_row.2.1 33 = .ok (.bipush (-14), 2) := by decide +kernel
theorem d_X11_row_35 : decode J_X11_row.2.1 35 = .ok (.ireturn, 1) := by decide +kernel
theorem d_X11_row_36 : decode J_X11_row.2.1 36 = .ok (.aload 4, 2) := by decide +kernel
theorem d_X11_row_38 : decode J_X11_row.2.1 38 = .ok (.iload_n 2, 1) := by decide +kernel
theorem d_X11_row_39 : decode J_X11_row.2.1 39 = .ok (.iload_n 3, 1) := by decide +kernel
theorem d_X11_row_40 : decode J_X11_row.2.1 40 = .ok (.invokevirtual 316, 3) := by decide +kernel
theorem d_X11_row_43 : decode J_X11_row.2.1 43 = .ok (.iconst 1, 1) := by decide +kernel
theorem d_X11_row_44 : decode J_X11_row.2.1 44 = .ok (.ireturn, 1) := by decide +kernel
theorem d_X9_holdRow_0 : decode J_X9_holdRow.2.1 0 = .ok (.aload_n 0, 1) := by decide +kernel
theorem d_X9_holdRow_1 : decode J_X9_holdRow.2.1 1 = .ok (.iconst 2, 1) := by decide +kernel
theorem d_X9_holdRow_2 : decode J_X9_holdRow.2.1 2 = .ok (.putfield 15, 3) := by decide +kernel
theorem d_X9_holdRow_5 : decode J_X9_holdRow.2.1 5 = .ok (.aload_n 0, 1) := by decide +kernel
theorem d_X9_holdRow_6 : decode J_X9_holdRow.2.1 6 = .ok (.aconst_null, 1) := by decide +kernel
theorem d_X9_holdRow_7 : decode J_X9_holdRow.2.1 7 = .ok (.putfield 19, 3) := by decide +kernel
theorem d_X9_holdRow_10 : decode J_X9_holdRow.2.1 10 = .ok (.aload_n 0, 1) := by decide +kernel
theorem d_X9_holdRow_11 : decode J_X9_holdRow.2.1 11 = .ok (.iload_n 1, 1) := by decide +kernel
theorem d_X9_holdRow_12 : decode J_X9_holdRow.2.1 12 = .ok (.putfield 23, 3) := by decide +kernel
theorem d_X9_holdRow_15 : decode J_X9_holdRow.2.1 15 = .ok (.aload_n 0, 1) := by decide +kernel
theorem d_X9_holdRow_16 : decode J_X9_holdRow.2.1 16 = .ok (.iconst 0, 1) := by decide +kernel
theorem d_X9_holdRow_17 : decode J_X9_holdRow.2.1 17 = .ok (.iload_n 2, 1) := by decide +kernel
theorem d_X9_holdRow_18 : decode J_X9_holdRow.2.1 18 = .ok (.bipush 60, 2) := by decide +kernel
theorem d_X9_holdRow_20 : decode J_X9_holdRow.2.1 20 = .ok (.invokestatic 26, 3) := by decide +kernel
theorem d_X9_holdRow_23 : decode J_X9_holdRow.2.1 23 = .ok (.invokestatic 32, 3) := by decide +kernel
theorem d_X9_holdRow_26 : decode J_X9_holdRow.2.1 26 = .ok (.putfield 35, 3) := by decide +kernel
theorem d_X9_holdRow_29 : decode J_X9_holdRow.2.1 29 = .ok (.iconst 0, 1) := by decide +kernel
theorem d_X9_holdRow_30 : decode J_X9_holdRow.2.1 30 = .ok (.istore_n 3, 1) := by decide +kernel
theorem d_X9_holdRow_31 : decode J_X9_holdRow.2.1 31 = .ok (.iload_n 3, 1) := by decide +kernel
theorem d_X9_holdRow_32 : decode J_X9_holdRow.2.1 32 = .ok (.aload_n 0, 1) := by decide +kernel
theorem d_X9_holdRow_33 : decode J_X9_holdRow.2.1 33 = .ok (.getfield 35, 3) := by decide +kernel
theorem d_X9_holdRow_36 : decode J_X9_holdRow.2.1 36 = .ok (.if_icmp .ge 16, 3) := by decide +kernel
theorem d_X9_holdRow_39 : decode J_X9_holdRow.2.1 39 = .ok (.aload_n 0, 1) := by decide +kernel
theorem d_X9_holdRow_40 : decode J_X9_holdRow.2.1 40 = .ok (.getfield 9, 3) := by decide +kernel
theorem d_X9_holdRow_43 : decode J_X9_holdRow.2.1 43 = .ok (.iload_n 3, 1) := by decide +kernel
theorem d_X9_holdRow_44 : decode J_X9_holdRow.2.1 44 = .ok (.lconst 0, 1) := by decide +kernel
theorem d_X9_holdRow_45 : decode J_X9_holdRow.2.1 45 = .ok (.lastore, 1) := by decide +kernel
theorem d_X9_holdRow_46 : decode J_X9_holdRow.2.1 46 = .ok (.iinc 3 1, 3) := by decide +kernel
theorem d_X9_holdRow_49 : decode J_X9_holdRow.2.1 49 = .ok (.goto (-18), 3) := by decide +kernel
theorem d_X9_holdRow_52 : decode J_X9_holdRow.2.1 52 = .ok (.return_, 1) := by decide +kernel

theorem v_X11_keep_no {X : oX} {N : Nat} {K : oK} {M : oM} (hK : oSR K) (hl : iLay K M) {a w : Int32} (h : ¬ ((0 ≤ a.toInt ∧ a.toInt ≤ 5) ∧ ((0 ≤ w.toInt ∧ w.toInt < (M.1 0 11).toInt) ∨ w = -1))) : oMet X 4 J_X11_keep [.ref 0, .int a, .int w] K M (some (.int (-1))) K M := by
  refine oMet_of (L := [some (.ref 0), some (.int a), some (.int w), none, none]) jJ_X11_keep.1 rfl (Nat.le_of_ble_eq_true rfl) rfl (Nat.le_refl _) (Nat.le_refl _) ?_
  refine oe_aload_n (pc := 0) d_X11_keep_0 rfl ?_
  refine oe_iload_n (pc := 1) d_X11_keep_1 rfl ?_
  have h0 := oLt hK (a := 0) (Nat.le_of_ble_eq_true rfl)
  have h0s := oSho hK (a := 0) (Nat.le_of_ble_eq_true rfl) (t := 11 + 6) rfl
  have la := lyAt (N := N) hl w
  by_cases ca : 0 ≤ a.toInt ∧ a.toInt ≤ 5
  · have cw : ¬ (0 ≤ w.toInt ∧ w.toInt < (M.1 0 11).toInt) := fun z => h ⟨ca, Or.inl z⟩
    have cw2 : ¬ w = -1 := fun z => h ⟨ca, Or.inr z⟩
    rw [if_neg cw] at la
    refine oe_callV (pc := 2) (ci := 11) d_X11_keep_2 (v_X11_shelfAt (N := N) hK (v := some (47 + 2 * a.toNatClampNeg)) (M' := M) (by rw [shAt, if_pos ca])) (by decide) ml_X11_156 jJ_X11_shelfAt rfl rfl h0 h0s ock11 rfl (Nat.le_of_ble_eq_true rfl) ⟨Nat.le_refl _, Nat.le_refl _⟩ ⟨Nat.le_refl _, Nat.le_refl _⟩ ?_
    refine oe_astore_n (pc := 5) (x := 47 + 2 * a.toNatClampNeg) (L2 := [_, _, _, _, _]) d_X11_keep_5 rfl rfl (Nat.le_of_ble_eq_true rfl) rfl ?_
    refine oe_aload_n (pc := 6) d_X11_keep_6 rfl ?_
    refine oe_iload_n (pc := 7) d_X11_keep_7 rfl ?_
    refine oe_callV (pc := 8) (ci := 11) d_X11_keep_8 (v_X11_layingAt (N := N) hK (v := none) (M' := M) la) (by decide) ml_X11_148 jJ_X11_layingAt rfl rfl h0 h0s ock11 rfl (Nat.le_of_ble_eq_true rfl) ⟨Nat.le_refl _, Nat.le_refl _⟩ ⟨Nat.le_refl _, Nat.le_refl _⟩ ?_
    refine oe_astoreN (pc := 11) (L2 := [_, _, _, _, _]) d_X11_keep_11 rfl (Nat.le_of_ble_eq_true rfl) rfl ?_
    refine oe_aload_n (pc := 13) d_X11_keep_13 rfl ?_
    refine oe_ifnull (pc := 14) d_X11_keep_14 ?_
    refine oe_aloadN (pc := 17) d_X11_keep_17 rfl ?_
    refine oe_ifnonnullN (pc := 19) d_X11_keep_19 ?_
    refine oe_iload_n (pc := 22) d_X11_keep_22 rfl ?_
    refine oe_iconst (pc := 23) (v := -1) d_X11_keep_23 rfl ?_
    refine oe_icmp_eq (pc := 24) (tgt := 29) d_X11_keep_24 (by decide) (fun z => absurd z cw2) (fun _ => ?_)
    refine oe_iconst (pc := 27) (v := -1) d_X11_keep_27 rfl ?_
    exact oe_iret (pc := 28) d_X11_keep_28 ⟨_, rfl, rfl⟩
  · refine oe_callV (pc := 2) (ci := 11) d_X11_keep_2 (v_X11_shelfAt (N := N) hK (v := none) (M' := M) (by rw [shAt, if_neg ca])) (by decide) ml_X11_156 jJ_X11_shelfAt rfl rfl h0 h0s ock11 rfl (Nat.le_of_ble_eq_true rfl) ⟨Nat.le_refl _, Nat.le_refl _⟩ ⟨Nat.le_refl _, Nat.le_refl _⟩ ?_
    refine oe_astore_nN (pc := 5) (L2 := [_, _, _, _, _]) d_X11_keep_5 rfl rfl (Nat.le_of_ble_eq_true rfl) rfl ?_
    refine oe_aload_n (pc := 6) d_X11_keep_6 rfl ?_
    refine oe_iload_n (pc := 7) d_X11_keep_7 rfl ?_
    by_cases cw : 0 ≤ w.toInt ∧ w.toInt < (M.1 0 11).toInt
    · rw [if_pos cw] at la
      refine oe_callV (pc := 8) (ci := 11) d_X11_keep_8 (v_X11_layingAt (N := N) hK (M' := M) la) (by decide) ml_X11_148 jJ_X11_layingAt rfl rfl h0 h0s ock11 rfl (Nat.le_of_ble_eq_true rfl) ⟨Nat.le_refl _, Nat.le_refl _⟩ ⟨Nat.le_refl _, Nat.le_refl _⟩ ?_
      refine oe_astore (pc := 11) (x := oLy w.toNatClampNeg) (L2 := [_, _, _, _, _]) d_X11_keep_11 rfl (Nat.le_of_ble_eq_true rfl) rfl ?_
      refine oe_aload_nN (pc := 13) d_X11_keep_13 rfl ?_
      refine oe_ifnullN (pc := 14) (tgt := 27) d_X11_keep_14 (by decide) ?_
      refine oe_iconst (pc := 27) (v := -1) d_X11_keep_27 rfl ?_
      exact oe_iret (pc := 28) d_X11_keep_28 ⟨_, rfl, rfl⟩
    · rw [if_neg cw] at la
      refine oe_callV (pc := 8) (ci := 11) d_X11_keep_8 (v_X11_layingAt (N := N) hK (v := none) (M' := M) la) (by decide) ml_X11_148 jJ_X11_layingAt rfl rfl h0 h0s ock11 rfl (Nat.le_of_ble_eq_true rfl) ⟨Nat.le_refl _, Nat.le_refl _⟩ ⟨Nat.le_refl _, Nat.le_refl _⟩ ?_
      refine oe_astoreN (pc := 11) (L2 := [_, _, _, _, _]) d_X11_keep_11 rfl (Nat.le_of_ble_eq_true rfl) rfl ?_
      refine oe_aload_nN (pc := 13) d_X11_keep_13 rfl ?_
      refine oe_ifnullN (pc := 14) (tgt := 27) d_X11_keep_14 (by decide) ?_
      refine oe_iconst (pc := 27) (v := -1) d_X11_keep_27 rfl ?_
      exact oe_iret (pc := 28) d_X11_keep_28 ⟨_, rfl, rfl⟩
theorem v_X11_keep_ly {X : oX} {N : Nat} {K : oK} {M : oM} (hK : oSR K) (hl : iLay K M) {a w : Int32} (ca : 0 ≤ a.toInt ∧ a.toInt ≤ 5) (cw : 0 ≤ w.toInt ∧ w.toInt < (M.1 0 11).toInt) : oMet X 4 J_X11_keep [.ref 0, .int a, .int w] K M (some (.int 1)) (oUpR K (47 + 2 * a.toNatClampNeg) 2 (some (oLy w.toNatClampNeg))) (oUp M (47 + 2 * a.toNatClampNeg) 1 1) := by
  have h0 := oLt hK (a := 0) (Nat.le_of_ble_eq_true rfl)
  have h0s := oSho hK (a := 0) (Nat.le_of_ble_eq_true rfl) (t := 11 + 6) rfl
  have la := lyAt (N := N) hl w
  rw [if_pos cw] at la
  have na : a.toNatClampNeg = a.toInt.toNat := rfl
  have hss := (hK.2.2.2.2 a.toNatClampNeg (by omega)).2
  have hsa : 47 + 2 * a.toNatClampNeg < K.1 := by have := hss.1; omega
  have hso := oSSo hss
  refine oMet_of (L := [some (.ref 0), some (.int a), some (.int w), none, none]) jJ_X11_keep.1 rfl (Nat.le_of_ble_eq_true rfl) rfl (Nat.le_refl _) (Nat.le_refl _) ?_
  refine oe_aload_n (pc := 0) d_X11_keep_0 rfl ?_
  refine oe_iload_n (pc := 1) d_X11_keep_1 rfl ?_
  refine oe_callV (pc := 2) (ci := 11) d_X11_keep_2 (v_X11_shelfAt (N := N) hK (v := some (47 + 2 * a.toNatClampNeg)) (M' := M) (by rw [shAt, if_pos ca])) (by decide) ml_X11_156 jJ_X11_shelfAt rfl rfl h0 h0s ock11 rfl (Nat.le_of_ble_eq_true rfl) ⟨Nat.le_refl _, Nat.le_refl _⟩ ⟨Nat.le_refl _, Nat.le_refl _⟩ ?_
  refine oe_astore_n (pc := 5) (x := 47 + 2 * a.toNatClampNeg) (L2 := [_, _, _, _, _]) d_X11_keep_5 rfl rfl (Nat.le_of_ble_eq_true rfl) rfl ?_
  refine oe_aload_n (pc := 6) d_X11_keep_6 rfl ?_
  refine oe_iload_n (pc := 7) d_X11_keep_7 rfl ?_
  refine oe_callV (pc := 8) (ci := 11) d_X11_keep_8 (v_X11_layingAt (N := N) hK (M' := M) la) (by decide) ml_X11_148 jJ_X11_layingAt rfl rfl h0 h0s ock11 rfl (Nat.le_of_ble_eq_true rfl) ⟨Nat.le_refl _, Nat.le_refl _⟩ ⟨Nat.le_refl _, Nat.le_refl _⟩ ?_
  refine oe_astore (pc := 11) (x := oLy w.toNatClampNeg) (L2 := [_, _, _, _, _]) d_X11_keep_11 rfl (Nat.le_of_ble_eq_true rfl) rfl ?_
  refine oe_aload_n (pc := 13) d_X11_keep_13 rfl ?_
  refine oe_ifnull (pc := 14) d_X11_keep_14 ?_
  refine oe_aload (pc := 17) d_X11_keep_17 rfl ?_
  refine oe_ifnonnull (pc := 19) (tgt := 29) d_X11_keep_19 (by decide) ?_
  refine oe_aload_n (pc := 29) d_X11_keep_29 rfl ?_
  refine oe_aload (pc := 30) d_X11_keep_30 rfl ?_
  refine oe_ifnonnull (pc := 32) (tgt := 39) d_X11_keep_32 (by decide) ?_
  refine oe_iconst (pc := 39) (v := 1) d_X11_keep_39 rfl ?_
  refine oe_putf (pc := 40) d_X11_keep_40 fl_X11_160 ock9 (k := 1) (Nat.le_of_ble_eq_true rfl) rfl rfl hsa hso ?_
  refine oe_aload_n (pc := 43) d_X11_keep_43 rfl ?_
  refine oe_aload (pc := 44) d_X11_keep_44 rfl ?_
  refine oe_putr (pc := 46) (x := some (oLy w.toNatClampNeg)) d_X11_keep_46 fl_X11_312 ock9 (k := 2) (Nat.le_of_ble_eq_true rfl) (by decide) rfl ⟨rfl, fun _ => ⟨rfl, rfl⟩⟩ rfl hsa hso ?_
  refine oe_iconst (pc := 49) (v := 1) d_X11_keep_49 rfl ?_
  exact oe_iret (pc := 50) d_X11_keep_50 ⟨_, rfl, rfl⟩
theorem v_X11_keep_nil {X : oX} {N : Nat} {K : oK} {M : oM} (hK : oSR K) (hl : iLay K M) {a : Int32} (ca : 0 ≤ a.toInt ∧ a.toInt ≤ 5) : oMet X 4 J_X11_keep [.ref 0, .int a, .int (-1)] K M (some (.int 1)) (oUpR K (47 + 2 * a.toNatClampNeg) 2 none) (oUp M (47 + 2 * a.toNatClampNeg) 1 0) := by
  have h0 := oLt hK (a := 0) (Nat.le_of_ble_eq_true rfl)
  have h0s := oSho hK (a := 0) (Nat.le_of_ble_eq_true rfl) (t := 11 + 6) rfl
  have la := lyAt (N := N) hl (-1)
  rw [if_neg (by rw [tl_m1]; omega)] at la
  have na : a.toNatClampNeg = a.toInt.toNat := rfl
  have hss := (hK.2.2.2.2 a.toNatClampNeg (by omega)).2
  have hsa : 47 + 2 * a.toNatClampNeg < K.1 := by have := hss.1; omega
  have hso := oSSo hss
  refine oMet_of (L := [some (.ref 0), some (.int a), some (.int (-1)), none, none]) jJ_X11_keep.1 rfl (Nat.le_of_ble_eq_true rfl) rfl (Nat.le_refl _) (Nat.le_refl _) ?_
  refine oe_aload_n (pc := 0) d_X11_keep_0 rfl ?_
  refine oe_iload_n (pc := 1) d_X11_keep_1 rfl ?_
  refine oe_callV (pc := 2) (ci := 11) d_X11_keep_2 (v_X11_shelfAt (N := N) hK (v := some (47 + 2 * a.toNatClampNeg)) (M' := M) (by rw [shAt, if_pos ca])) (by decide) ml_X11_156 jJ_X11_shelfAt rfl rfl h0 h0s ock11 rfl (Nat.le_of_ble_eq_true rfl) ⟨Nat.le_refl _, Nat.le_refl _⟩ ⟨Nat.le_refl _, Nat.le_refl _⟩ ?_
  refine oe_astore_n (pc := 5) (x := 47 + 2 * a.toNatClampNeg) (L2 := [_, _, _, _, _]) d_X11_keep_5 rfl rfl (Nat.le_of_ble_eq_true rfl) rfl ?_
  refine oe_aload_n (pc := 6) d_X11_keep_6 rfl ?_
  refine oe_iload_n (pc := 7) d_X11_keep_7 rfl ?_
  refine oe_callV (pc := 8) (ci := 11) d_X11_keep_8 (v_X11_layingAt (N := N) hK (v := none) (M' := M) la) (by decide) ml_X11_148 jJ_X11_layingAt rfl rfl h0 h0s ock11 rfl (Nat.le_of_ble_eq_true rfl) ⟨Nat.le_refl _, Nat.le_refl _⟩ ⟨Nat.le_refl _, Nat.le_refl _⟩ ?_
  refine oe_astoreN (pc := 11) (L2 := [_, _, _, _, _]) d_X11_keep_11 rfl (Nat.le_of_ble_eq_true rfl) rfl ?_
  refine oe_aload_n (pc := 13) d_X11_keep_13 rfl ?_
  refine oe_ifnull (pc := 14) d_X11_keep_14 ?_
  refine oe_aloadN (pc := 17) d_X11_keep_17 rfl ?_
  refine oe_ifnonnullN (pc := 19) d_X11_keep_19 ?_
  refine oe_iload_n (pc := 22) d_X11_keep_22 rfl ?_
  refine oe_iconst (pc := 23) (v := -1) d_X11_keep_23 rfl ?_
  refine oe_icmp_eq (pc := 24) (tgt := 29) d_X11_keep_24 (by decide) (fun _ => ?_) (fun z => absurd rfl z)
  refine oe_aload_n (pc := 29) d_X11_keep_29 rfl ?_
  refine oe_aloadN (pc := 30) d_X11_keep_30 rfl ?_
  refine oe_ifnonnullN (pc := 32) d_X11_keep_32 ?_
  refine oe_iconst (pc := 35) (v := 0) d_X11_keep_35 rfl ?_
  refine oe_goto (pc := 36) (tgt := 40) d_X11_keep_36 (by decide) ?_
  refine oe_putf (pc := 40) d_X11_keep_40 fl_X11_160 ock9 (k := 1) (Nat.le_of_ble_eq_true rfl) rfl rfl hsa hso ?_
  refine oe_aload_n (pc := 43) d_X11_keep_43 rfl ?_
  refine oe_aloadN (pc := 44) d_X11_keep_44 rfl ?_
  refine oe_putr (pc := 46) (x := none) d_X11_keep_46 fl_X11_312 ock9 (k := 2) (Nat.le_of_ble_eq_true rfl) (by decide) rfl ⟨rfl, fun _ => ⟨rfl, rfl⟩⟩ rfl hsa hso ?_
  refine oe_iconst (pc := 49) (v := 1) d_X11_keep_49 rfl ?_
  exact oe_iret (pc := 50) d_X11_keep_50 ⟨_, rfl, rfl⟩
/-- the elements below a place become 0 -/
def zrL (M : oM) (r : Nat) : Nat → oM
  | 0 => M
  | n + 1 => oUpL (zrL M r n) r n 0
theorem zrL_1 (M : oM) (r n : Nat) : (zrL M r n).1 = M.1 := by
  induction n with
  | zero => rfl
  | succ n ih => rw [zrL, oUpL_1, ih]
theorem zrL_2 (M : oM) (r n b j : Nat) : (zrL M r n).2 b j = if b = r ∧ j < n then 0 else M.2 b j := by
  induction n with
  | zero => rw [if_neg (by omega)]; rfl
  | succ n ih =>
    rw [zrL, oUpL_at, ih]
    by_cases c : b = r ∧ j = n
    · rw [if_pos c, if_pos (by omega)]
    · rw [if_neg c]
      by_cases d : b = r ∧ j < n
      · rw [if_pos d, if_pos (by omega)]
      · rw [if_neg d, if_neg (by omega)]
def rwM (M : oM) (h : Nat) (s n : Int32) : oM := zrL (oUp (oUp (oUp M h 1 2) h 3 s) h 4 n) (h + 1) n.toNatClampNeg
theorem v_X9_holdRow {X : oX} {K : oK} {M : oM} {h : Nat} (hss : oSS K h) {s n : Int32} (n0 : 0 ≤ n.toInt) (n1 : n.toInt ≤ 60) : oMet X 2 J_X9_holdRow [.ref h, .int s, .int n] K M none (oUpR K h 2 none) (rwM M h s n) := by
  have hb := hss.1
  have hsa : h < K.1 := by omega
  have hso := oSSo hss
  refine oMet_of (L := [some (.ref h), some (.int s), some (.int n), none]) jJ_X9_holdRow.1 rfl (Nat.le_of_ble_eq_true rfl) rfl (Nat.le_refl _) (Nat.le_refl _) ?_
  refine oe_aload_n (pc := 0) d_X9_holdRow_0 rfl ?_
  refine oe_iconst (pc := 1) (v := 2) d_X9_holdRow_1 rfl ?_
  refine oe_putf (pc := 2) d_X9_holdRow_2 fl_X9_15 ock9 (k := 1) (Nat.le_of_ble_eq_true rfl) rfl rfl hsa hso ?_
  refine oe_aload_n (pc := 5) d_X9_holdRow_5 rfl ?_
  refine oe_null (pc := 6) d_X9_holdRow_6 ?_
  refine oe_putr (pc := 7) (x := none) d_X9_holdRow_7 fl_X9_19 ock9 (k := 2) (Nat.le_of_ble_eq_true rfl) (by decide) rfl ⟨rfl, fun _ => ⟨rfl, rfl⟩⟩ rfl hsa hso ?_
  have hso' : ((oUpR K h 2 none).2.2.1 h).1 = 9 + 6 := hso
  refine oe_aload_n (pc := 10) d_X9_holdRow_10 rfl ?_
  refine oe_iload_n (pc := 11) d_X9_holdRow_11 rfl ?_
  refine oe_putf (pc := 12) d_X9_holdRow_12 fl_X9_23 ock9 (k := 3) (Nat.le_of_ble_eq_true rfl) rfl rfl hsa hso' ?_
  refine oe_aload_n (pc := 15) d_X9_holdRow_15 rfl ?_
  refine oe_iconst (pc := 16) (v := 0) d_X9_holdRow_16 rfl ?_
  refine oe_iload_n (pc := 17) d_X9_holdRow_17 rfl ?_
  refine oe_bipush (pc := 18) (v := 60) d_X9_holdRow_18 rfl ?_
  refine oe_mmin (pc := 20) d_X9_holdRow_20 mm_X9_26 (by decide) (Nat.le_of_ble_eq_true rfl) ?_
  refine oe_mmax (pc := 23) d_X9_holdRow_23 mm_X9_32 (by decide) (Nat.le_of_ble_eq_true rfl) ?_
  have e60 : (if (60 : Int32) < n then (60 : Int32) else n) = n := by rw [if_neg (by rw [oLtI, tl_60]; omega)]
  have e0 : (if (0 : Int32) < n then n else 0) = n := by
    by_cases c : 0 < n.toInt
    · rw [if_pos (by rw [oLtI, tl_0]; exact c)]
    · rw [if_neg (by rw [oLtI, tl_0]; exact c), oEqI, tl_0]; omega
  rw [e60, e0]
  refine oe_putf (pc := 26) d_X9_holdRow_26 fl_X9_35 ock9 (k := 4) (Nat.le_of_ble_eq_true rfl) rfl rfl hsa hso' ?_
  refine oe_iconst (pc := 29) (v := 0) d_X9_holdRow_29 rfl ?_
  refine oe_istore_n (pc := 30) (L2 := [_, _, _, _]) d_X9_holdRow_30 rfl rfl (Nat.le_of_ble_eq_true rfl) rfl ?_
  unfold rwM
  generalize hM0 : oUp (oUp (oUp M h 1 2) h 3 s) h 4 n = M0
  have h4 : M0.1 h 4 = n := by rw [← hM0, oUp_at, if_pos ⟨rfl, rfl⟩]
  have nn : n.toNatClampNeg = n.toInt.toNat := rfl
  have loop : ∀ (f k : Nat), k ≤ n.toNatClampNeg → n.toNatClampNeg < k + f → oEv X 2 J_X9_holdRow 31 [some (.ref h), some (.int s), some (.int n), some (.int (nI k))] [] (oUpR K h 2 none) (zrL M0 (h + 1) k) none (oUpR K h 2 none) (zrL M0 (h + 1) n.toNatClampNeg) := by
    intro f
    induction f with
    | zero => intro k g1 g2; omega
    | succ f ih =>
      intro k g1 g2
      have ek : (nI k).toInt = k := nI_toInt (by omega)
      have er : (zrL M0 (h + 1) k).1 h 4 = n := by rw [zrL_1]; exact h4
      refine oe_iload_n (pc := 31) d_X9_holdRow_31 rfl ?_
      refine oe_aload_n (pc := 32) d_X9_holdRow_32 rfl ?_
      refine oe_getf (pc := 33) d_X9_holdRow_33 fl_X9_35 ock9 (k := 4) (Nat.le_of_ble_eq_true rfl) rfl hsa hso' ?_
      rw [er]
      by_cases c : k = n.toNatClampNeg
      · refine oe_icmp_ge (pc := 36) (tgt := 52) d_X9_holdRow_36 (by decide) (fun _ => ?_) (fun z => absurd (by rw [oLeI, ek]; omega) z)
        rw [c]
        exact oe_vret (pc := 52) d_X9_holdRow_52 rfl
      · refine oe_icmp_ge (pc := 36) (tgt := 52) d_X9_holdRow_36 (by decide) (fun z => absurd z (by rw [oLeI, ek]; omega)) (fun _ => ?_)
        refine oe_aload_n (pc := 39) d_X9_holdRow_39 rfl ?_
        refine oe_getr (pc := 40) d_X9_holdRow_40 fl_X9_9 ock9 (k := 0) (b := h + 1) (Nat.le_of_ble_eq_true rfl) (by decide) hsa hso' (by
          show (if h = h then va_up (K.2.2.2 h) 2 none else K.2.2.2 h) 0 = some (h + 1)
          rw [if_pos rfl]
          exact oSSf hss) ?_
        refine oe_iload_n (pc := 43) d_X9_holdRow_43 rfl ?_
        refine oe_lconst (pc := 44) (v := 0) d_X9_holdRow_44 rfl ?_
        refine oe_last (pc := 45) (n := 60) d_X9_holdRow_45 (show h + 1 < K.1 by omega) (show (oUpR K h 2 none).2.2.1 (h + 1) = (3, 60) from hss.2.2.1) (fun z => by
          rcases z with z | z
          · rw [oLtI, tl_0, ek] at z; omega
          · rw [nI_n (by omega)] at z; omega) ?_
        rw [nI_n (by omega)]
        refine oe_iinc (pc := 46) (v := nI (k + 1)) (L2 := [_, _, _, _]) d_X9_holdRow_46 rfl (nI_1 k) rfl (Nat.le_of_ble_eq_true rfl) rfl ?_
        refine oe_goto (pc := 49) (tgt := 31) d_X9_holdRow_49 (by decide) ?_
        exact ih (k + 1) (by omega) (by omega)
  exact loop (n.toNatClampNeg + 1) 0 (by omega) (by omega)
theorem v_X11_row_no {X : oX} {N : Nat} {K : oK} {M : oM} (hK : oSR K) {a s n r : Int32} (h : (¬ ((0 ≤ a.toInt ∧ a.toInt ≤ 5) ∧ (0 ≤ s.toInt ∧ s.toInt ≤ 4) ∧ n.toInt ≤ 60) ∧ r = -1) ∨ (((0 ≤ a.toInt ∧ a.toInt ≤ 5) ∧ (0 ≤ s.toInt ∧ s.toInt ≤ 4) ∧ n.toInt ≤ 60) ∧ n.toInt < 0 ∧ r = -14)) : oMet X 4 J_X11_row [.ref 0, .int a, .int s, .int n] K M (some (.int r)) K M := by
  have h0 := oLt hK (a := 0) (Nat.le_of_ble_eq_true rfl)
  have h0s := oSho hK (a := 0) (Nat.le_of_ble_eq_true rfl) (t := 11 + 6) rfl
  refine oMet_of (L := [some (.ref 0), some (.int a), some (.int s), some (.int n), none]) jJ_X11_row.1 rfl (Nat.le_of_ble_eq_true rfl) rfl (Nat.le_refl _) (Nat.le_refl _) ?_
  refine oe_aload_n (pc := 0) d_X11_row_0 rfl ?_
  refine oe_iload_n (pc := 1) d_X11_row_1 rfl ?_
  by_cases ca : 0 ≤ a.toInt ∧ a.toInt ≤ 5
  · refine oe_callV (pc := 2) (ci := 11) d_X11_row_2 (v_X11_shelfAt (N := N) hK (v := some (47 + 2 * a.toNatClampNeg)) (M' := M) (by rw [shAt, if_pos ca])) (by decide) ml_X11_156 jJ_X11_shelfAt rfl rfl h0 h0s ock11 rfl (Nat.le_of_ble_eq_true rfl) ⟨Nat.le_refl _, Nat.le_refl _⟩ ⟨Nat.le_refl _, Nat.le_refl _⟩ ?_
    refine oe_astore (pc := 5) (x := 47 + 2 * a.toNatClampNeg) (L2 := [_, _, _, _, _]) d_X11_row_5 rfl (Nat.le_of_ble_eq_true rfl) rfl ?_
    refine oe_aload (pc := 7) d_X11_row_7 rfl ?_
    refine oe_ifnull (pc := 9) d_X11_row_9 ?_
    refine oe_iload_n (pc := 12) d_X11_row_12 rfl ?_
    refine oe_iconst (pc := 13) (v := 0) d_X11_row_13 rfl ?_
    refine oe_iconst (pc := 14) (v := 4) d_X11_row_14 rfl ?_
    by_cases cs : 0 ≤ s.toInt ∧ s.toInt ≤ 4
    · refine oe_callS (pc := 15) d_X11_row_15 (v_X11_within (N := N) hK (v := true) (M' := M) (by rw [w11, tl_0, tl_4, decide_eq_true cs])) (by decide) ml_X11_89 jJ_X11_within rfl rfl (Nat.le_of_ble_eq_true rfl) ⟨Nat.le_refl _, Nat.le_refl _⟩ ⟨Nat.le_refl _, Nat.le_refl _⟩ ?_
      refine oe_if_eq (pc := 18) (tgt := 27) d_X11_row_18 (by decide) (fun z => absurd z (by decide)) (fun _ => ?_)
      refine oe_iload_n (pc := 21) d_X11_row_21 rfl ?_
      refine oe_bipush (pc := 22) (v := 60) d_X11_row_22 rfl ?_
      by_cases cn : n.toInt ≤ 60
      · obtain ⟨hn, rfl⟩ : n.toInt < 0 ∧ r = -14 := by
          rcases h with ⟨h, -⟩ | ⟨-, h⟩
          · exact absurd ⟨ca, cs, cn⟩ h
          · exact h
        refine oe_icmp_le (pc := 24) (tgt := 29) d_X11_row_24 (by decide) (fun _ => ?_) (fun z => absurd (by rw [oLeI, tl_60]; omega) z)
        refine oe_iload_n (pc := 29) d_X11_row_29 rfl ?_
        refine oe_if_ge (pc := 30) (tgt := 36) d_X11_row_30 (by decide) (fun z => absurd z (by rw [oLeI, tl_0]; omega)) (fun _ => ?_)
        refine oe_bipush (pc := 33) (v := -14) d_X11_row_33 rfl ?_
        exact oe_iret (pc := 35) d_X11_row_35 ⟨_, rfl, rfl⟩
      · obtain rfl : r = -1 := by
          rcases h with ⟨-, h⟩ | ⟨h, -⟩
          · exact h
          · exact absurd h.2.2 cn
        refine oe_icmp_le (pc := 24) (tgt := 29) d_X11_row_24 (by decide) (fun z => absurd z (by rw [oLeI, tl_60]; omega)) (fun _ => ?_)
        refine oe_iconst (pc := 27) (v := -1) d_X11_row_27 rfl ?_
        exact oe_iret (pc := 28) d_X11_row_28 ⟨_, rfl, rfl⟩
    · obtain rfl : r = -1 := by
        rcases h with ⟨-, h⟩ | ⟨h, -⟩
        · exact h
        · exact absurd h.2.1 cs
      refine oe_callS (pc := 15) d_X11_row_15 (v_X11_within (N := N) hK (v := false) (M' := M) (by rw [w11, tl_0, tl_4, decide_eq_false cs])) (by decide) ml_X11_89 jJ_X11_within rfl rfl (Nat.le_of_ble_eq_true rfl) ⟨Nat.le_refl _, Nat.le_refl _⟩ ⟨Nat.le_refl _, Nat.le_refl _⟩ ?_
      refine oe_if_eq (pc := 18) (tgt := 27) d_X11_row_18 (by decide) (fun _ => ?_) (fun z => absurd rfl z)
      refine oe_iconst (pc := 27) (v := -1) d_X11_row_27 rfl ?_
      exact oe_iret (pc := 28) d_X11_row_28 ⟨_, rfl, rfl⟩
  · obtain rfl : r = -1 := by
      rcases h with ⟨-, h⟩ | ⟨h, -⟩
      · exact h
      · exact absurd h.1 ca
    refine oe_callV (pc := 2) (ci := 11) d_X11_row_2 (v_X11_shelfAt (N := N) hK (v := none) (M' := M) (by rw [shAt, if_neg ca])) (by decide) ml_X11_156 jJ_X11_shelfAt rfl rfl h0 h0s ock11 rfl (Nat.le_of_ble_eq_true rfl) ⟨Nat.le_refl _, Nat.le_refl _⟩ ⟨Nat.le_refl _, Nat.le_refl _⟩ ?_
    refine oe_astoreN (pc := 5) (L2 := [_, _, _, _, _]) d_X11_row_5 rfl (Nat.le_of_ble_eq_true rfl) rfl ?_
    refine oe_aloadN (pc := 7) d_X11_row_7 rfl ?_
    refine oe_ifnullN (pc := 9) (tgt := 27) d_X11_row_9 (by decide) ?_
    refine oe_iconst (pc := 27) (v := -1) d_X11_row_27 rfl ?_
    exact oe_iret (pc := 28) d_X11_row_28 ⟨_, rfl, rfl⟩
theorem v_X11_row_ok {X : oX} {N : Nat} {K : oK} {M : oM} (hK : oSR K) {a s n : Int32} (ca : 0 ≤ a.toInt ∧ a.toInt ≤ 5) (cs : 0 ≤ s.toInt ∧ s.toInt ≤ 4) (n0 : 0 ≤ n.toInt) (n1 : n.toInt ≤ 60) : oMet X 4 J_X11_row [.ref 0, .int a, .int s, .int n] K M (some (.int 1)) (oUpR K (47 + 2 * a.toNatClampNeg) 2 none) (rwM M (47 + 2 * a.toNatClampNeg) s n) := by
  have h0 := oLt hK (a := 0) (Nat.le_of_ble_eq_true rfl)
  have h0s := oSho hK (a := 0) (Nat.le_of_ble_eq_true rfl) (t := 11 + 6) rfl
  have na : a.toNatClampNeg = a.toInt.toNat := rfl
  have hss := (hK.2.2.2.2 a.toNatClampNeg (by omega)).2
  have hsa : 47 + 2 * a.toNatClampNeg < K.1 := by have := hss.1; omega
  refine oMet_of (L := [some (.ref 0), some (.int a), some (.int s), some (.int n), none]) jJ_X11_row.1 rfl (Nat.le_of_ble_eq_true rfl) rfl (Nat.le_refl _) (Nat.le_refl _) ?_
  refine oe_aload_n (pc := 0) d_X11_row_0 rfl ?_
  refine oe_iload_n (pc := 1) d_X11_row_1 rfl ?_
  refine oe_callV (pc := 2) (ci := 11) d_X11_row_2 (v_X11_shelfAt (N := N) hK (v := some (47 + 2 * a.toNatClampNeg)) (M' := M) (by rw [shAt, if_pos ca])) (by decide) ml_X11_156 jJ_X11_shelfAt rfl rfl h0 h0s ock11 rfl (Nat.le_of_ble_eq_true rfl) ⟨Nat.le_refl _, Nat.le_refl _⟩ ⟨Nat.le_refl _, Nat.le_refl _⟩ ?_
  refine oe_astore (pc := 5) (x := 47 + 2 * a.toNatClampNeg) (L2 := [_, _, _, _, _]) d_X11_row_5 rfl (Nat.le_of_ble_eq_true rfl) rfl ?_
  refine oe_aload (pc := 7) d_X11_row_7 rfl ?_
  refine oe_ifnull (pc := 9) d_X11_row_9 ?_
  refine oe_iload_n (pc := 12) d_X11_row_12 rfl ?_
  refine oe_iconst (pc := 13) (v := 0) d_X11_row_13 rfl ?_
  refine oe_iconst (pc := 14) (v := 4) d_X11_row_14 rfl ?_
  refine oe_callS (pc := 15) d_X11_row_15 (v_X11_within (N := N) hK (v := true) (M' := M) (by rw [w11, tl_0, tl_4, decide_eq_true cs])) (by decide) ml_X11_89 jJ_X11_within rfl rfl (Nat.le_of_ble_eq_true rfl) ⟨Nat.le_refl _, Nat.le_refl _⟩ ⟨Nat.le_refl _, Nat.le_refl _⟩ ?_
  refine oe_if_eq (pc := 18) (tgt := 27) d_X11_row_18 (by decide) (fun z => absurd z (by decide)) (fun _ => ?_)
  refine oe_iload_n (pc := 21) d_X11_row_21 rfl ?_
  refine oe_bipush (pc := 22) (v := 60) d_X11_row_22 rfl ?_
  refine oe_icmp_le (pc := 24) (tgt := 29) d_X11_row_24 (by decide) (fun _ => ?_) (fun z => absurd (by rw [oLeI, tl_60]; omega) z)
  refine oe_iload_n (pc := 29) d_X11_row_29 rfl ?_
  refine oe_if_ge (pc := 30) (tgt := 36) d_X11_row_30 (by decide) (fun _ => ?_) (fun z => absurd (by rw [oLeI, tl_0]; exact n0) z)
  refine oe_aload (pc := 36) d_X11_row_36 rfl ?_
  refine oe_iload_n (pc := 38) d_X11_row_38 rfl ?_
  refine oe_iload_n (pc := 39) d_X11_row_39 rfl ?_
  refine oe_callV (pc := 40) (ci := 9) d_X11_row_40 (v_X9_holdRow hss n0 n1) (by decide) ml_X11_316 jJ_X9_holdRow rfl rfl hsa (oSSo hss) ock9 rfl (Nat.le_of_ble_eq_true rfl) ⟨Nat.le_refl _, Nat.le_refl _⟩ ⟨Nat.le_refl _, Nat.le_refl _⟩ ?_
  refine oe_iconst (pc := 43) (v := 1) d_X11_row_43 rfl ?_
  exact oe_iret (pc := 44) d_X11_row_44 ⟨_, rfl, rfl⟩
