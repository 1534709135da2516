/-! what the calls keep -/
def oInv (K : oK) (M : oM) : Prop := oSR K ∧ K.1 ≤ 300 ∧ K.2.1 ≤ 50000
theorem oInv_room {K : oK} {M : oM} (h : oInv K M) : K.1 - 0 ≤ 600000 ∧ K.2.1 - 0 ≤ 7302250 := ⟨Nat.le_trans (Nat.sub_le _ _) (Nat.le_trans h.2.1 (Nat.le_of_ble_eq_true rfl)), Nat.le_trans (Nat.sub_le _ _) (Nat.le_trans h.2.2 (Nat.le_of_ble_eq_true rfl))⟩
theorem oInv_start : oInv ck206 cm119 := sorry
theorem oInv_step (X : oX) : oStepOk X oInv := sorry
