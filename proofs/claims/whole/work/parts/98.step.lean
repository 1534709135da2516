/-! a round of the law keeps what the calls keep -/
theorem oInv_step (X : oX) : oStepOk X oInv := sorry
