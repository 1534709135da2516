/-! the most -/
theorem ag_most {K : oK} {M : oM} (h : oInv K M) {N : Nat} (hN : 3000 ≤ N) (a need what : Int32) : oAg K M (f_X11_most N K a need what M) (f_X12_most N K a need what) := sorry
