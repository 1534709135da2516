def und (w k : Int32) : Bool := w = k || k = 0 || (w = 3 && k = 1) || (w = 4 && k = 2)
theorem un_0_0 (n : Nat) (K : oK) (M : oM) : f_X11_isUnder (n + 8) K 0 0 M = some (und 0 0, M) := rfl
theorem ut_0_0 (n : Nat) (K : oK) (a : Int32) (M : oM) : f_X12_taken_58 (n + 8) K (n + 8) a 0 0 M = cond (und 0 0) (f_X12_taken_75 (n + 8) K a 0 0 M) (some (-12, M)) := rfl
theorem un_0_1 (n : Nat) (K : oK) (M : oM) : f_X11_isUnder (n + 8) K 0 1 M = some (und 0 1, M) := rfl
theorem ut_0_1 (n : Nat) (K : oK) (a : Int32) (M : oM) : f_X12_taken_58 (n + 8) K (n + 8) a 1 0 M = cond (und 0 1) (f_X12_taken_75 (n + 8) K a 1 1 M) (some (-12, M)) := rfl
theorem un_0_2 (n : Nat) (K : oK) (M : oM) : f_X11_isUnder (n + 8) K 0 2 M = some (und 0 2, M) := rfl
theorem ut_0_2 (n : Nat) (K : oK) (a : Int32) (M : oM) : f_X12_taken_58 (n + 8) K (n + 8) a 2 0 M = cond (und 0 2) (f_X12_taken_75 (n + 8) K a 2 2 M) (some (-12, M)) := rfl
theorem un_0_3 (n : Nat) (K : oK) (M : oM) : f_X11_isUnder (n + 8) K 0 3 M = some (und 0 3, M) := rfl
theorem ut_0_3 (n : Nat) (K : oK) (a : Int32) (M : oM) : f_X12_taken_58 (n + 8) K (n + 8) a 3 0 M = cond (und 0 3) (f_X12_taken_75 (n + 8) K a 3 3 M) (some (-12, M)) := rfl
theorem un_0_4 (n : Nat) (K : oK) (M : oM) : f_X11_isUnder (n + 8) K 0 4 M = some (und 0 4, M) := rfl
theorem ut_0_4 (n : Nat) (K : oK) (a : Int32) (M : oM) : f_X12_taken_58 (n + 8) K (n + 8) a 4 0 M = cond (und 0 4) (f_X12_taken_75 (n + 8) K a 4 4 M) (some (-12, M)) := rfl
theorem un_0_5 (n : Nat) (K : oK) (M : oM) : f_X11_isUnder (n + 8) K 0 5 M = some (und 0 5, M) := rfl
theorem ut_0_5 (n : Nat) (K : oK) (a : Int32) (M : oM) : f_X12_taken_58 (n + 8) K (n + 8) a 5 0 M = cond (und 0 5) (f_X12_taken_75 (n + 8) K a 5 5 M) (some (-12, M)) := rfl
theorem un_1_0 (n : Nat) (K : oK) (M : oM) : f_X11_isUnder (n + 8) K 1 0 M = some (und 1 0, M) := rfl
theorem ut_1_0 (n : Nat) (K : oK) (a : Int32) (M : oM) : f_X12_taken_58 (n + 8) K (n + 8) a 0 1 M = cond (und 1 0) (f_X12_taken_75 (n + 8) K a 0 0 M) (some (-12, M)) := rfl
theorem un_1_1 (n : Nat) (K : oK) (M : oM) : f_X11_isUnder (n + 8) K 1 1 M = some (und 1 1, M) := rfl
theorem ut_1_1 (n : Nat) (K : oK) (a : Int32) (M : oM) : f_X12_taken_58 (n + 8) K (n + 8) a 1 1 M = cond (und 1 1) (f_X12_taken_75 (n + 8) K a 1 1 M) (some (-12, M)) := rfl
theorem un_1_2 (n : Nat) (K : oK) (M : oM) : f_X11_isUnder (n + 8) K 1 2 M = some (und 1 2, M) := rfl
theorem ut_1_2 (n : Nat) (K : oK) (a : Int32) (M : oM) : f_X12_taken_58 (n + 8) K (n + 8) a 2 1 M = cond (und 1 2) (f_X12_taken_75 (n + 8) K a 2 2 M) (some (-12, M)) := rfl
theorem un_1_3 (n : Nat) (K : oK) (M : oM) : f_X11_isUnder (n + 8) K 1 3 M = some (und 1 3, M) := rfl
theorem ut_1_3 (n : Nat) (K : oK) (a : Int32) (M : oM) : f_X12_taken_58 (n + 8) K (n + 8) a 3 1 M = cond (und 1 3) (f_X12_taken_75 (n + 8) K a 3 3 M) (some (-12, M)) := rfl
theorem un_1_4 (n : Nat) (K : oK) (M : oM) : f_X11_isUnder (n + 8) K 1 4 M = some (und 1 4, M) := rfl
theorem ut_1_4 (n : Nat) (K : oK) (a : Int32) (M : oM) : f_X12_taken_58 (n + 8) K (n + 8) a 4 1 M = cond (und 1 4) (f_X12_taken_75 (n + 8) K a 4 4 M) (some (-12, M)) := rfl
theorem un_1_5 (n : Nat) (K : oK) (M : oM) : f_X11_isUnder (n + 8) K 1 5 M = some (und 1 5, M) := rfl
theorem ut_1_5 (n : Nat) (K : oK) (a : Int32) (M : oM) : f_X12_taken_58 (n + 8) K (n + 8) a 5 1 M = cond (und 1 5) (f_X12_taken_75 (n + 8) K a 5 5 M) (some (-12, M)) := rfl
theorem un_2_0 (n : Nat) (K : oK) (M : oM) : f_X11_isUnder (n + 8) K 2 0 M = some (und 2 0, M) := rfl
theorem ut_2_0 (n : Nat) (K : oK) (a : Int32) (M : oM) : f_X12_taken_58 (n + 8) K (n + 8) a 0 2 M = cond (und 2 0) (f_X12_taken_75 (n + 8) K a 0 0 M) (some (-12, M)) := rfl
theorem un_2_1 (n : Nat) (K : oK) (M : oM) : f_X11_isUnder (n + 8) K 2 1 M = some (und 2 1, M) := rfl
theorem ut_2_1 (n : Nat) (K : oK) (a : Int32) (M : oM) : f_X12_taken_58 (n + 8) K (n + 8) a 1 2 M = cond (und 2 1) (f_X12_taken_75 (n + 8) K a 1 1 M) (some (-12, M)) := rfl
theorem un_2_2 (n : Nat) (K : oK) (M : oM) : f_X11_isUnder (n + 8) K 2 2 M = some (und 2 2, M) := rfl
theorem ut_2_2 (n : Nat) (K : oK) (a : Int32) (M : oM) : f_X12_taken_58 (n + 8) K (n + 8) a 2 2 M = cond (und 2 2) (f_X12_taken_75 (n + 8) K a 2 2 M) (some (-12, M)) := rfl
theorem un_2_3 (n : Nat) (K : oK) (M : oM) : f_X11_isUnder (n + 8) K 2 3 M = some (und 2 3, M) := rfl
theorem ut_2_3 (n : Nat) (K : oK) (a : Int32) (M : oM) : f_X12_taken_58 (n + 8) K (n + 8) a 3 2 M = cond (und 2 3) (f_X12_taken_75 (n + 8) K a 3 3 M) (some (-12, M)) := rfl
theorem un_2_4 (n : Nat) (K : oK) (M : oM) : f_X11_isUnder (n + 8) K 2 4 M = some (und 2 4, M) := rfl
theorem ut_2_4 (n : Nat) (K : oK) (a : Int32) (M : oM) : f_X12_taken_58 (n + 8) K (n + 8) a 4 2 M = cond (und 2 4) (f_X12_taken_75 (n + 8) K a 4 4 M) (some (-12, M)) := rfl
theorem un_2_5 (n : Nat) (K : oK) (M : oM) : f_X11_isUnder (n + 8) K 2 5 M = some (und 2 5, M) := rfl
theorem ut_2_5 (n : Nat) (K : oK) (a : Int32) (M : oM) : f_X12_taken_58 (n + 8) K (n + 8) a 5 2 M = cond (und 2 5) (f_X12_taken_75 (n + 8) K a 5 5 M) (some (-12, M)) := rfl
theorem un_3_0 (n : Nat) (K : oK) (M : oM) : f_X11_isUnder (n + 8) K 3 0 M = some (und 3 0, M) := rfl
theorem ut_3_0 (n : Nat) (K : oK) (a : Int32) (M : oM) : f_X12_taken_58 (n + 8) K (n + 8) a 0 3 M = cond (und 3 0) (f_X12_taken_75 (n + 8) K a 0 0 M) (some (-12, M)) := rfl
theorem un_3_1 (n : Nat) (K : oK) (M : oM) : f_X11_isUnder (n + 8) K 3 1 M = some (und 3 1, M) := rfl
theorem ut_3_1 (n : Nat) (K : oK) (a : Int32) (M : oM) : f_X12_taken_58 (n + 8) K (n + 8) a 1 3 M = cond (und 3 1) (f_X12_taken_75 (n + 8) K a 1 1 M) (some (-12, M)) := rfl
theorem un_3_2 (n : Nat) (K : oK) (M : oM) : f_X11_isUnder (n + 8) K 3 2 M = some (und 3 2, M) := rfl
theorem ut_3_2 (n : Nat) (K : oK) (a : Int32) (M : oM) : f_X12_taken_58 (n + 8) K (n + 8) a 2 3 M = cond (und 3 2) (f_X12_taken_75 (n + 8) K a 2 2 M) (some (-12, M)) := rfl
theorem un_3_3 (n : Nat) (K : oK) (M : oM) : f_X11_isUnder (n + 8) K 3 3 M = some (und 3 3, M) := rfl
theorem ut_3_3 (n : Nat) (K : oK) (a : Int32) (M : oM) : f_X12_taken_58 (n + 8) K (n + 8) a 3 3 M = cond (und 3 3) (f_X12_taken_75 (n + 8) K a 3 3 M) (some (-12, M)) := rfl
theorem un_3_4 (n : Nat) (K : oK) (M : oM) : f_X11_isUnder (n + 8) K 3 4 M = some (und 3 4, M) := rfl
theorem ut_3_4 (n : Nat) (K : oK) (a : Int32) (M : oM) : f_X12_taken_58 (n + 8) K (n + 8) a 4 3 M = cond (und 3 4) (f_X12_taken_75 (n + 8) K a 4 4 M) (some (-12, M)) := rfl
theorem un_3_5 (n : Nat) (K : oK) (M : oM) : f_X11_isUnder (n + 8) K 3 5 M = some (und 3 5, M) := rfl
theorem ut_3_5 (n : Nat) (K : oK) (a : Int32) (M : oM) : f_X12_taken_58 (n + 8) K (n + 8) a 5 3 M = cond (und 3 5) (f_X12_taken_75 (n + 8) K a 5 5 M) (some (-12, M)) := rfl
theorem un_4_0 (n : Nat) (K : oK) (M : oM) : f_X11_isUnder (n + 8) K 4 0 M = some (und 4 0, M) := rfl
theorem ut_4_0 (n : Nat) (K : oK) (a : Int32) (M : oM) : f_X12_taken_58 (n + 8) K (n + 8) a 0 4 M = cond (und 4 0) (f_X12_taken_75 (n + 8) K a 0 0 M) (some (-12, M)) := rfl
theorem un_4_1 (n : Nat) (K : oK) (M : oM) : f_X11_isUnder (n + 8) K 4 1 M = some (und 4 1, M) := rfl
theorem ut_4_1 (n : Nat) (K : oK) (a : Int32) (M : oM) : f_X12_taken_58 (n + 8) K (n + 8) a 1 4 M = cond (und 4 1) (f_X12_taken_75 (n + 8) K a 1 1 M) (some (-12, M)) := rfl
theorem un_4_2 (n : Nat) (K : oK) (M : oM) : f_X11_isUnder (n + 8) K 4 2 M = some (und 4 2, M) := rfl
theorem ut_4_2 (n : Nat) (K : oK) (a : Int32) (M : oM) : f_X12_taken_58 (n + 8) K (n + 8) a 2 4 M = cond (und 4 2) (f_X12_taken_75 (n + 8) K a 2 2 M) (some (-12, M)) := rfl
theorem un_4_3 (n : Nat) (K : oK) (M : oM) : f_X11_isUnder (n + 8) K 4 3 M = some (und 4 3, M) := rfl
theorem ut_4_3 (n : Nat) (K : oK) (a : Int32) (M : oM) : f_X12_taken_58 (n + 8) K (n + 8) a 3 4 M = cond (und 4 3) (f_X12_taken_75 (n + 8) K a 3 3 M) (some (-12, M)) := rfl
theorem un_4_4 (n : Nat) (K : oK) (M : oM) : f_X11_isUnder (n + 8) K 4 4 M = some (und 4 4, M) := rfl
theorem ut_4_4 (n : Nat) (K : oK) (a : Int32) (M : oM) : f_X12_taken_58 (n + 8) K (n + 8) a 4 4 M = cond (und 4 4) (f_X12_taken_75 (n + 8) K a 4 4 M) (some (-12, M)) := rfl
theorem un_4_5 (n : Nat) (K : oK) (M : oM) : f_X11_isUnder (n + 8) K 4 5 M = some (und 4 5, M) := rfl
theorem ut_4_5 (n : Nat) (K : oK) (a : Int32) (M : oM) : f_X12_taken_58 (n + 8) K (n + 8) a 5 4 M = cond (und 4 5) (f_X12_taken_75 (n + 8) K a 5 5 M) (some (-12, M)) := rfl
theorem un_5_0 (n : Nat) (K : oK) (M : oM) : f_X11_isUnder (n + 8) K 5 0 M = some (und 5 0, M) := rfl
theorem ut_5_0 (n : Nat) (K : oK) (a : Int32) (M : oM) : f_X12_taken_58 (n + 8) K (n + 8) a 0 5 M = cond (und 5 0) (f_X12_taken_75 (n + 8) K a 0 0 M) (some (-12, M)) := rfl
theorem un_5_1 (n : Nat) (K : oK) (M : oM) : f_X11_isUnder (n + 8) K 5 1 M = some (und 5 1, M) := rfl
theorem ut_5_1 (n : Nat) (K : oK) (a : Int32) (M : oM) : f_X12_taken_58 (n + 8) K (n + 8) a 1 5 M = cond (und 5 1) (f_X12_taken_75 (n + 8) K a 1 1 M) (some (-12, M)) := rfl
theorem un_5_2 (n : Nat) (K : oK) (M : oM) : f_X11_isUnder (n + 8) K 5 2 M = some (und 5 2, M) := rfl
theorem ut_5_2 (n : Nat) (K : oK) (a : Int32) (M : oM) : f_X12_taken_58 (n + 8) K (n + 8) a 2 5 M = cond (und 5 2) (f_X12_taken_75 (n + 8) K a 2 2 M) (some (-12, M)) := rfl
theorem un_5_3 (n : Nat) (K : oK) (M : oM) : f_X11_isUnder (n + 8) K 5 3 M = some (und 5 3, M) := rfl
theorem ut_5_3 (n : Nat) (K : oK) (a : Int32) (M : oM) : f_X12_taken_58 (n + 8) K (n + 8) a 3 5 M = cond (und 5 3) (f_X12_taken_75 (n + 8) K a 3 3 M) (some (-12, M)) := rfl
theorem un_5_4 (n : Nat) (K : oK) (M : oM) : f_X11_isUnder (n + 8) K 5 4 M = some (und 5 4, M) := rfl
theorem ut_5_4 (n : Nat) (K : oK) (a : Int32) (M : oM) : f_X12_taken_58 (n + 8) K (n + 8) a 4 5 M = cond (und 5 4) (f_X12_taken_75 (n + 8) K a 4 4 M) (some (-12, M)) := rfl
theorem un_5_5 (n : Nat) (K : oK) (M : oM) : f_X11_isUnder (n + 8) K 5 5 M = some (und 5 5, M) := rfl
theorem ut_5_5 (n : Nat) (K : oK) (a : Int32) (M : oM) : f_X12_taken_58 (n + 8) K (n + 8) a 5 5 M = cond (und 5 5) (f_X12_taken_75 (n + 8) K a 5 5 M) (some (-12, M)) := rfl
theorem unAll (n : Nat) (K : oK) (w k : Int32) (M : oM) (w0 : 0 ≤ w.toInt) (w1 : w.toInt ≤ 5) (k0 : 0 ≤ k.toInt) (k1 : k.toInt ≤ 5) : f_X11_isUnder (n + 8) K w k M = some (und w k, M) ∧ ∀ a, f_X12_taken_58 (n + 8) K (n + 8) a k w M = cond (und w k) (f_X12_taken_75 (n + 8) K a k k M) (some (-12, M)) := by
  rcases oC6 w0 w1 with e | e | e | e | e | e <;> subst e <;> rcases oC6 k0 k1 with e | e | e | e | e | e <;> subst e
  · exact ⟨un_0_0 n K M, fun a => ut_0_0 n K a M⟩
  · exact ⟨un_0_1 n K M, fun a => ut_0_1 n K a M⟩
  · exact ⟨un_0_2 n K M, fun a => ut_0_2 n K a M⟩
  · exact ⟨un_0_3 n K M, fun a => ut_0_3 n K a M⟩
  · exact ⟨un_0_4 n K M, fun a => ut_0_4 n K a M⟩
  · exact ⟨un_0_5 n K M, fun a => ut_0_5 n K a M⟩
  · exact ⟨un_1_0 n K M, fun a => ut_1_0 n K a M⟩
  · exact ⟨un_1_1 n K M, fun a => ut_1_1 n K a M⟩
  · exact ⟨un_1_2 n K M, fun a => ut_1_2 n K a M⟩
  · exact ⟨un_1_3 n K M, fun a => ut_1_3 n K a M⟩
  · exact ⟨un_1_4 n K M, fun a => ut_1_4 n K a M⟩
  · exact ⟨un_1_5 n K M, fun a => ut_1_5 n K a M⟩
  · exact ⟨un_2_0 n K M, fun a => ut_2_0 n K a M⟩
  · exact ⟨un_2_1 n K M, fun a => ut_2_1 n K a M⟩
  · exact ⟨un_2_2 n K M, fun a => ut_2_2 n K a M⟩
  · exact ⟨un_2_3 n K M, fun a => ut_2_3 n K a M⟩
  · exact ⟨un_2_4 n K M, fun a => ut_2_4 n K a M⟩
  · exact ⟨un_2_5 n K M, fun a => ut_2_5 n K a M⟩
  · exact ⟨un_3_0 n K M, fun a => ut_3_0 n K a M⟩
  · exact ⟨un_3_1 n K M, fun a => ut_3_1 n K a M⟩
  · exact ⟨un_3_2 n K M, fun a => ut_3_2 n K a M⟩
  · exact ⟨un_3_3 n K M, fun a => ut_3_3 n K a M⟩
  · exact ⟨un_3_4 n K M, fun a => ut_3_4 n K a M⟩
  · exact ⟨un_3_5 n K M, fun a => ut_3_5 n K a M⟩
  · exact ⟨un_4_0 n K M, fun a => ut_4_0 n K a M⟩
  · exact ⟨un_4_1 n K M, fun a => ut_4_1 n K a M⟩
  · exact ⟨un_4_2 n K M, fun a => ut_4_2 n K a M⟩
  · exact ⟨un_4_3 n K M, fun a => ut_4_3 n K a M⟩
  · exact ⟨un_4_4 n K M, fun a => ut_4_4 n K a M⟩
  · exact ⟨un_4_5 n K M, fun a => ut_4_5 n K a M⟩
  · exact ⟨un_5_0 n K M, fun a => ut_5_0 n K a M⟩
  · exact ⟨un_5_1 n K M, fun a => ut_5_1 n K a M⟩
  · exact ⟨un_5_2 n K M, fun a => ut_5_2 n K a M⟩
  · exact ⟨un_5_3 n K M, fun a => ut_5_3 n K a M⟩
  · exact ⟨un_5_4 n K M, fun a => ut_5_4 n K a M⟩
  · exact ⟨un_5_5 n K M, fun a => ut_5_5 n K a M⟩
theorem ag_taken {K : oK} {M : oM} (h : oInv K M) {N : Nat} (hN : 100 ≤ N) (a k : Int32) : oAg K M (f_X11_taken N K a k M) (f_X12_taken N K a k) := by
  obtain ⟨n, rfl⟩ : ∃ n, N = n + 8 := ⟨N - 8, by omega⟩
  have hl := h.2.2.2.2.2.2.2.2.1
  obtain ⟨e20, c0, c1⟩ := hl.1
  have hsh := h.2.2.2.2.2.2.2.2.2
  unfold f_X11_taken
  rw [shAt, oB2_p]
  by_cases c : 0 ≤ a.toInt ∧ a.toInt ≤ 5
  · have na : a.toNatClampNeg = a.toInt.toNat := rfl
    have h1 := hsh a.toNatClampNeg (by omega)
    generalize hd : a.toNatClampNeg = d at *
    rw [if_pos c, oCs_s, isKi11, oB2_p]
    have m0 : f_X12_taken (n + 8) K a k M = cond (decide (0 ≤ k.toInt ∧ k.toInt ≤ 5)) ((if 0 ≤ M.1 97 d then (if M.1 97 d < 20 then oB2 (f_X12_kindOf (n + 8) K (M.1 97 d) M) (fun v12 M13 => f_X12_taken_58 (n + 8) K (n + 8) a k v12 M13) else some (-12, M)) else some (-11, M))) (some (-1, M)) := by
      unfold f_X12_taken
      have hx : ∀ A : Option (Int32 × oM), oIx a 6 A = A := fun A => oIx_p c.1 (by omega)
      rw [isSh12, oB2_p, decide_eq_true c, cond_true, w12, oB2_p, oLg]
      simp only [hx, hd]
      rfl
    by_cases ck : 0 ≤ k.toInt ∧ k.toInt ≤ 5
    · rw [decide_eq_true ck, cond_true] at m0 ⊢
      rcases h1 with ⟨g1, g2, g3⟩ | ⟨g1, ⟨g2, g3⟩, g4⟩ | ⟨g1, g2, ⟨g3, g4⟩, g5, -⟩
      · rw [if_pos g1]
        refine oAg.mk M rfl ?_ h
        rw [m0, if_neg (by rw [g3]; decide)]
      · have hly := (hl.2.2.1 (M.1 97 d).toInt.toNat (by omega)).2
        obtain ⟨⟨y1, y2, y3, y4⟩, -⟩ := hly
        rw [if_neg (by rw [g1]; decide), g4, oCs_s]
        obtain ⟨u1, u2⟩ := unAll n K _ k M y3 y4 ck.1 ck.2
        have m1 : f_X12_kindOf (n + 8) K (M.1 97 d) M = some (M.1 (oLy (M.1 97 d).toInt.toNat) 1, M) := by
          unfold f_X12_kindOf
          rw [oIx_p g2 (by omega), oTnn, y2]
        rw [u1, oB2_p]
        cases hu : und (M.1 (oLy (M.1 97 d).toInt.toNat) 1) k
        · refine oAg.mk M rfl ?_ h
          rw [m0, if_pos (by rw [oLeI, tl_0]; exact g2), if_pos (by rw [oLtI, tl_20]; omega), m1, oB2_p, u2, hu, cond_false]
        · refine oAg.mk M rfl ?_ h
          rw [m0, if_pos (by rw [oLeI, tl_0]; exact g2), if_pos (by rw [oLtI, tl_20]; omega), m1, oB2_p, u2, hu, cond_true]
          unfold f_X12_taken_75
          rw [if_pos rfl, oIx_p c.1 (by omega), hd, m1, oB2_p]
      · have e97 : (M.1 97 d).toInt = (M.1 (47 + 2 * d) 3).toInt + 20 := by rw [g5, oAdd (by rw [tl_20]; omega) (by rw [tl_20]; omega), tl_20]
        rw [if_neg (by rw [g1]; decide), g2, oCs_n]
        refine oAg.mk M rfl ?_ h
        rw [m0, if_pos (by rw [oLeI, tl_0]; omega), if_neg (by rw [oLtI, tl_20]; omega)]
    · rw [decide_eq_false ck, cond_false] at m0 ⊢
      exact oAg.mk M rfl m0 h
  · rw [if_neg c, oCs_n]
    refine oAg.mk M rfl ?_ h
    unfold f_X12_taken
    rw [isSh12, oB2_p, decide_eq_false c, cond_false]
theorem e_las {N : Nat} {K : oK} {M : oM} {l : Nat} (hl : l < 20) (hg : iGear M) (hy : iLay1 M l) (a : Int32) (ha : a = nI l) : ∀ (n k : Nat) (v : Int32), (k : Int) ≤ (M.1 (oLy l) 7).toInt → (M.1 (oLy l) 7).toInt < k + n → ∃ r, f_X11_lasts_19 N K n (oLy l) v (nI k) M = some (r, M) ∧ f_X12_lasts_19 N K n a v (24 * a + nI k) M = some (r, M) := by
  obtain ⟨-, -, ⟨y1, y2, y3⟩, -, hp⟩ := hy
  obtain ⟨⟨g1, g2, g3⟩, g4, g5, -⟩ := hg
  have al : a.toInt = l := by rw [ha, nI_toInt (by omega)]
  have an : a.toNatClampNeg = l := by rw [oTnn, al]; rfl
  intro n
  induction n with
  | zero => intro k v h1 h2; omega
  | succ n ih =>
    intro k v h1 h2
    have ek : (nI k).toInt = k := nI_toInt (by omega)
    have nk : (nI k).toNatClampNeg = k := by rw [oTnn, ek]; rfl
    have e24 : (24 * a).toInt = 24 * l := by rw [oMul (by rw [tl_24]; omega) (by rw [tl_24]; omega), tl_24, al]
    have es : (24 * a + nI k).toInt = 24 * l + k := by rw [oAdd (by omega) (by omega), e24, ek]
    have ns : (24 * a + nI k).toNatClampNeg = 24 * l + k := by rw [oTnn, es]; omega
    have e7 : (24 * a + M.1 76 l).toInt = 24 * l + (M.1 (oLy l) 7).toInt := by rw [oAdd (by rw [y1]; omega) (by rw [y1]; omega), e24, y1]
    have en : 24 * a + nI k + 1 = 24 * a + nI (k + 1) := by rw [← nI_1, Int32.add_assoc]
    rw [f_X11_lasts_19, f_X12_lasts_19]
    dsimp only
    rw [oIx_p (i := a) (by omega) (by omega), an, ns, nk]
    by_cases c : (M.1 (oLy l) 7).toInt ≤ k
    · rw [if_pos (by rw [oLeI, ek]; exact c), if_pos (show 24 * a + M.1 76 l ≤ 24 * a + nI k by rw [oLeI, e7, es]; omega)]
      exact ⟨_, rfl, rfl⟩
    · obtain ⟨⟨p1, p2, -⟩, -, p4⟩ := hp k (by omega)
      rw [if_neg (by rw [oLeI, ek]; exact c), if_neg (show ¬ (24 * a + M.1 76 l ≤ 24 * a + nI k) by rw [oLeI, e7, es]; omega), oIx_p (i := nI k) (by omega) (by omega), oIx_p (i := nI k) (by omega) (by omega), oIx_p (i := 24 * a + nI k) (by omega) (by omega)]
      unfold f_X11_lasts_74 f_X12_lasts_70
      rw [p1, p2, en, nI_1]
      by_cases c0 : M.1 (oLy l + 1) k = 0
      · have q : 0 ≤ (M.1 (oLy l + 2) k).toInt ∧ (M.1 (oLy l + 2) k).toInt < (M.1 11 6).toInt := by
          rcases p4 with ⟨q1, q2, q3⟩ | ⟨q1, q2⟩ | ⟨q1, q2⟩
          · exact q2
          · rw [q1] at c0; exact absurd c0 (by decide)
          · rw [q1] at c0; exact absurd c0 (by decide)
        have w := g4 (M.1 (oLy l + 2) k).toNatClampNeg (by rw [oTnn]; omega)
        rw [if_pos c0, if_pos c0, isEn3, oB2_p, decide_eq_true q, cond_true, oIx_p q.1 (by omega), oIx_p (i := 24 * a + nI k) (by omega) (by omega), oIx_p q.1 (by omega), w.1]
        by_cases c1 : M.1 12 (M.1 (oLy l + 2) k).toNatClampNeg < v
        · rw [if_pos c1, if_neg (by rw [oLeI]; rw [oLtI] at c1; omega), oIx_p (i := 24 * a + nI k) (by omega) (by omega), oIx_p q.1 (by omega)]
          exact ih (k + 1) _ (by omega) (by omega)
        · rw [if_neg c1, if_pos (by rw [oLeI]; rw [oLtI] at c1; omega)]
          exact ih (k + 1) _ (by omega) (by omega)
      · rw [if_neg c0, if_neg c0]
        exact ih (k + 1) _ (by omega) (by omega)
theorem ag_lasts {K : oK} {M : oM} (h : oInv K M) {N : Nat} (hN : 100 ≤ N) (a : Int32) : oAg K M (f_X11_lasts N K a M) (f_X12_lasts N K a) := by
  have hl := h.2.2.2.2.2.2.2.2.1
  obtain ⟨e20, c0, c1⟩ := hl.1
  unfold f_X11_lasts
  rw [lyAt hl, oB2_p]
  by_cases c : 0 ≤ a.toInt ∧ a.toInt < (M.1 0 11).toInt
  · rw [if_pos c, oCs_s]
    have na : a.toNatClampNeg = a.toInt.toNat := rfl
    have hy := (ly_nn hl c.1 c.2).2
    have y3 := hy.2.2.1
    obtain ⟨r, r1, r2⟩ := e_las (N := N) (K := K) (l := a.toNatClampNeg) (by omega) h.2.2.2.1 hy a (oNI (by omega)) N 0 999 (by omega) (by omega)
    refine oAg.mk M r1 ?_ h
    unfold f_X12_lasts
    rw [isLy12 _ _ _ _ (by rw [e20]; exact c0), oB2_p, e20, decide_eq_true c, cond_true]
    have z : 24 * a + nI 0 = 24 * a := Int32.add_zero _
    rw [z] at r2
    exact r2
  · rw [if_neg c, oCs_n]
    refine oAg.mk M rfl ?_ h
    unfold f_X12_lasts
    rw [isLy12 _ _ _ _ (by rw [e20]; exact c0), oB2_p, e20, decide_eq_false c, cond_false]
/-- the bits of an int below a place -/
def bCt (p : Int32) : Nat → Int32
  | 0 => 0
  | n + 1 => bCt p n + ((p >>> (nI n &&& 31)) &&& 1)
theorem bit01 (p : Int32) (k : Int32) : (p >>> k) &&& 1 = 1 ∨ (p >>> k) &&& 1 = 0 := by
  generalize p >>> k = q
  have e : (q &&& 1).toBitVec = q.toBitVec &&& 1#32 := rfl
  rw [BitVec.and_one_eq_setWidth_ofBool_getLsbD] at e
  cases hb : q.toBitVec.getLsbD 0
  · right
    rw [hb] at e
    exact Int32.toBitVec_inj.mp e
  · left
    rw [hb] at e
    exact Int32.toBitVec_inj.mp e
def bcV (p : Int32) : Int32 := (match f_J6_bitCount_0f7a4 0 (0, 0, fun _ => (0, 0), fun _ _ => none) p (fun _ _ => 0, fun _ _ => 0) with | none => 0 | some q => q.1)
theorem bcEq (N : Nat) (K : oK) (p : Int32) (M : oM) : f_J6_bitCount_0f7a4 N K p M = some (bcV p, M) := rfl
theorem bc_ok : ∀ n : Nat, n ≤ 6 → ∀ j : Nat, j < 64 → j < 2 ^ n → bCt (nI j) n = bcV (nI j) := by decide +kernel
theorem bc_lo : ∀ n : Nat, n ≤ 6 → (((1 : Int32) <<< ((nI n) &&& 31)).toInt = 2 ^ n) := by decide +kernel
theorem bc_sh : ∀ n : Nat, n ≤ 6 → (nI n &&& 31).toBitVec.smod 32 = BitVec.ofNat 32 n := by decide +kernel
/-- an int from 0 on, moved right by a place below 31 -/
theorem shrV {p : Int32} (h : 0 ≤ p.toInt) {n : Nat} (hn : n ≤ 6) : (p >>> (nI n &&& 31)).toInt = p.toInt / 2 ^ n := by
  have e : (p >>> (nI n &&& 31)).toInt = (p.toBitVec.sshiftRight' ((nI n &&& 31).toBitVec.smod 32)).toInt := rfl
  rw [e, bc_sh n hn, BitVec.sshiftRight_eq', BitVec.toInt_sshiftRight, Int.shiftRight_eq_div_pow]
  have : (BitVec.ofNat 32 n).toNat = n := by rw [BitVec.toNat_ofNat]; omega
  rw [this]
  rfl
theorem shr0 {p : Int32} (h : 0 ≤ p.toInt) {n : Nat} (hn : n ≤ 6) : p >>> (nI n &&& 31) = 0 ↔ p.toInt < 2 ^ n := by
  rw [oEqI, shrV h hn, tl_0]
  have hp : (0 : Int) < 2 ^ n := Int.pow_pos (by omega)
  constructor
  · intro q
    have := Int.lt_mul_ediv_self_add (x := p.toInt) hp
    rw [q] at this
    omega
  · exact fun q => Int.ediv_eq_zero_of_lt h q
theorem e_trn {N : Nat} {K : oK} {M : oM} (hg : iGear M) (p b : Int32) : ∀ (n k : Nat) (u w : Int32), (k : Int) ≤ (M.1 11 6).toInt → (M.1 11 6).toInt < k + n → w = u + b - b * bCt p k → bCt p (M.1 11 6).toInt.toNat = bcV p → ∃ r, f_X11_turn_34 N K n p b u (nI k) M = some (r, M) ∧ f_X12_turn_33 N K n p b w (nI k) M = some (r, M) := by
  obtain ⟨⟨g1, g2, g3⟩, g4, g5, -⟩ := hg
  intro n
  induction n with
  | zero => intro k u w h1 h2; omega
  | succ n ih =>
    intro k u w h1 h2 hw hb
    have ek : (nI k).toInt = k := nI_toInt (by omega)
    have nk : (nI k).toNatClampNeg = k := by rw [oTnn, ek]; rfl
    rw [f_X11_turn_34, f_X12_turn_33]
    dsimp only
    rw [g1]
    by_cases c : (M.1 11 6).toInt ≤ k
    · rw [if_pos (by rw [oLeI, ek]; exact c), if_pos (by rw [oLeI, ek]; exact c), bcEq, oB2_p]
      refine ⟨_, rfl, ?_⟩
      have : (M.1 11 6).toInt.toNat = k := by omega
      rw [this] at hb
      rw [hw, hb]
      congr 2
      grind
    · have c' : ¬ M.1 11 6 ≤ nI k := by rw [oLeI, ek]; exact c
      rw [if_neg c', if_neg c']
      have w4 := (g4 k (by omega)).1
      unfold f_X11_turn_69 f_X12_turn_66
      rw [nk, nI_1, w4]
      rcases bit01 p (nI k &&& 31) with q | q
      · rw [if_pos q, if_pos q, oIx_p (by omega) (by omega), oIx_p (by omega) (by omega)]
        refine ih (k + 1) _ _ (by omega) (by omega) ?_ hb
        rw [hw, bCt, q]
        grind
      · have q' : ¬ (p >>> (nI k &&& 31)) &&& 1 = 1 := by rw [q]; decide
        rw [if_neg q', if_neg q']
        refine ih (k + 1) _ _ (by omega) (by omega) ?_ hb
        rw [hw, bCt, q]
        grind
theorem ag_turn {K : oK} {M : oM} (h : oInv K M) {N : Nat} (hN : 100 ≤ N) (p b : Int32) : oAg K M (f_X11_turn N K p b M) (f_X12_turn N K p b) := by
  have hg := h.2.2.2.1
  obtain ⟨⟨g1, g2, g3⟩, -⟩ := id hg
  have hn : M.1 11 6 = nI (M.1 11 6).toInt.toNat := oNI (by omega)
  have hb := bc_lo (M.1 11 6).toInt.toNat (by omega)
  unfold f_X11_turn f_X12_turn
  by_cases c1 : p.toInt ≤ 0
  · rw [if_pos (by rw [oLeI, tl_0]; exact c1)]
    refine oAg.mk M rfl ?_ h
    rw [if_pos (by rw [oLtI, tl_1]; omega)]
  · rw [if_neg (by rw [oLeI, tl_0]; exact c1)]
    have hs := shr0 (p := p) (n := (M.1 11 6).toInt.toNat) (by omega) (by omega)
    rw [← hn] at hb hs
    by_cases c2 : (2 : Int) ^ (M.1 11 6).toInt.toNat ≤ p.toInt
    · rw [if_pos (by rw [oLeI, hb]; exact c2)]
      refine oAg.mk M rfl ?_ h
      rw [if_neg (by rw [oLtI, tl_1]; omega), g1, if_neg (by rw [hs]; omega)]
    · rw [if_neg (by rw [oLeI, hb]; exact c2), w11, oB2_p, tl_0, tl_99]
      by_cases c3 : 0 ≤ b.toInt ∧ b.toInt ≤ 99
      · rw [decide_eq_true c3, cond_true]
        have hle : (2 : Int) ^ (M.1 11 6).toInt.toNat ≤ 64 := (show ∀ n : Nat, n ≤ 6 → (2 : Int) ^ n ≤ 64 by decide) _ (by omega)
        have hbc := bc_ok (M.1 11 6).toInt.toNat (by omega) p.toInt.toNat (by omega) (by
          have : ((2 ^ (M.1 11 6).toInt.toNat : Nat) : Int) = 2 ^ (M.1 11 6).toInt.toNat := Int.natCast_pow 2 _
          omega)
        rw [← oNI (x := p) (by omega)] at hbc
        obtain ⟨r, r1, r2⟩ := e_trn (N := N) (K := K) hg p b N 0 0 b (by omega) (by omega) (by rw [bCt]; grind) hbc
        refine oAg.mk M r1 ?_ h
        rw [if_neg (by rw [oLtI, tl_1]; omega), g1, if_pos (by rw [hs]; omega), w12, oB2_p, oLg, show (0 : Int64).toInt = 0 from rfl, show (99 : Int64).toInt = 99 from rfl, decide_eq_true c3, cond_true]
        exact r2
      · rw [decide_eq_false c3, cond_false]
        refine oAg.mk M rfl ?_ h
        rw [if_neg (by rw [oLtI, tl_1]; omega), g1, if_pos (by rw [hs]; omega), w12, oB2_p, oLg, show (0 : Int64).toInt = 0 from rfl, show (99 : Int64).toInt = 99 from rfl, decide_eq_false c3, cond_false]
