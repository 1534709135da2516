/-! small facts that all the rest uses -/
theorem tl_0 : (0 : Int32).toInt = 0 := rfl
theorem tl_1 : (1 : Int32).toInt = 1 := rfl
theorem tl_2 : (2 : Int32).toInt = 2 := rfl
theorem tl_3 : (3 : Int32).toInt = 3 := rfl
theorem tl_4 : (4 : Int32).toInt = 4 := rfl
theorem tl_5 : (5 : Int32).toInt = 5 := rfl
theorem tl_6 : (6 : Int32).toInt = 6 := rfl
theorem tl_7 : (7 : Int32).toInt = 7 := rfl
theorem tl_8 : (8 : Int32).toInt = 8 := rfl
theorem tl_9 : (9 : Int32).toInt = 9 := rfl
theorem tl_10 : (10 : Int32).toInt = 10 := rfl
theorem tl_11 : (11 : Int32).toInt = 11 := rfl
theorem tl_12 : (12 : Int32).toInt = 12 := rfl
theorem tl_13 : (13 : Int32).toInt = 13 := rfl
theorem tl_14 : (14 : Int32).toInt = 14 := rfl
theorem tl_15 : (15 : Int32).toInt = 15 := rfl
theorem tl_16 : (16 : Int32).toInt = 16 := rfl
theorem tl_17 : (17 : Int32).toInt = 17 := rfl
theorem tl_18 : (18 : Int32).toInt = 18 := rfl
theorem tl_19 : (19 : Int32).toInt = 19 := rfl
theorem tl_20 : (20 : Int32).toInt = 20 := rfl
theorem tl_21 : (21 : Int32).toInt = 21 := rfl
theorem tl_22 : (22 : Int32).toInt = 22 := rfl
theorem tl_23 : (23 : Int32).toInt = 23 := rfl
theorem tl_24 : (24 : Int32).toInt = 24 := rfl
theorem tl_25 : (25 : Int32).toInt = 25 := rfl
theorem tl_26 : (26 : Int32).toInt = 26 := rfl
theorem tl_27 : (27 : Int32).toInt = 27 := rfl
theorem tl_28 : (28 : Int32).toInt = 28 := rfl
theorem tl_29 : (29 : Int32).toInt = 29 := rfl
theorem tl_30 : (30 : Int32).toInt = 30 := rfl
theorem tl_31 : (31 : Int32).toInt = 31 := rfl
theorem tl_32 : (32 : Int32).toInt = 32 := rfl
theorem tl_33 : (33 : Int32).toInt = 33 := rfl
theorem tl_34 : (34 : Int32).toInt = 34 := rfl
theorem tl_35 : (35 : Int32).toInt = 35 := rfl
theorem tl_36 : (36 : Int32).toInt = 36 := rfl
theorem tl_37 : (37 : Int32).toInt = 37 := rfl
theorem tl_38 : (38 : Int32).toInt = 38 := rfl
theorem tl_39 : (39 : Int32).toInt = 39 := rfl
theorem tl_40 : (40 : Int32).toInt = 40 := rfl
theorem tl_41 : (41 : Int32).toInt = 41 := rfl
theorem tl_42 : (42 : Int32).toInt = 42 := rfl
theorem tl_43 : (43 : Int32).toInt = 43 := rfl
theorem tl_44 : (44 : Int32).toInt = 44 := rfl
theorem tl_45 : (45 : Int32).toInt = 45 := rfl
theorem tl_46 : (46 : Int32).toInt = 46 := rfl
theorem tl_47 : (47 : Int32).toInt = 47 := rfl
theorem tl_48 : (48 : Int32).toInt = 48 := rfl
theorem tl_49 : (49 : Int32).toInt = 49 := rfl
theorem tl_50 : (50 : Int32).toInt = 50 := rfl
theorem tl_51 : (51 : Int32).toInt = 51 := rfl
theorem tl_52 : (52 : Int32).toInt = 52 := rfl
theorem tl_53 : (53 : Int32).toInt = 53 := rfl
theorem tl_54 : (54 : Int32).toInt = 54 := rfl
theorem tl_55 : (55 : Int32).toInt = 55 := rfl
theorem tl_56 : (56 : Int32).toInt = 56 := rfl
theorem tl_57 : (57 : Int32).toInt = 57 := rfl
theorem tl_58 : (58 : Int32).toInt = 58 := rfl
theorem tl_59 : (59 : Int32).toInt = 59 := rfl
theorem tl_60 : (60 : Int32).toInt = 60 := rfl
theorem tl_61 : (61 : Int32).toInt = 61 := rfl
theorem tl_62 : (62 : Int32).toInt = 62 := rfl
theorem tl_63 : (63 : Int32).toInt = 63 := rfl
theorem tl_64 : (64 : Int32).toInt = 64 := rfl
theorem tl_65 : (65 : Int32).toInt = 65 := rfl
theorem tl_66 : (66 : Int32).toInt = 66 := rfl
theorem tl_67 : (67 : Int32).toInt = 67 := rfl
theorem tl_68 : (68 : Int32).toInt = 68 := rfl
theorem tl_69 : (69 : Int32).toInt = 69 := rfl
theorem tl_99 : (99 : Int32).toInt = 99 := rfl
theorem tl_100 : (100 : Int32).toInt = 100 := rfl
theorem tl_120 : (120 : Int32).toInt = 120 := rfl
theorem tl_121 : (121 : Int32).toInt = 121 := rfl
theorem tl_127 : (127 : Int32).toInt = 127 := rfl
theorem tl_255 : (255 : Int32).toInt = 255 := rfl
theorem tl_600 : (600 : Int32).toInt = 600 := rfl
theorem tl_999 : (999 : Int32).toInt = 999 := rfl
theorem tl_1000 : (1000 : Int32).toInt = 1000 := rfl
theorem tl_10000 : (10000 : Int32).toInt = 10000 := rfl
theorem tl_10201 : (10201 : Int32).toInt = 10201 := rfl
theorem tl_99999 : (99999 : Int32).toInt = 99999 := rfl
theorem tl_999999 : (999999 : Int32).toInt = 999999 := rfl
theorem tl_1030300 : (1030300 : Int32).toInt = 1030300 := rfl
theorem tl_1000000 : (1000000 : Int32).toInt = 1000000 := rfl
theorem tl_1000000000 : (1000000000 : Int32).toInt = 1000000000 := rfl
theorem tl_2000000000 : (2000000000 : Int32).toInt = 2000000000 := rfl
theorem tl_2147483647 : (2147483647 : Int32).toInt = 2147483647 := rfl
theorem tl_m1 : (-1 : Int32).toInt = -1 := rfl
theorem tl_m2 : (-2 : Int32).toInt = -2 := rfl
theorem tl_m3 : (-3 : Int32).toInt = -3 := rfl
theorem tl_m4 : (-4 : Int32).toInt = -4 := rfl
theorem tl_m5 : (-5 : Int32).toInt = -5 := rfl
theorem tl_m11 : (-11 : Int32).toInt = -11 := rfl
theorem tl_m12 : (-12 : Int32).toInt = -12 := rfl
theorem tl_m13 : (-13 : Int32).toInt = -13 := rfl
theorem tl_m14 : (-14 : Int32).toInt = -14 := rfl
theorem tl_m100 : (-100 : Int32).toInt = -100 := rfl
theorem tl_m2000000000 : (-2000000000 : Int32).toInt = -2000000000 := rfl
theorem tl_m48 : (-48 : Int32).toInt = -48 := rfl
theorem oUp_at (M : oM) (a k : Nat) (x : Int32) (b j : Nat) : (oUp M a k x).1 b j = if b = a ∧ j = k then x else M.1 b j := by
  unfold oUp upd
  by_cases h : b = a
  · subst h
    by_cases h2 : j = k <;> simp [h2]
  · simp [h]
theorem oUp_2 (M : oM) (a k : Nat) (x : Int32) : (oUp M a k x).2 = M.2 := rfl
theorem oUpL_1 (M : oM) (a k : Nat) (x : Int64) : (oUpL M a k x).1 = M.1 := rfl
theorem oUpL_at (M : oM) (a k : Nat) (x : Int64) (b j : Nat) : (oUpL M a k x).2 b j = if b = a ∧ j = k then x else M.2 b j := by
  unfold oUpL vp_updL
  by_cases h : b = a
  · subst h
    by_cases h2 : j = k <;> simp [h2]
  · simp [h]
theorem oB2_p {α β : Type} (v : α) (M : oM) (k : α → oM → Option β) : oB2 (some (v, M)) k = k v M := rfl
theorem oIx_p {β : Type} {i : Int32} {n : Nat} {A : Option β} (h0 : 0 ≤ i.toInt) (h1 : i.toInt < n) : oIx i n A = A := by
  unfold oIx
  rw [if_neg]
  intro h
  rcases h with h | h
  · rw [Int32.lt_iff_toInt_lt, tl_0] at h
    omega
  · have : i.toNatClampNeg = i.toInt.toNat := rfl
    omega
theorem oTnn (x : Int32) : x.toNatClampNeg = x.toInt.toNat := rfl
theorem oAdd {x y : Int32} (h1 : -2147483648 ≤ x.toInt + y.toInt) (h2 : x.toInt + y.toInt < 2147483648) : (x + y).toInt = x.toInt + y.toInt := by
  rw [Int32.toInt_add]
  exact Int.bmod_eq_of_le (by omega) (by omega)
theorem oSub {x y : Int32} (h1 : -2147483648 ≤ x.toInt - y.toInt) (h2 : x.toInt - y.toInt < 2147483648) : (x - y).toInt = x.toInt - y.toInt := by
  rw [Int32.toInt_sub]
  exact Int.bmod_eq_of_le (by omega) (by omega)
theorem oMul {x y : Int32} (h1 : -2147483648 ≤ x.toInt * y.toInt) (h2 : x.toInt * y.toInt < 2147483648) : (x * y).toInt = x.toInt * y.toInt := by
  rw [Int32.toInt_mul]
  exact Int.bmod_eq_of_le (by omega) (by omega)
theorem oEqI {x y : Int32} : x = y ↔ x.toInt = y.toInt := Int32.toInt_inj.symm
theorem oLtI {x y : Int32} : x < y ↔ x.toInt < y.toInt := Int32.lt_iff_toInt_lt
theorem oLeI {x y : Int32} : x ≤ y ↔ x.toInt ≤ y.toInt := Int32.le_iff_toInt_le
theorem oRng (x : Int32) : -2147483648 ≤ x.toInt ∧ x.toInt < 2147483648 := ⟨Int32.le_toInt x, Int32.toInt_lt x⟩
theorem oNI {x : Int32} {n : Nat} (h : x.toInt = n) : x = nI n := by
  rw [oEqI, h]
  have := oRng x
  exact (nI_toInt (by omega)).symm
theorem w11 (N : Nat) (K : oK) (a lo hi : Int32) (M : oM) : f_X11_within N K a lo hi M = some (decide (lo.toInt ≤ a.toInt ∧ a.toInt ≤ hi.toInt), M) := by
  unfold f_X11_within
  by_cases h1 : a < lo
  · rw [if_pos h1]
    rw [oLtI] at h1
    rw [decide_eq_false (by omega)]
  · rw [if_neg h1]
    by_cases h2 : hi < a
    · rw [if_pos h2]
      rw [oLtI] at h1 h2
      rw [decide_eq_false (by omega)]
    · rw [if_neg h2]
      rw [oLtI] at h1 h2
      rw [decide_eq_true (by omega)]
theorem oCmpL (x y : Int64) : (lg_cmp x y < 0 ↔ x.toInt < y.toInt) ∧ (0 < lg_cmp x y ↔ y.toInt < x.toInt) ∧ (lg_cmp x y = 0 ↔ x = y) := by
  unfold lg_cmp
  by_cases h : x > y
  · rw [if_pos h]
    have h' : y.toInt < x.toInt := Int64.lt_iff_toInt_lt.mp h
    refine ⟨⟨fun q => absurd q (by decide), fun q => by omega⟩, ⟨fun _ => h', fun _ => by decide⟩, ⟨fun q => absurd q (by decide), fun q => by rw [q] at h'; omega⟩⟩
  · rw [if_neg h]
    have h' : ¬ y.toInt < x.toInt := fun q => h (Int64.lt_iff_toInt_lt.mpr q)
    by_cases h2 : x = y
    · rw [if_pos h2]
      subst h2
      refine ⟨⟨fun q => absurd q (by decide), fun q => by omega⟩, ⟨fun q => absurd q (by decide), fun q => by omega⟩, ⟨fun _ => rfl, fun _ => rfl⟩⟩
    · rw [if_neg h2]
      have h3 : ¬ x.toInt = y.toInt := fun q => h2 (Int64.toInt_inj.mp q)
      refine ⟨⟨fun _ => by omega, fun _ => by decide⟩, ⟨fun q => absurd q (by decide), fun q => by omega⟩, ⟨fun q => absurd q (by decide), fun q => absurd q h2⟩⟩
theorem w12 (N : Nat) (K : oK) (a lo hi : Int64) (M : oM) : f_X12_within N K a lo hi M = some (decide (lo.toInt ≤ a.toInt ∧ a.toInt ≤ hi.toInt), M) := by
  unfold f_X12_within
  by_cases h1 : lg_cmp a lo < 0
  · rw [if_pos h1]
    rw [(oCmpL _ _).1] at h1
    rw [decide_eq_false (by omega)]
  · rw [if_neg h1]
    by_cases h2 : 0 < lg_cmp a hi
    · rw [if_pos h2]
      rw [(oCmpL _ _).1] at h1
      rw [(oCmpL _ _).2.1] at h2
      rw [decide_eq_false (by omega)]
    · rw [if_neg h2]
      rw [(oCmpL _ _).1] at h1
      rw [(oCmpL _ _).2.1] at h2
      rw [decide_eq_true (by omega)]
theorem oLg (x : Int32) : x.toInt64.toInt = x.toInt := Int32.toInt_toInt64 x
def oAg (K : oK) (M : oM) (o1 : Option (Int32 × oM)) (o2 : oM → Option (Int32 × oM)) : Prop := ∃ (r : Int32) (M1 M2 : oM), o1 = some (r, M1) ∧ o2 M1 = some (r, M2) ∧ oInv K M2
theorem isPt4 (N : Nat) (K : oK) (a : Int32) (M : oM) : f_X4_isPoint N K a M = some (decide (0 ≤ a.toInt ∧ a.toInt < (M.1 6 5).toInt), M) := by
  unfold f_X4_isPoint
  by_cases h1 : a < 0
  · rw [if_pos h1]
    rw [oLtI, tl_0] at h1
    rw [decide_eq_false (by omega)]
  · rw [if_neg h1]
    rw [oLtI, tl_0] at h1
    by_cases h2 : M.1 6 5 ≤ a
    · rw [if_pos h2]
      rw [oLeI] at h2
      rw [decide_eq_false (by omega)]
    · rw [if_neg h2]
      rw [oLeI] at h2
      rw [decide_eq_true (by omega)]
theorem isWy4 (N : Nat) (K : oK) (a : Int32) (M : oM) : f_X4_isWay N K a M = some (decide (0 ≤ a.toInt ∧ a.toInt < (M.1 6 6).toInt), M) := by
  unfold f_X4_isWay
  by_cases h1 : a < 0
  · rw [if_pos h1]
    rw [oLtI, tl_0] at h1
    rw [decide_eq_false (by omega)]
  · rw [if_neg h1]
    rw [oLtI, tl_0] at h1
    by_cases h2 : M.1 6 6 ≤ a
    · rw [if_pos h2]
      rw [oLeI] at h2
      rw [decide_eq_false (by omega)]
    · rw [if_neg h2]
      rw [oLeI] at h2
      rw [decide_eq_true (by omega)]
theorem isEn3 (N : Nat) (K : oK) (a : Int32) (M : oM) : f_X3_isEngine N K a M = some (decide (0 ≤ a.toInt ∧ a.toInt < (M.1 11 6).toInt), M) := by
  unfold f_X3_isEngine
  by_cases h1 : a < 0
  · rw [if_pos h1]
    rw [oLtI, tl_0] at h1
    rw [decide_eq_false (by omega)]
  · rw [if_neg h1]
    rw [oLtI, tl_0] at h1
    by_cases h2 : M.1 11 6 ≤ a
    · rw [if_pos h2]
      rw [oLeI] at h2
      rw [decide_eq_false (by omega)]
    · rw [if_neg h2]
      rw [oLeI] at h2
      rw [decide_eq_true (by omega)]
