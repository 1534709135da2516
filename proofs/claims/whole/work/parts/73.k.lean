/-! acts: the 24 runs -/
def cb (b : Int32) (M : oM) : oM := oUp (oUp M 45 (M.1 44 1).toNatClampNeg b) 44 1 (M.1 44 1 + 1)
def mb (b : Int32) (M : oM) : oM := oUp (oUp M 96 (M.1 59 59).toNatClampNeg b) 59 59 (M.1 59 59 + 1)
def cbs (bs : List Int32) (M : oM) : oM := bs.foldl (fun M b => cb b M) M
def mbs (bs : List Int32) (M : oM) : oM := bs.foldl (fun M b => mb b M) M
theorem cb_1 (b : Int32) (M : oM) : (cb b M).1 44 1 = M.1 44 1 + 1 := by simp [cb, oUp_at]
theorem cb_2 (b : Int32) (M : oM) : (cb b M).1 44 2 = M.1 44 2 := by simp [cb, oUp_at]
theorem cb_3 (b : Int32) (M : oM) : (cb b M).1 44 3 = M.1 44 3 := by simp [cb, oUp_at]
theorem cb_4 (b : Int32) (M : oM) : (cb b M).1 44 4 = M.1 44 4 := by simp [cb, oUp_at]
theorem mb_1 (b : Int32) (M : oM) : (mb b M).1 59 59 = M.1 59 59 + 1 := by simp [mb, oUp_at]
theorem mb_2 (b : Int32) (M : oM) : (mb b M).1 59 60 = M.1 59 60 := by simp [mb, oUp_at]
theorem mb_3 (b : Int32) (M : oM) : (mb b M).1 59 61 = M.1 59 61 := by simp [mb, oUp_at]
theorem mb_4 (b : Int32) (M : oM) (k : Nat) : (mb b M).1 76 k = M.1 76 k := by simp [mb, oUp_at]
theorem beg0 (N : Nat) (K : oK) (b : Int32) (M : oM) (h : 0 ≤ (M.1 44 1).toInt ∧ (M.1 44 1).toInt < 24) : f_X0_begins N K b M = some ((), cb b M) := by
  unfold f_X0_begins f_X0_begins_19 cb
  rw [if_neg (by rw [oLeI, tl_24]; omega), oIx_p h.1 h.2]
  simp [oUp_at]
theorem beg12 (N : Nat) (K : oK) (b : Int32) (M : oM) (h : 0 ≤ (M.1 59 59).toInt ∧ (M.1 59 59).toInt < 24) : f_X12_begins N K b M = some ((), mb b M) := by
  unfold f_X12_begins f_X12_begins_19 mb
  rw [if_neg (by rw [oLeI, tl_24]; omega), oIx_p h.1 h.2]
  simp [oUp_at]
theorem kw_0_0 (N : Nat) (K : oK) (M : oM) : f_X0_kindWith (N + 8) K 0 0 M = some (0, M) := rfl
theorem kw_0_1 (N : Nat) (K : oK) (M : oM) : f_X0_kindWith (N + 8) K 0 1 M = some (0, M) := rfl
theorem kw_0_2 (N : Nat) (K : oK) (M : oM) : f_X0_kindWith (N + 8) K 0 2 M = some (0, M) := rfl
theorem kw_0_3 (N : Nat) (K : oK) (M : oM) : f_X0_kindWith (N + 8) K 0 3 M = some (0, M) := rfl
theorem kw_1_0 (N : Nat) (K : oK) (M : oM) : f_X0_kindWith (N + 8) K 1 0 M = some (0, M) := rfl
theorem kw_1_1 (N : Nat) (K : oK) (M : oM) : f_X0_kindWith (N + 8) K 1 1 M = some (0, M) := rfl
theorem kw_1_2 (N : Nat) (K : oK) (M : oM) : f_X0_kindWith (N + 8) K 1 2 M = some (1, M) := rfl
theorem kw_1_3 (N : Nat) (K : oK) (M : oM) : f_X0_kindWith (N + 8) K 1 3 M = some (0, M) := rfl
theorem kw_2_0 (N : Nat) (K : oK) (M : oM) : f_X0_kindWith (N + 8) K 2 0 M = some (0, M) := rfl
theorem kw_2_1 (N : Nat) (K : oK) (M : oM) : f_X0_kindWith (N + 8) K 2 1 M = some (2, M) := rfl
theorem kw_2_2 (N : Nat) (K : oK) (M : oM) : f_X0_kindWith (N + 8) K 2 2 M = some (0, M) := rfl
theorem kw_2_3 (N : Nat) (K : oK) (M : oM) : f_X0_kindWith (N + 8) K 2 3 M = some (0, M) := rfl
theorem kw_3_0 (N : Nat) (K : oK) (M : oM) : f_X0_kindWith (N + 8) K 3 0 M = some (3, M) := rfl
theorem kw_3_1 (N : Nat) (K : oK) (M : oM) : f_X0_kindWith (N + 8) K 3 1 M = some (0, M) := rfl
theorem kw_3_2 (N : Nat) (K : oK) (M : oM) : f_X0_kindWith (N + 8) K 3 2 M = some (3, M) := rfl
theorem kw_3_3 (N : Nat) (K : oK) (M : oM) : f_X0_kindWith (N + 8) K 3 3 M = some (0, M) := rfl
theorem kw_4_0 (N : Nat) (K : oK) (M : oM) : f_X0_kindWith (N + 8) K 4 0 M = some (0, M) := rfl
theorem kw_4_1 (N : Nat) (K : oK) (M : oM) : f_X0_kindWith (N + 8) K 4 1 M = some (4, M) := rfl
theorem kw_4_2 (N : Nat) (K : oK) (M : oM) : f_X0_kindWith (N + 8) K 4 2 M = some (0, M) := rfl
theorem kw_4_3 (N : Nat) (K : oK) (M : oM) : f_X0_kindWith (N + 8) K 4 3 M = some (4, M) := rfl
theorem kw_5_0 (N : Nat) (K : oK) (M : oM) : f_X0_kindWith (N + 8) K 5 0 M = some (0, M) := rfl
theorem kw_5_1 (N : Nat) (K : oK) (M : oM) : f_X0_kindWith (N + 8) K 5 1 M = some (0, M) := rfl
theorem kw_5_2 (N : Nat) (K : oK) (M : oM) : f_X0_kindWith (N + 8) K 5 2 M = some (5, M) := rfl
theorem kw_5_3 (N : Nat) (K : oK) (M : oM) : f_X0_kindWith (N + 8) K 5 3 M = some (0, M) := rfl
theorem st_0_0 (N : Nat) (K : oK) (n : Nat) (x d : Int32) (M : oM) (hd : d ≤ 40) (h : 0 ≤ (M.1 44 1).toInt ∧ (M.1 44 1).toInt < 24) : f_X0_run (N + 8) K (n + 1) 0 0 x d M = some ((x + (cb 1 M).1 44 2), (cb 1 M)) := by
  conv => lhs; unfold f_X0_run
  dsimp only
  rw [if_pos hd, kw_0_0, oB2_p, oIx_p (by decide) (by decide), oIx_p (by decide) (by decide), beg0 _ _ _ _ h, oB2_p]
  rfl
theorem st_0_1 (N : Nat) (K : oK) (n : Nat) (x d : Int32) (M : oM) (hd : d ≤ 40) (h : 0 ≤ (M.1 44 1).toInt ∧ (M.1 44 1).toInt < 24) : f_X0_run (N + 8) K (n + 1) 0 1 x d M = oB2 (f_X0_run (N + 8) K n (M.1 44 4) 0 x (d + 1) (cb 10 M)) (fun v M => some ((v * 2), M)) := by
  conv => lhs; unfold f_X0_run
  dsimp only
  rw [if_pos hd, kw_0_1, oB2_p, oIx_p (by decide) (by decide), oIx_p (by decide) (by decide), beg0 _ _ _ _ h, oB2_p]
  rfl
theorem st_0_2 (N : Nat) (K : oK) (n : Nat) (x d : Int32) (M : oM) (hd : d ≤ 40) (h : 0 ≤ (M.1 44 1).toInt ∧ (M.1 44 1).toInt < 24) : f_X0_run (N + 8) K (n + 1) 0 2 x d M = some ((x ^^^ (cb 11 M).1 44 2), (cb 11 M)) := by
  conv => lhs; unfold f_X0_run
  dsimp only
  rw [if_pos hd, kw_0_2, oB2_p, oIx_p (by decide) (by decide), oIx_p (by decide) (by decide), beg0 _ _ _ _ h, oB2_p]
  rfl
theorem st_0_3 (N : Nat) (K : oK) (n : Nat) (x d : Int32) (M : oM) (hd : d ≤ 40) (h : 0 ≤ (M.1 44 1).toInt ∧ (M.1 44 1).toInt < 24) : f_X0_run (N + 8) K (n + 1) 0 3 x d M = oB2 (f_X0_run (N + 8) K n (M.1 44 4) 1 x (d + 1) (cb 2 M)) (fun v10 M11 => oB2 (f_X0_run (N + 8) K n (M.1 44 4) 2 1 (d + 1) M11) (fun v13 M14 => some ((v10 - v13), M14))) := by
  conv => lhs; unfold f_X0_run
  dsimp only
  rw [if_pos hd, kw_0_3, oB2_p, oIx_p (by decide) (by decide), oIx_p (by decide) (by decide), beg0 _ _ _ _ h, oB2_p]
  rfl
theorem st_1_0 (N : Nat) (K : oK) (n : Nat) (x d : Int32) (M : oM) (hd : d ≤ 40) (h : 0 ≤ (M.1 44 1).toInt ∧ (M.1 44 1).toInt < 24) : f_X0_run (N + 8) K (n + 1) 1 0 x d M = some ((x + (cb 1 M).1 44 2), (cb 1 M)) := by
  conv => lhs; unfold f_X0_run
  dsimp only
  rw [if_pos hd, kw_1_0, oB2_p, oIx_p (by decide) (by decide), oIx_p (by decide) (by decide), beg0 _ _ _ _ h, oB2_p]
  rfl
theorem st_1_1 (N : Nat) (K : oK) (n : Nat) (x d : Int32) (M : oM) (hd : d ≤ 40) (h : 0 ≤ (M.1 44 1).toInt ∧ (M.1 44 1).toInt < 24) : f_X0_run (N + 8) K (n + 1) 1 1 x d M = oB2 (f_X0_run (N + 8) K n (M.1 44 4) 0 x (d + 1) (cb 10 M)) (fun v M => some ((v * 2), M)) := by
  conv => lhs; unfold f_X0_run
  dsimp only
  rw [if_pos hd, kw_1_1, oB2_p, oIx_p (by decide) (by decide), oIx_p (by decide) (by decide), beg0 _ _ _ _ h, oB2_p]
  rfl
theorem st_1_2 (N : Nat) (K : oK) (n : Nat) (x d : Int32) (M : oM) (hd : d ≤ 40) (h : 0 ≤ (M.1 44 1).toInt ∧ (M.1 44 1).toInt < 24) : f_X0_run (N + 8) K (n + 1) 1 2 x d M = oB2 (f_X0_run (N + 8) K n 0 2 x (d + 1) (cb 20 M)) (fun v M => some ((v + M.1 44 3), M)) := by
  conv => lhs; unfold f_X0_run
  dsimp only
  rw [if_pos hd, kw_1_2, oB2_p, oIx_p (by decide) (by decide), oIx_p (by decide) (by decide), beg0 _ _ _ _ h, oB2_p]
  rfl
theorem st_1_3 (N : Nat) (K : oK) (n : Nat) (x d : Int32) (M : oM) (hd : d ≤ 40) (h : 0 ≤ (M.1 44 1).toInt ∧ (M.1 44 1).toInt < 24) : f_X0_run (N + 8) K (n + 1) 1 3 x d M = oB2 (f_X0_run (N + 8) K n (M.1 44 4) 1 x (d + 1) (cb 2 M)) (fun v10 M11 => oB2 (f_X0_run (N + 8) K n (M.1 44 4) 2 1 (d + 1) M11) (fun v13 M14 => some ((v10 - v13), M14))) := by
  conv => lhs; unfold f_X0_run
  dsimp only
  rw [if_pos hd, kw_1_3, oB2_p, oIx_p (by decide) (by decide), oIx_p (by decide) (by decide), beg0 _ _ _ _ h, oB2_p]
  rfl
theorem st_2_0 (N : Nat) (K : oK) (n : Nat) (x d : Int32) (M : oM) (hd : d ≤ 40) (h : 0 ≤ (M.1 44 1).toInt ∧ (M.1 44 1).toInt < 24) : f_X0_run (N + 8) K (n + 1) 2 0 x d M = some ((x + (cb 1 M).1 44 2), (cb 1 M)) := by
  conv => lhs; unfold f_X0_run
  dsimp only
  rw [if_pos hd, kw_2_0, oB2_p, oIx_p (by decide) (by decide), oIx_p (by decide) (by decide), beg0 _ _ _ _ h, oB2_p]
  rfl
theorem st_2_1 (N : Nat) (K : oK) (n : Nat) (x d : Int32) (M : oM) (hd : d ≤ 40) (h : 0 ≤ (M.1 44 1).toInt ∧ (M.1 44 1).toInt < 24) : f_X0_run (N + 8) K (n + 1) 2 1 x d M = oB2 (f_X0_run (N + 8) K n 0 1 x (d + 1) (cb 30 M)) (fun v M => some ((-v), M)) := by
  conv => lhs; unfold f_X0_run
  dsimp only
  rw [if_pos hd, kw_2_1, oB2_p, oIx_p (by decide) (by decide), oIx_p (by decide) (by decide), beg0 _ _ _ _ h, oB2_p]
  rfl
theorem st_2_2 (N : Nat) (K : oK) (n : Nat) (x d : Int32) (M : oM) (hd : d ≤ 40) (h : 0 ≤ (M.1 44 1).toInt ∧ (M.1 44 1).toInt < 24) : f_X0_run (N + 8) K (n + 1) 2 2 x d M = some ((x ^^^ (cb 11 M).1 44 2), (cb 11 M)) := by
  conv => lhs; unfold f_X0_run
  dsimp only
  rw [if_pos hd, kw_2_2, oB2_p, oIx_p (by decide) (by decide), oIx_p (by decide) (by decide), beg0 _ _ _ _ h, oB2_p]
  rfl
theorem st_2_3 (N : Nat) (K : oK) (n : Nat) (x d : Int32) (M : oM) (hd : d ≤ 40) (h : 0 ≤ (M.1 44 1).toInt ∧ (M.1 44 1).toInt < 24) : f_X0_run (N + 8) K (n + 1) 2 3 x d M = oB2 (f_X0_run (N + 8) K n (M.1 44 4) 1 x (d + 1) (cb 2 M)) (fun v10 M11 => oB2 (f_X0_run (N + 8) K n (M.1 44 4) 2 1 (d + 1) M11) (fun v13 M14 => some ((v10 - v13), M14))) := by
  conv => lhs; unfold f_X0_run
  dsimp only
  rw [if_pos hd, kw_2_3, oB2_p, oIx_p (by decide) (by decide), oIx_p (by decide) (by decide), beg0 _ _ _ _ h, oB2_p]
  rfl
theorem st_3_0 (N : Nat) (K : oK) (n : Nat) (x d : Int32) (M : oM) (hd : d ≤ 40) (h : 0 ≤ (M.1 44 1).toInt ∧ (M.1 44 1).toInt < 24) : f_X0_run (N + 8) K (n + 1) 3 0 x d M = oB2 (f_X0_run (N + 8) K n 1 0 x (d + 1) (cb 40 M)) (fun v M => some ((v * 3), M)) := by
  conv => lhs; unfold f_X0_run
  dsimp only
  rw [if_pos hd, kw_3_0, oB2_p, oIx_p (by decide) (by decide), oIx_p (by decide) (by decide), beg0 _ _ _ _ h, oB2_p]
  rfl
theorem st_3_1 (N : Nat) (K : oK) (n : Nat) (x d : Int32) (M : oM) (hd : d ≤ 40) (h : 0 ≤ (M.1 44 1).toInt ∧ (M.1 44 1).toInt < 24) : f_X0_run (N + 8) K (n + 1) 3 1 x d M = oB2 (f_X0_run (N + 8) K n (M.1 44 4) 0 x (d + 1) (cb 10 M)) (fun v M => some ((v * 2), M)) := by
  conv => lhs; unfold f_X0_run
  dsimp only
  rw [if_pos hd, kw_3_1, oB2_p, oIx_p (by decide) (by decide), oIx_p (by decide) (by decide), beg0 _ _ _ _ h, oB2_p]
  rfl
theorem st_3_2 (N : Nat) (K : oK) (n : Nat) (x d : Int32) (M : oM) (hd : d ≤ 40) (h : 0 ≤ (M.1 44 1).toInt ∧ (M.1 44 1).toInt < 24) : f_X0_run (N + 8) K (n + 1) 3 2 x d M = oB2 (f_X0_run (N + 8) K n 1 2 (x + 1) (d + 1) (cb 41 M)) (fun v M => some (v, M)) := by
  conv => lhs; unfold f_X0_run
  dsimp only
  rw [if_pos hd, kw_3_2, oB2_p, oIx_p (by decide) (by decide), oIx_p (by decide) (by decide), beg0 _ _ _ _ h, oB2_p]
  rfl
theorem st_3_3 (N : Nat) (K : oK) (n : Nat) (x d : Int32) (M : oM) (hd : d ≤ 40) (h : 0 ≤ (M.1 44 1).toInt ∧ (M.1 44 1).toInt < 24) : f_X0_run (N + 8) K (n + 1) 3 3 x d M = oB2 (f_X0_run (N + 8) K n (M.1 44 4) 1 x (d + 1) (cb 2 M)) (fun v10 M11 => oB2 (f_X0_run (N + 8) K n (M.1 44 4) 2 1 (d + 1) M11) (fun v13 M14 => some ((v10 - v13), M14))) := by
  conv => lhs; unfold f_X0_run
  dsimp only
  rw [if_pos hd, kw_3_3, oB2_p, oIx_p (by decide) (by decide), oIx_p (by decide) (by decide), beg0 _ _ _ _ h, oB2_p]
  rfl
theorem st_4_0 (N : Nat) (K : oK) (n : Nat) (x d : Int32) (M : oM) (hd : d ≤ 40) (h : 0 ≤ (M.1 44 1).toInt ∧ (M.1 44 1).toInt < 24) : f_X0_run (N + 8) K (n + 1) 4 0 x d M = some ((x + (cb 1 M).1 44 2), (cb 1 M)) := by
  conv => lhs; unfold f_X0_run
  dsimp only
  rw [if_pos hd, kw_4_0, oB2_p, oIx_p (by decide) (by decide), oIx_p (by decide) (by decide), beg0 _ _ _ _ h, oB2_p]
  rfl
theorem st_4_1 (N : Nat) (K : oK) (n : Nat) (x d : Int32) (M : oM) (hd : d ≤ 40) (h : 0 ≤ (M.1 44 1).toInt ∧ (M.1 44 1).toInt < 24) : f_X0_run (N + 8) K (n + 1) 4 1 x d M = oB2 (f_X0_run (N + 8) K n 2 1 x (d + 1) (cb 51 M)) (fun v10 M11 => oB2 (f_X0_run (N + 8) K n (M.1 44 4) 2 2 (d + 1) M11) (fun v13 M14 => some ((v10 + v13), M14))) := by
  conv => lhs; unfold f_X0_run
  dsimp only
  rw [if_pos hd, kw_4_1, oB2_p, oIx_p (by decide) (by decide), oIx_p (by decide) (by decide), beg0 _ _ _ _ h, oB2_p]
  rfl
theorem st_4_2 (N : Nat) (K : oK) (n : Nat) (x d : Int32) (M : oM) (hd : d ≤ 40) (h : 0 ≤ (M.1 44 1).toInt ∧ (M.1 44 1).toInt < 24) : f_X0_run (N + 8) K (n + 1) 4 2 x d M = some ((x ^^^ (cb 11 M).1 44 2), (cb 11 M)) := by
  conv => lhs; unfold f_X0_run
  dsimp only
  rw [if_pos hd, kw_4_2, oB2_p, oIx_p (by decide) (by decide), oIx_p (by decide) (by decide), beg0 _ _ _ _ h, oB2_p]
  rfl
theorem st_4_3 (N : Nat) (K : oK) (n : Nat) (x d : Int32) (M : oM) (hd : d ≤ 40) (h : 0 ≤ (M.1 44 1).toInt ∧ (M.1 44 1).toInt < 24) : f_X0_run (N + 8) K (n + 1) 4 3 x d M = oB2 (f_X0_run (N + 8) K n 2 3 x (d + 1) (cb 50 M)) (fun v M => some ((v ^^^ 5), M)) := by
  conv => lhs; unfold f_X0_run
  dsimp only
  rw [if_pos hd, kw_4_3, oB2_p, oIx_p (by decide) (by decide), oIx_p (by decide) (by decide), beg0 _ _ _ _ h, oB2_p]
  rfl
theorem st_5_0 (N : Nat) (K : oK) (n : Nat) (x d : Int32) (M : oM) (hd : d ≤ 40) (h : 0 ≤ (M.1 44 1).toInt ∧ (M.1 44 1).toInt < 24) : f_X0_run (N + 8) K (n + 1) 5 0 x d M = some ((x + (cb 1 M).1 44 2), (cb 1 M)) := by
  conv => lhs; unfold f_X0_run
  dsimp only
  rw [if_pos hd, kw_5_0, oB2_p, oIx_p (by decide) (by decide), oIx_p (by decide) (by decide), beg0 _ _ _ _ h, oB2_p]
  rfl
theorem st_5_1 (N : Nat) (K : oK) (n : Nat) (x d : Int32) (M : oM) (hd : d ≤ 40) (h : 0 ≤ (M.1 44 1).toInt ∧ (M.1 44 1).toInt < 24) : f_X0_run (N + 8) K (n + 1) 5 1 x d M = oB2 (f_X0_run (N + 8) K n (M.1 44 4) 0 x (d + 1) (cb 10 M)) (fun v M => some ((v * 2), M)) := by
  conv => lhs; unfold f_X0_run
  dsimp only
  rw [if_pos hd, kw_5_1, oB2_p, oIx_p (by decide) (by decide), oIx_p (by decide) (by decide), beg0 _ _ _ _ h, oB2_p]
  rfl
theorem st_5_2 (N : Nat) (K : oK) (n : Nat) (x d : Int32) (M : oM) (hd : d ≤ 40) (h : 0 ≤ (M.1 44 1).toInt ∧ (M.1 44 1).toInt < 24) : f_X0_run (N + 8) K (n + 1) 5 2 x d M = oB2 (f_X0_run (N + 8) K n 0 2 x (d + 1) (cb 60 M)) (fun v10 M11 => oB2 (f_X0_run (N + 8) K n (M.1 44 4) 0 1 (d + 1) M11) (fun v13 M14 => some ((v10 - v13), M14))) := by
  conv => lhs; unfold f_X0_run
  dsimp only
  rw [if_pos hd, kw_5_2, oB2_p, oIx_p (by decide) (by decide), oIx_p (by decide) (by decide), beg0 _ _ _ _ h, oB2_p]
  rfl
theorem st_5_3 (N : Nat) (K : oK) (n : Nat) (x d : Int32) (M : oM) (hd : d ≤ 40) (h : 0 ≤ (M.1 44 1).toInt ∧ (M.1 44 1).toInt < 24) : f_X0_run (N + 8) K (n + 1) 5 3 x d M = oB2 (f_X0_run (N + 8) K n (M.1 44 4) 1 x (d + 1) (cb 2 M)) (fun v10 M11 => oB2 (f_X0_run (N + 8) K n (M.1 44 4) 2 1 (d + 1) M11) (fun v13 M14 => some ((v10 - v13), M14))) := by
  conv => lhs; unfold f_X0_run
  dsimp only
  rw [if_pos hd, kw_5_3, oB2_p, oIx_p (by decide) (by decide), oIx_p (by decide) (by decide), beg0 _ _ _ _ h, oB2_p]
  rfl
def acB (own act : Nat) : List Int32 := match own, act with
  | 0, 0 => [1]
  | 0, 1 => [10, 1]
  | 0, 2 => [11]
  | 0, 3 => [2, 10, 1, 11]
  | 1, 0 => [1]
  | 1, 1 => [10, 1]
  | 1, 2 => [20, 11]
  | 1, 3 => [2, 10, 1, 20, 11]
  | 2, 0 => [1]
  | 2, 1 => [30, 10, 1]
  | 2, 2 => [11]
  | 2, 3 => [2, 30, 10, 1, 11]
  | 3, 0 => [40, 1]
  | 3, 1 => [10, 40, 1]
  | 3, 2 => [41, 20, 11]
  | 3, 3 => [2, 10, 40, 1, 41, 20, 11]
  | 4, 0 => [1]
  | 4, 1 => [51, 30, 10, 1, 11]
  | 4, 2 => [11]
  | 4, 3 => [50, 2, 51, 30, 10, 1, 11, 11]
  | 5, 0 => [1]
  | 5, 1 => [10, 1]
  | 5, 2 => [60, 11, 1]
  | 5, 3 => [2, 10, 1, 60, 11, 1]
  | _, _ => []
def acV (own act : Nat) (x n c : Int32) : Int32 := match own, act with
  | 0, 0 => (x + n)
  | 0, 1 => ((x + n) * 2)
  | 0, 2 => (x ^^^ n)
  | 0, 3 => (((x + n) * 2) - (1 ^^^ n))
  | 1, 0 => (x + n)
  | 1, 1 => ((x + n) * 2)
  | 1, 2 => ((x ^^^ n) + c)
  | 1, 3 => (((x + n) * 2) - ((1 ^^^ n) + c))
  | 2, 0 => (x + n)
  | 2, 1 => (-((x + n) * 2))
  | 2, 2 => (x ^^^ n)
  | 2, 3 => ((-((x + n) * 2)) - (1 ^^^ n))
  | 3, 0 => ((x + n) * 3)
  | 3, 1 => (((x + n) * 3) * 2)
  | 3, 2 => (((x + 1) ^^^ n) + c)
  | 3, 3 => ((((x + n) * 3) * 2) - (((1 + 1) ^^^ n) + c))
  | 4, 0 => (x + n)
  | 4, 1 => ((-((x + n) * 2)) + (2 ^^^ n))
  | 4, 2 => (x ^^^ n)
  | 4, 3 => ((((-((x + n) * 2)) + (2 ^^^ n)) - (1 ^^^ n)) ^^^ 5)
  | 5, 0 => (x + n)
  | 5, 1 => ((x + n) * 2)
  | 5, 2 => ((x ^^^ n) - (1 + n))
  | 5, 3 => (((x + n) * 2) - ((1 ^^^ n) - (1 + n)))
  | _, _ => 0
theorem ac_0_0 (N : Nat) (K : oK) (M : oM) (x n c : Int32) (h1 : M.1 44 1 = 0) (h2 : M.1 44 2 = n) (h3 : M.1 44 3 = c) (h4 : M.1 44 4 = 0) : f_X0_run (N + 8) K 20 0 0 x 0 M = some (acV 0 0 x n c, cbs (acB 0 0) M) := by
  simp [st_0_0, st_0_1, st_0_2, st_0_3, st_1_0, st_1_1, st_1_2, st_1_3, st_2_0, st_2_1, st_2_2, st_2_3, st_3_0, st_3_1, st_3_2, st_3_3, st_4_0, st_4_1, st_4_2, st_4_3, st_5_0, st_5_1, st_5_2, st_5_3, oB2_p, cb_1, cb_2, cb_3, cb_4, h1, h2, h3, h4, acV, acB, cbs]
theorem ac_0_1 (N : Nat) (K : oK) (M : oM) (x n c : Int32) (h1 : M.1 44 1 = 0) (h2 : M.1 44 2 = n) (h3 : M.1 44 3 = c) (h4 : M.1 44 4 = 0) : f_X0_run (N + 8) K 20 0 1 x 0 M = some (acV 0 1 x n c, cbs (acB 0 1) M) := by
  simp [st_0_0, st_0_1, st_0_2, st_0_3, st_1_0, st_1_1, st_1_2, st_1_3, st_2_0, st_2_1, st_2_2, st_2_3, st_3_0, st_3_1, st_3_2, st_3_3, st_4_0, st_4_1, st_4_2, st_4_3, st_5_0, st_5_1, st_5_2, st_5_3, oB2_p, cb_1, cb_2, cb_3, cb_4, h1, h2, h3, h4, acV, acB, cbs]
theorem ac_0_2 (N : Nat) (K : oK) (M : oM) (x n c : Int32) (h1 : M.1 44 1 = 0) (h2 : M.1 44 2 = n) (h3 : M.1 44 3 = c) (h4 : M.1 44 4 = 0) : f_X0_run (N + 8) K 20 0 2 x 0 M = some (acV 0 2 x n c, cbs (acB 0 2) M) := by
  simp [st_0_0, st_0_1, st_0_2, st_0_3, st_1_0, st_1_1, st_1_2, st_1_3, st_2_0, st_2_1, st_2_2, st_2_3, st_3_0, st_3_1, st_3_2, st_3_3, st_4_0, st_4_1, st_4_2, st_4_3, st_5_0, st_5_1, st_5_2, st_5_3, oB2_p, cb_1, cb_2, cb_3, cb_4, h1, h2, h3, h4, acV, acB, cbs]
theorem ac_0_3 (N : Nat) (K : oK) (M : oM) (x n c : Int32) (h1 : M.1 44 1 = 0) (h2 : M.1 44 2 = n) (h3 : M.1 44 3 = c) (h4 : M.1 44 4 = 0) : f_X0_run (N + 8) K 20 0 3 x 0 M = some (acV 0 3 x n c, cbs (acB 0 3) M) := by
  simp [st_0_0, st_0_1, st_0_2, st_0_3, st_1_0, st_1_1, st_1_2, st_1_3, st_2_0, st_2_1, st_2_2, st_2_3, st_3_0, st_3_1, st_3_2, st_3_3, st_4_0, st_4_1, st_4_2, st_4_3, st_5_0, st_5_1, st_5_2, st_5_3, oB2_p, cb_1, cb_2, cb_3, cb_4, h1, h2, h3, h4, acV, acB, cbs]
theorem ac_1_0 (N : Nat) (K : oK) (M : oM) (x n c : Int32) (h1 : M.1 44 1 = 0) (h2 : M.1 44 2 = n) (h3 : M.1 44 3 = c) (h4 : M.1 44 4 = 1) : f_X0_run (N + 8) K 20 1 0 x 0 M = some (acV 1 0 x n c, cbs (acB 1 0) M) := by
  simp [st_0_0, st_0_1, st_0_2, st_0_3, st_1_0, st_1_1, st_1_2, st_1_3, st_2_0, st_2_1, st_2_2, st_2_3, st_3_0, st_3_1, st_3_2, st_3_3, st_4_0, st_4_1, st_4_2, st_4_3, st_5_0, st_5_1, st_5_2, st_5_3, oB2_p, cb_1, cb_2, cb_3, cb_4, h1, h2, h3, h4, acV, acB, cbs]
theorem ac_1_1 (N : Nat) (K : oK) (M : oM) (x n c : Int32) (h1 : M.1 44 1 = 0) (h2 : M.1 44 2 = n) (h3 : M.1 44 3 = c) (h4 : M.1 44 4 = 1) : f_X0_run (N + 8) K 20 1 1 x 0 M = some (acV 1 1 x n c, cbs (acB 1 1) M) := by
  simp [st_0_0, st_0_1, st_0_2, st_0_3, st_1_0, st_1_1, st_1_2, st_1_3, st_2_0, st_2_1, st_2_2, st_2_3, st_3_0, st_3_1, st_3_2, st_3_3, st_4_0, st_4_1, st_4_2, st_4_3, st_5_0, st_5_1, st_5_2, st_5_3, oB2_p, cb_1, cb_2, cb_3, cb_4, h1, h2, h3, h4, acV, acB, cbs]
theorem ac_1_2 (N : Nat) (K : oK) (M : oM) (x n c : Int32) (h1 : M.1 44 1 = 0) (h2 : M.1 44 2 = n) (h3 : M.1 44 3 = c) (h4 : M.1 44 4 = 1) : f_X0_run (N + 8) K 20 1 2 x 0 M = some (acV 1 2 x n c, cbs (acB 1 2) M) := by
  simp [st_0_0, st_0_1, st_0_2, st_0_3, st_1_0, st_1_1, st_1_2, st_1_3, st_2_0, st_2_1, st_2_2, st_2_3, st_3_0, st_3_1, st_3_2, st_3_3, st_4_0, st_4_1, st_4_2, st_4_3, st_5_0, st_5_1, st_5_2, st_5_3, oB2_p, cb_1, cb_2, cb_3, cb_4, h1, h2, h3, h4, acV, acB, cbs]
theorem ac_1_3 (N : Nat) (K : oK) (M : oM) (x n c : Int32) (h1 : M.1 44 1 = 0) (h2 : M.1 44 2 = n) (h3 : M.1 44 3 = c) (h4 : M.1 44 4 = 1) : f_X0_run (N + 8) K 20 1 3 x 0 M = some (acV 1 3 x n c, cbs (acB 1 3) M) := by
  simp [st_0_0, st_0_1, st_0_2, st_0_3, st_1_0, st_1_1, st_1_2, st_1_3, st_2_0, st_2_1, st_2_2, st_2_3, st_3_0, st_3_1, st_3_2, st_3_3, st_4_0, st_4_1, st_4_2, st_4_3, st_5_0, st_5_1, st_5_2, st_5_3, oB2_p, cb_1, cb_2, cb_3, cb_4, h1, h2, h3, h4, acV, acB, cbs]
theorem ac_2_0 (N : Nat) (K : oK) (M : oM) (x n c : Int32) (h1 : M.1 44 1 = 0) (h2 : M.1 44 2 = n) (h3 : M.1 44 3 = c) (h4 : M.1 44 4 = 2) : f_X0_run (N + 8) K 20 2 0 x 0 M = some (acV 2 0 x n c, cbs (acB 2 0) M) := by
  simp [st_0_0, st_0_1, st_0_2, st_0_3, st_1_0, st_1_1, st_1_2, st_1_3, st_2_0, st_2_1, st_2_2, st_2_3, st_3_0, st_3_1, st_3_2, st_3_3, st_4_0, st_4_1, st_4_2, st_4_3, st_5_0, st_5_1, st_5_2, st_5_3, oB2_p, cb_1, cb_2, cb_3, cb_4, h1, h2, h3, h4, acV, acB, cbs]
theorem ac_2_1 (N : Nat) (K : oK) (M : oM) (x n c : Int32) (h1 : M.1 44 1 = 0) (h2 : M.1 44 2 = n) (h3 : M.1 44 3 = c) (h4 : M.1 44 4 = 2) : f_X0_run (N + 8) K 20 2 1 x 0 M = some (acV 2 1 x n c, cbs (acB 2 1) M) := by
  simp [st_0_0, st_0_1, st_0_2, st_0_3, st_1_0, st_1_1, st_1_2, st_1_3, st_2_0, st_2_1, st_2_2, st_2_3, st_3_0, st_3_1, st_3_2, st_3_3, st_4_0, st_4_1, st_4_2, st_4_3, st_5_0, st_5_1, st_5_2, st_5_3, oB2_p, cb_1, cb_2, cb_3, cb_4, h1, h2, h3, h4, acV, acB, cbs]
theorem ac_2_2 (N : Nat) (K : oK) (M : oM) (x n c : Int32) (h1 : M.1 44 1 = 0) (h2 : M.1 44 2 = n) (h3 : M.1 44 3 = c) (h4 : M.1 44 4 = 2) : f_X0_run (N + 8) K 20 2 2 x 0 M = some (acV 2 2 x n c, cbs (acB 2 2) M) := by
  simp [st_0_0, st_0_1, st_0_2, st_0_3, st_1_0, st_1_1, st_1_2, st_1_3, st_2_0, st_2_1, st_2_2, st_2_3, st_3_0, st_3_1, st_3_2, st_3_3, st_4_0, st_4_1, st_4_2, st_4_3, st_5_0, st_5_1, st_5_2, st_5_3, oB2_p, cb_1, cb_2, cb_3, cb_4, h1, h2, h3, h4, acV, acB, cbs]
theorem ac_2_3 (N : Nat) (K : oK) (M : oM) (x n c : Int32) (h1 : M.1 44 1 = 0) (h2 : M.1 44 2 = n) (h3 : M.1 44 3 = c) (h4 : M.1 44 4 = 2) : f_X0_run (N + 8) K 20 2 3 x 0 M = some (acV 2 3 x n c, cbs (acB 2 3) M) := by
  simp [st_0_0, st_0_1, st_0_2, st_0_3, st_1_0, st_1_1, st_1_2, st_1_3, st_2_0, st_2_1, st_2_2, st_2_3, st_3_0, st_3_1, st_3_2, st_3_3, st_4_0, st_4_1, st_4_2, st_4_3, st_5_0, st_5_1, st_5_2, st_5_3, oB2_p, cb_1, cb_2, cb_3, cb_4, h1, h2, h3, h4, acV, acB, cbs]
theorem ac_3_0 (N : Nat) (K : oK) (M : oM) (x n c : Int32) (h1 : M.1 44 1 = 0) (h2 : M.1 44 2 = n) (h3 : M.1 44 3 = c) (h4 : M.1 44 4 = 3) : f_X0_run (N + 8) K 20 3 0 x 0 M = some (acV 3 0 x n c, cbs (acB 3 0) M) := by
  simp [st_0_0, st_0_1, st_0_2, st_0_3, st_1_0, st_1_1, st_1_2, st_1_3, st_2_0, st_2_1, st_2_2, st_2_3, st_3_0, st_3_1, st_3_2, st_3_3, st_4_0, st_4_1, st_4_2, st_4_3, st_5_0, st_5_1, st_5_2, st_5_3, oB2_p, cb_1, cb_2, cb_3, cb_4, h1, h2, h3, h4, acV, acB, cbs]
theorem ac_3_1 (N : Nat) (K : oK) (M : oM) (x n c : Int32) (h1 : M.1 44 1 = 0) (h2 : M.1 44 2 = n) (h3 : M.1 44 3 = c) (h4 : M.1 44 4 = 3) : f_X0_run (N + 8) K 20 3 1 x 0 M = some (acV 3 1 x n c, cbs (acB 3 1) M) := by
  simp [st_0_0, st_0_1, st_0_2, st_0_3, st_1_0, st_1_1, st_1_2, st_1_3, st_2_0, st_2_1, st_2_2, st_2_3, st_3_0, st_3_1, st_3_2, st_3_3, st_4_0, st_4_1, st_4_2, st_4_3, st_5_0, st_5_1, st_5_2, st_5_3, oB2_p, cb_1, cb_2, cb_3, cb_4, h1, h2, h3, h4, acV, acB, cbs]
theorem ac_3_2 (N : Nat) (K : oK) (M : oM) (x n c : Int32) (h1 : M.1 44 1 = 0) (h2 : M.1 44 2 = n) (h3 : M.1 44 3 = c) (h4 : M.1 44 4 = 3) : f_X0_run (N + 8) K 20 3 2 x 0 M = some (acV 3 2 x n c, cbs (acB 3 2) M) := by
  simp [st_0_0, st_0_1, st_0_2, st_0_3, st_1_0, st_1_1, st_1_2, st_1_3, st_2_0, st_2_1, st_2_2, st_2_3, st_3_0, st_3_1, st_3_2, st_3_3, st_4_0, st_4_1, st_4_2, st_4_3, st_5_0, st_5_1, st_5_2, st_5_3, oB2_p, cb_1, cb_2, cb_3, cb_4, h1, h2, h3, h4, acV, acB, cbs]
theorem ac_3_3 (N : Nat) (K : oK) (M : oM) (x n c : Int32) (h1 : M.1 44 1 = 0) (h2 : M.1 44 2 = n) (h3 : M.1 44 3 = c) (h4 : M.1 44 4 = 3) : f_X0_run (N + 8) K 20 3 3 x 0 M = some (acV 3 3 x n c, cbs (acB 3 3) M) := by
  simp [st_0_0, st_0_1, st_0_2, st_0_3, st_1_0, st_1_1, st_1_2, st_1_3, st_2_0, st_2_1, st_2_2, st_2_3, st_3_0, st_3_1, st_3_2, st_3_3, st_4_0, st_4_1, st_4_2, st_4_3, st_5_0, st_5_1, st_5_2, st_5_3, oB2_p, cb_1, cb_2, cb_3, cb_4, h1, h2, h3, h4, acV, acB, cbs]
theorem ac_4_0 (N : Nat) (K : oK) (M : oM) (x n c : Int32) (h1 : M.1 44 1 = 0) (h2 : M.1 44 2 = n) (h3 : M.1 44 3 = c) (h4 : M.1 44 4 = 4) : f_X0_run (N + 8) K 20 4 0 x 0 M = some (acV 4 0 x n c, cbs (acB 4 0) M) := by
  simp [st_0_0, st_0_1, st_0_2, st_0_3, st_1_0, st_1_1, st_1_2, st_1_3, st_2_0, st_2_1, st_2_2, st_2_3, st_3_0, st_3_1, st_3_2, st_3_3, st_4_0, st_4_1, st_4_2, st_4_3, st_5_0, st_5_1, st_5_2, st_5_3, oB2_p, cb_1, cb_2, cb_3, cb_4, h1, h2, h3, h4, acV, acB, cbs]
theorem ac_4_1 (N : Nat) (K : oK) (M : oM) (x n c : Int32) (h1 : M.1 44 1 = 0) (h2 : M.1 44 2 = n) (h3 : M.1 44 3 = c) (h4 : M.1 44 4 = 4) : f_X0_run (N + 8) K 20 4 1 x 0 M = some (acV 4 1 x n c, cbs (acB 4 1) M) := by
  simp [st_0_0, st_0_1, st_0_2, st_0_3, st_1_0, st_1_1, st_1_2, st_1_3, st_2_0, st_2_1, st_2_2, st_2_3, st_3_0, st_3_1, st_3_2, st_3_3, st_4_0, st_4_1, st_4_2, st_4_3, st_5_0, st_5_1, st_5_2, st_5_3, oB2_p, cb_1, cb_2, cb_3, cb_4, h1, h2, h3, h4, acV, acB, cbs]
theorem ac_4_2 (N : Nat) (K : oK) (M : oM) (x n c : Int32) (h1 : M.1 44 1 = 0) (h2 : M.1 44 2 = n) (h3 : M.1 44 3 = c) (h4 : M.1 44 4 = 4) : f_X0_run (N + 8) K 20 4 2 x 0 M = some (acV 4 2 x n c, cbs (acB 4 2) M) := by
  simp [st_0_0, st_0_1, st_0_2, st_0_3, st_1_0, st_1_1, st_1_2, st_1_3, st_2_0, st_2_1, st_2_2, st_2_3, st_3_0, st_3_1, st_3_2, st_3_3, st_4_0, st_4_1, st_4_2, st_4_3, st_5_0, st_5_1, st_5_2, st_5_3, oB2_p, cb_1, cb_2, cb_3, cb_4, h1, h2, h3, h4, acV, acB, cbs]
theorem ac_4_3 (N : Nat) (K : oK) (M : oM) (x n c : Int32) (h1 : M.1 44 1 = 0) (h2 : M.1 44 2 = n) (h3 : M.1 44 3 = c) (h4 : M.1 44 4 = 4) : f_X0_run (N + 8) K 20 4 3 x 0 M = some (acV 4 3 x n c, cbs (acB 4 3) M) := by
  simp [st_0_0, st_0_1, st_0_2, st_0_3, st_1_0, st_1_1, st_1_2, st_1_3, st_2_0, st_2_1, st_2_2, st_2_3, st_3_0, st_3_1, st_3_2, st_3_3, st_4_0, st_4_1, st_4_2, st_4_3, st_5_0, st_5_1, st_5_2, st_5_3, oB2_p, cb_1, cb_2, cb_3, cb_4, h1, h2, h3, h4, acV, acB, cbs]
theorem ac_5_0 (N : Nat) (K : oK) (M : oM) (x n c : Int32) (h1 : M.1 44 1 = 0) (h2 : M.1 44 2 = n) (h3 : M.1 44 3 = c) (h4 : M.1 44 4 = 5) : f_X0_run (N + 8) K 20 5 0 x 0 M = some (acV 5 0 x n c, cbs (acB 5 0) M) := by
  simp [st_0_0, st_0_1, st_0_2, st_0_3, st_1_0, st_1_1, st_1_2, st_1_3, st_2_0, st_2_1, st_2_2, st_2_3, st_3_0, st_3_1, st_3_2, st_3_3, st_4_0, st_4_1, st_4_2, st_4_3, st_5_0, st_5_1, st_5_2, st_5_3, oB2_p, cb_1, cb_2, cb_3, cb_4, h1, h2, h3, h4, acV, acB, cbs]
theorem ac_5_1 (N : Nat) (K : oK) (M : oM) (x n c : Int32) (h1 : M.1 44 1 = 0) (h2 : M.1 44 2 = n) (h3 : M.1 44 3 = c) (h4 : M.1 44 4 = 5) : f_X0_run (N + 8) K 20 5 1 x 0 M = some (acV 5 1 x n c, cbs (acB 5 1) M) := by
  simp [st_0_0, st_0_1, st_0_2, st_0_3, st_1_0, st_1_1, st_1_2, st_1_3, st_2_0, st_2_1, st_2_2, st_2_3, st_3_0, st_3_1, st_3_2, st_3_3, st_4_0, st_4_1, st_4_2, st_4_3, st_5_0, st_5_1, st_5_2, st_5_3, oB2_p, cb_1, cb_2, cb_3, cb_4, h1, h2, h3, h4, acV, acB, cbs]
theorem ac_5_2 (N : Nat) (K : oK) (M : oM) (x n c : Int32) (h1 : M.1 44 1 = 0) (h2 : M.1 44 2 = n) (h3 : M.1 44 3 = c) (h4 : M.1 44 4 = 5) : f_X0_run (N + 8) K 20 5 2 x 0 M = some (acV 5 2 x n c, cbs (acB 5 2) M) := by
  simp [st_0_0, st_0_1, st_0_2, st_0_3, st_1_0, st_1_1, st_1_2, st_1_3, st_2_0, st_2_1, st_2_2, st_2_3, st_3_0, st_3_1, st_3_2, st_3_3, st_4_0, st_4_1, st_4_2, st_4_3, st_5_0, st_5_1, st_5_2, st_5_3, oB2_p, cb_1, cb_2, cb_3, cb_4, h1, h2, h3, h4, acV, acB, cbs]
theorem ac_5_3 (N : Nat) (K : oK) (M : oM) (x n c : Int32) (h1 : M.1 44 1 = 0) (h2 : M.1 44 2 = n) (h3 : M.1 44 3 = c) (h4 : M.1 44 4 = 5) : f_X0_run (N + 8) K 20 5 3 x 0 M = some (acV 5 3 x n c, cbs (acB 5 3) M) := by
  simp [st_0_0, st_0_1, st_0_2, st_0_3, st_1_0, st_1_1, st_1_2, st_1_3, st_2_0, st_2_1, st_2_2, st_2_3, st_3_0, st_3_1, st_3_2, st_3_3, st_4_0, st_4_1, st_4_2, st_4_3, st_5_0, st_5_1, st_5_2, st_5_3, oB2_p, cb_1, cb_2, cb_3, cb_4, h1, h2, h3, h4, acV, acB, cbs]
theorem am_0_0 (N : Nat) (K : oK) (M : oM) (x l c : Int32) (h1 : M.1 59 59 = 0) (h2 : M.1 59 60 = 0) (h3 : M.1 59 61 = l) (h4 : M.1 76 l.toNatClampNeg = c) (l0 : 0 ≤ l.toInt) (l1 : l.toInt < 20) : f_X12_liftsAs N K 3 0 x M = some (acV 0 0 x l c, mbs (acB 0 0) M) := by
  have hx : ∀ A : Option (Int32 × oM), oIx l 20 A = A := fun A => oIx_p l0 l1
  simp [f_X12_liftsAs, f_X12_losesAs, f_X12_bearsAs, f_X12_tellsAs, beg12, oB2_p, mb_1, mb_2, mb_3, mb_4, h1, h2, h3, h4, hx, acV, acB, mbs]
theorem am_0_1 (N : Nat) (K : oK) (M : oM) (x l c : Int32) (h1 : M.1 59 59 = 0) (h2 : M.1 59 60 = 0) (h3 : M.1 59 61 = l) (h4 : M.1 76 l.toNatClampNeg = c) (l0 : 0 ≤ l.toInt) (l1 : l.toInt < 20) : f_X12_losesAs N K 4 0 x M = some (acV 0 1 x l c, mbs (acB 0 1) M) := by
  have hx : ∀ A : Option (Int32 × oM), oIx l 20 A = A := fun A => oIx_p l0 l1
  simp [f_X12_liftsAs, f_X12_losesAs, f_X12_bearsAs, f_X12_tellsAs, beg12, oB2_p, mb_1, mb_2, mb_3, mb_4, h1, h2, h3, h4, hx, acV, acB, mbs]
theorem am_0_2 (N : Nat) (K : oK) (M : oM) (x l c : Int32) (h1 : M.1 59 59 = 0) (h2 : M.1 59 60 = 0) (h3 : M.1 59 61 = l) (h4 : M.1 76 l.toNatClampNeg = c) (l0 : 0 ≤ l.toInt) (l1 : l.toInt < 20) : f_X12_bearsAs N K 3 0 x M = some (acV 0 2 x l c, mbs (acB 0 2) M) := by
  have hx : ∀ A : Option (Int32 × oM), oIx l 20 A = A := fun A => oIx_p l0 l1
  simp [f_X12_liftsAs, f_X12_losesAs, f_X12_bearsAs, f_X12_tellsAs, beg12, oB2_p, mb_1, mb_2, mb_3, mb_4, h1, h2, h3, h4, hx, acV, acB, mbs]
theorem am_0_3 (N : Nat) (K : oK) (M : oM) (x l c : Int32) (h1 : M.1 59 59 = 0) (h2 : M.1 59 60 = 0) (h3 : M.1 59 61 = l) (h4 : M.1 76 l.toNatClampNeg = c) (l0 : 0 ≤ l.toInt) (l1 : l.toInt < 20) : f_X12_tellsAs N K 3 0 x M = some (acV 0 3 x l c, mbs (acB 0 3) M) := by
  have hx : ∀ A : Option (Int32 × oM), oIx l 20 A = A := fun A => oIx_p l0 l1
  simp [f_X12_liftsAs, f_X12_losesAs, f_X12_bearsAs, f_X12_tellsAs, beg12, oB2_p, mb_1, mb_2, mb_3, mb_4, h1, h2, h3, h4, hx, acV, acB, mbs]
theorem am_1_0 (N : Nat) (K : oK) (M : oM) (x l c : Int32) (h1 : M.1 59 59 = 0) (h2 : M.1 59 60 = 1) (h3 : M.1 59 61 = l) (h4 : M.1 76 l.toNatClampNeg = c) (l0 : 0 ≤ l.toInt) (l1 : l.toInt < 20) : f_X12_liftsAs N K 3 1 x M = some (acV 1 0 x l c, mbs (acB 1 0) M) := by
  have hx : ∀ A : Option (Int32 × oM), oIx l 20 A = A := fun A => oIx_p l0 l1
  simp [f_X12_liftsAs, f_X12_losesAs, f_X12_bearsAs, f_X12_tellsAs, beg12, oB2_p, mb_1, mb_2, mb_3, mb_4, h1, h2, h3, h4, hx, acV, acB, mbs]
theorem am_1_1 (N : Nat) (K : oK) (M : oM) (x l c : Int32) (h1 : M.1 59 59 = 0) (h2 : M.1 59 60 = 1) (h3 : M.1 59 61 = l) (h4 : M.1 76 l.toNatClampNeg = c) (l0 : 0 ≤ l.toInt) (l1 : l.toInt < 20) : f_X12_losesAs N K 4 1 x M = some (acV 1 1 x l c, mbs (acB 1 1) M) := by
  have hx : ∀ A : Option (Int32 × oM), oIx l 20 A = A := fun A => oIx_p l0 l1
  simp [f_X12_liftsAs, f_X12_losesAs, f_X12_bearsAs, f_X12_tellsAs, beg12, oB2_p, mb_1, mb_2, mb_3, mb_4, h1, h2, h3, h4, hx, acV, acB, mbs]
theorem am_1_2 (N : Nat) (K : oK) (M : oM) (x l c : Int32) (h1 : M.1 59 59 = 0) (h2 : M.1 59 60 = 1) (h3 : M.1 59 61 = l) (h4 : M.1 76 l.toNatClampNeg = c) (l0 : 0 ≤ l.toInt) (l1 : l.toInt < 20) : f_X12_bearsAs N K 3 1 x M = some (acV 1 2 x l c, mbs (acB 1 2) M) := by
  have hx : ∀ A : Option (Int32 × oM), oIx l 20 A = A := fun A => oIx_p l0 l1
  simp [f_X12_liftsAs, f_X12_losesAs, f_X12_bearsAs, f_X12_tellsAs, beg12, oB2_p, mb_1, mb_2, mb_3, mb_4, h1, h2, h3, h4, hx, acV, acB, mbs]
theorem am_1_3 (N : Nat) (K : oK) (M : oM) (x l c : Int32) (h1 : M.1 59 59 = 0) (h2 : M.1 59 60 = 1) (h3 : M.1 59 61 = l) (h4 : M.1 76 l.toNatClampNeg = c) (l0 : 0 ≤ l.toInt) (l1 : l.toInt < 20) : f_X12_tellsAs N K 3 1 x M = some (acV 1 3 x l c, mbs (acB 1 3) M) := by
  have hx : ∀ A : Option (Int32 × oM), oIx l 20 A = A := fun A => oIx_p l0 l1
  simp [f_X12_liftsAs, f_X12_losesAs, f_X12_bearsAs, f_X12_tellsAs, beg12, oB2_p, mb_1, mb_2, mb_3, mb_4, h1, h2, h3, h4, hx, acV, acB, mbs]
theorem am_2_0 (N : Nat) (K : oK) (M : oM) (x l c : Int32) (h1 : M.1 59 59 = 0) (h2 : M.1 59 60 = 2) (h3 : M.1 59 61 = l) (h4 : M.1 76 l.toNatClampNeg = c) (l0 : 0 ≤ l.toInt) (l1 : l.toInt < 20) : f_X12_liftsAs N K 3 2 x M = some (acV 2 0 x l c, mbs (acB 2 0) M) := by
  have hx : ∀ A : Option (Int32 × oM), oIx l 20 A = A := fun A => oIx_p l0 l1
  simp [f_X12_liftsAs, f_X12_losesAs, f_X12_bearsAs, f_X12_tellsAs, beg12, oB2_p, mb_1, mb_2, mb_3, mb_4, h1, h2, h3, h4, hx, acV, acB, mbs]
theorem am_2_1 (N : Nat) (K : oK) (M : oM) (x l c : Int32) (h1 : M.1 59 59 = 0) (h2 : M.1 59 60 = 2) (h3 : M.1 59 61 = l) (h4 : M.1 76 l.toNatClampNeg = c) (l0 : 0 ≤ l.toInt) (l1 : l.toInt < 20) : f_X12_losesAs N K 4 2 x M = some (acV 2 1 x l c, mbs (acB 2 1) M) := by
  have hx : ∀ A : Option (Int32 × oM), oIx l 20 A = A := fun A => oIx_p l0 l1
  simp [f_X12_liftsAs, f_X12_losesAs, f_X12_bearsAs, f_X12_tellsAs, beg12, oB2_p, mb_1, mb_2, mb_3, mb_4, h1, h2, h3, h4, hx, acV, acB, mbs]
theorem am_2_2 (N : Nat) (K : oK) (M : oM) (x l c : Int32) (h1 : M.1 59 59 = 0) (h2 : M.1 59 60 = 2) (h3 : M.1 59 61 = l) (h4 : M.1 76 l.toNatClampNeg = c) (l0 : 0 ≤ l.toInt) (l1 : l.toInt < 20) : f_X12_bearsAs N K 3 2 x M = some (acV 2 2 x l c, mbs (acB 2 2) M) := by
  have hx : ∀ A : Option (Int32 × oM), oIx l 20 A = A := fun A => oIx_p l0 l1
  simp [f_X12_liftsAs, f_X12_losesAs, f_X12_bearsAs, f_X12_tellsAs, beg12, oB2_p, mb_1, mb_2, mb_3, mb_4, h1, h2, h3, h4, hx, acV, acB, mbs]
theorem am_2_3 (N : Nat) (K : oK) (M : oM) (x l c : Int32) (h1 : M.1 59 59 = 0) (h2 : M.1 59 60 = 2) (h3 : M.1 59 61 = l) (h4 : M.1 76 l.toNatClampNeg = c) (l0 : 0 ≤ l.toInt) (l1 : l.toInt < 20) : f_X12_tellsAs N K 3 2 x M = some (acV 2 3 x l c, mbs (acB 2 3) M) := by
  have hx : ∀ A : Option (Int32 × oM), oIx l 20 A = A := fun A => oIx_p l0 l1
  simp [f_X12_liftsAs, f_X12_losesAs, f_X12_bearsAs, f_X12_tellsAs, beg12, oB2_p, mb_1, mb_2, mb_3, mb_4, h1, h2, h3, h4, hx, acV, acB, mbs]
theorem am_3_0 (N : Nat) (K : oK) (M : oM) (x l c : Int32) (h1 : M.1 59 59 = 0) (h2 : M.1 59 60 = 3) (h3 : M.1 59 61 = l) (h4 : M.1 76 l.toNatClampNeg = c) (l0 : 0 ≤ l.toInt) (l1 : l.toInt < 20) : f_X12_liftsAs N K 3 3 x M = some (acV 3 0 x l c, mbs (acB 3 0) M) := by
  have hx : ∀ A : Option (Int32 × oM), oIx l 20 A = A := fun A => oIx_p l0 l1
  simp [f_X12_liftsAs, f_X12_losesAs, f_X12_bearsAs, f_X12_tellsAs, beg12, oB2_p, mb_1, mb_2, mb_3, mb_4, h1, h2, h3, h4, hx, acV, acB, mbs]
theorem am_3_1 (N : Nat) (K : oK) (M : oM) (x l c : Int32) (h1 : M.1 59 59 = 0) (h2 : M.1 59 60 = 3) (h3 : M.1 59 61 = l) (h4 : M.1 76 l.toNatClampNeg = c) (l0 : 0 ≤ l.toInt) (l1 : l.toInt < 20) : f_X12_losesAs N K 4 3 x M = some (acV 3 1 x l c, mbs (acB 3 1) M) := by
  have hx : ∀ A : Option (Int32 × oM), oIx l 20 A = A := fun A => oIx_p l0 l1
  simp [f_X12_liftsAs, f_X12_losesAs, f_X12_bearsAs, f_X12_tellsAs, beg12, oB2_p, mb_1, mb_2, mb_3, mb_4, h1, h2, h3, h4, hx, acV, acB, mbs]
theorem am_3_2 (N : Nat) (K : oK) (M : oM) (x l c : Int32) (h1 : M.1 59 59 = 0) (h2 : M.1 59 60 = 3) (h3 : M.1 59 61 = l) (h4 : M.1 76 l.toNatClampNeg = c) (l0 : 0 ≤ l.toInt) (l1 : l.toInt < 20) : f_X12_bearsAs N K 3 3 x M = some (acV 3 2 x l c, mbs (acB 3 2) M) := by
  have hx : ∀ A : Option (Int32 × oM), oIx l 20 A = A := fun A => oIx_p l0 l1
  simp [f_X12_liftsAs, f_X12_losesAs, f_X12_bearsAs, f_X12_tellsAs, beg12, oB2_p, mb_1, mb_2, mb_3, mb_4, h1, h2, h3, h4, hx, acV, acB, mbs]
theorem am_3_3 (N : Nat) (K : oK) (M : oM) (x l c : Int32) (h1 : M.1 59 59 = 0) (h2 : M.1 59 60 = 3) (h3 : M.1 59 61 = l) (h4 : M.1 76 l.toNatClampNeg = c) (l0 : 0 ≤ l.toInt) (l1 : l.toInt < 20) : f_X12_tellsAs N K 3 3 x M = some (acV 3 3 x l c, mbs (acB 3 3) M) := by
  have hx : ∀ A : Option (Int32 × oM), oIx l 20 A = A := fun A => oIx_p l0 l1
  simp [f_X12_liftsAs, f_X12_losesAs, f_X12_bearsAs, f_X12_tellsAs, beg12, oB2_p, mb_1, mb_2, mb_3, mb_4, h1, h2, h3, h4, hx, acV, acB, mbs]
theorem am_4_0 (N : Nat) (K : oK) (M : oM) (x l c : Int32) (h1 : M.1 59 59 = 0) (h2 : M.1 59 60 = 4) (h3 : M.1 59 61 = l) (h4 : M.1 76 l.toNatClampNeg = c) (l0 : 0 ≤ l.toInt) (l1 : l.toInt < 20) : f_X12_liftsAs N K 3 4 x M = some (acV 4 0 x l c, mbs (acB 4 0) M) := by
  have hx : ∀ A : Option (Int32 × oM), oIx l 20 A = A := fun A => oIx_p l0 l1
  simp [f_X12_liftsAs, f_X12_losesAs, f_X12_bearsAs, f_X12_tellsAs, beg12, oB2_p, mb_1, mb_2, mb_3, mb_4, h1, h2, h3, h4, hx, acV, acB, mbs]
theorem am_4_1 (N : Nat) (K : oK) (M : oM) (x l c : Int32) (h1 : M.1 59 59 = 0) (h2 : M.1 59 60 = 4) (h3 : M.1 59 61 = l) (h4 : M.1 76 l.toNatClampNeg = c) (l0 : 0 ≤ l.toInt) (l1 : l.toInt < 20) : f_X12_losesAs N K 4 4 x M = some (acV 4 1 x l c, mbs (acB 4 1) M) := by
  have hx : ∀ A : Option (Int32 × oM), oIx l 20 A = A := fun A => oIx_p l0 l1
  simp [f_X12_liftsAs, f_X12_losesAs, f_X12_bearsAs, f_X12_tellsAs, beg12, oB2_p, mb_1, mb_2, mb_3, mb_4, h1, h2, h3, h4, hx, acV, acB, mbs]
theorem am_4_2 (N : Nat) (K : oK) (M : oM) (x l c : Int32) (h1 : M.1 59 59 = 0) (h2 : M.1 59 60 = 4) (h3 : M.1 59 61 = l) (h4 : M.1 76 l.toNatClampNeg = c) (l0 : 0 ≤ l.toInt) (l1 : l.toInt < 20) : f_X12_bearsAs N K 3 4 x M = some (acV 4 2 x l c, mbs (acB 4 2) M) := by
  have hx : ∀ A : Option (Int32 × oM), oIx l 20 A = A := fun A => oIx_p l0 l1
  simp [f_X12_liftsAs, f_X12_losesAs, f_X12_bearsAs, f_X12_tellsAs, beg12, oB2_p, mb_1, mb_2, mb_3, mb_4, h1, h2, h3, h4, hx, acV, acB, mbs]
theorem am_4_3 (N : Nat) (K : oK) (M : oM) (x l c : Int32) (h1 : M.1 59 59 = 0) (h2 : M.1 59 60 = 4) (h3 : M.1 59 61 = l) (h4 : M.1 76 l.toNatClampNeg = c) (l0 : 0 ≤ l.toInt) (l1 : l.toInt < 20) : f_X12_tellsAs N K 3 4 x M = some (acV 4 3 x l c, mbs (acB 4 3) M) := by
  have hx : ∀ A : Option (Int32 × oM), oIx l 20 A = A := fun A => oIx_p l0 l1
  simp [f_X12_liftsAs, f_X12_losesAs, f_X12_bearsAs, f_X12_tellsAs, beg12, oB2_p, mb_1, mb_2, mb_3, mb_4, h1, h2, h3, h4, hx, acV, acB, mbs]
theorem am_5_0 (N : Nat) (K : oK) (M : oM) (x l c : Int32) (h1 : M.1 59 59 = 0) (h2 : M.1 59 60 = 5) (h3 : M.1 59 61 = l) (h4 : M.1 76 l.toNatClampNeg = c) (l0 : 0 ≤ l.toInt) (l1 : l.toInt < 20) : f_X12_liftsAs N K 3 5 x M = some (acV 5 0 x l c, mbs (acB 5 0) M) := by
  have hx : ∀ A : Option (Int32 × oM), oIx l 20 A = A := fun A => oIx_p l0 l1
  simp [f_X12_liftsAs, f_X12_losesAs, f_X12_bearsAs, f_X12_tellsAs, beg12, oB2_p, mb_1, mb_2, mb_3, mb_4, h1, h2, h3, h4, hx, acV, acB, mbs]
theorem am_5_1 (N : Nat) (K : oK) (M : oM) (x l c : Int32) (h1 : M.1 59 59 = 0) (h2 : M.1 59 60 = 5) (h3 : M.1 59 61 = l) (h4 : M.1 76 l.toNatClampNeg = c) (l0 : 0 ≤ l.toInt) (l1 : l.toInt < 20) : f_X12_losesAs N K 4 5 x M = some (acV 5 1 x l c, mbs (acB 5 1) M) := by
  have hx : ∀ A : Option (Int32 × oM), oIx l 20 A = A := fun A => oIx_p l0 l1
  simp [f_X12_liftsAs, f_X12_losesAs, f_X12_bearsAs, f_X12_tellsAs, beg12, oB2_p, mb_1, mb_2, mb_3, mb_4, h1, h2, h3, h4, hx, acV, acB, mbs]
theorem am_5_2 (N : Nat) (K : oK) (M : oM) (x l c : Int32) (h1 : M.1 59 59 = 0) (h2 : M.1 59 60 = 5) (h3 : M.1 59 61 = l) (h4 : M.1 76 l.toNatClampNeg = c) (l0 : 0 ≤ l.toInt) (l1 : l.toInt < 20) : f_X12_bearsAs N K 3 5 x M = some (acV 5 2 x l c, mbs (acB 5 2) M) := by
  have hx : ∀ A : Option (Int32 × oM), oIx l 20 A = A := fun A => oIx_p l0 l1
  simp [f_X12_liftsAs, f_X12_losesAs, f_X12_bearsAs, f_X12_tellsAs, beg12, oB2_p, mb_1, mb_2, mb_3, mb_4, h1, h2, h3, h4, hx, acV, acB, mbs]
theorem am_5_3 (N : Nat) (K : oK) (M : oM) (x l c : Int32) (h1 : M.1 59 59 = 0) (h2 : M.1 59 60 = 5) (h3 : M.1 59 61 = l) (h4 : M.1 76 l.toNatClampNeg = c) (l0 : 0 ≤ l.toInt) (l1 : l.toInt < 20) : f_X12_tellsAs N K 3 5 x M = some (acV 5 3 x l c, mbs (acB 5 3) M) := by
  have hx : ∀ A : Option (Int32 × oM), oIx l 20 A = A := fun A => oIx_p l0 l1
  simp [f_X12_liftsAs, f_X12_losesAs, f_X12_bearsAs, f_X12_tellsAs, beg12, oB2_p, mb_1, mb_2, mb_3, mb_4, h1, h2, h3, h4, hx, acV, acB, mbs]
theorem oC6 {x : Int32} (h0 : 0 ≤ x.toInt) (h1 : x.toInt ≤ 5) : x = 0 ∨ x = 1 ∨ x = 2 ∨ x = 3 ∨ x = 4 ∨ x = 5 := by
  simp only [oEqI, tl_0, tl_1, tl_2, tl_3, tl_4, tl_5]
  omega
theorem oC4 {x : Int32} (h0 : 0 ≤ x.toInt) (h1 : x.toInt ≤ 3) : x = 0 ∨ x = 1 ∨ x = 2 ∨ x = 3 := by
  simp only [oEqI, tl_0, tl_1, tl_2, tl_3]
  omega
theorem acAll (N : Nat) (K : oK) (M : oM) (w a x n c : Int32) (w0 : 0 ≤ w.toInt) (w1 : w.toInt ≤ 5) (a0 : 0 ≤ a.toInt) (a1 : a.toInt ≤ 3) (h1 : M.1 44 1 = 0) (h2 : M.1 44 2 = n) (h3 : M.1 44 3 = c) (h4 : M.1 44 4 = w) : f_X0_run (N + 8) K 20 w a x 0 M = some (acV w.toInt.toNat a.toInt.toNat x n c, cbs (acB w.toInt.toNat a.toInt.toNat) M) := by
  rcases oC6 w0 w1 with e | e | e | e | e | e <;> subst e <;> rcases oC4 a0 a1 with e | e | e | e <;> subst e
  · exact ac_0_0 N K M x n c h1 h2 h3 h4
  · exact ac_0_1 N K M x n c h1 h2 h3 h4
  · exact ac_0_2 N K M x n c h1 h2 h3 h4
  · exact ac_0_3 N K M x n c h1 h2 h3 h4
  · exact ac_1_0 N K M x n c h1 h2 h3 h4
  · exact ac_1_1 N K M x n c h1 h2 h3 h4
  · exact ac_1_2 N K M x n c h1 h2 h3 h4
  · exact ac_1_3 N K M x n c h1 h2 h3 h4
  · exact ac_2_0 N K M x n c h1 h2 h3 h4
  · exact ac_2_1 N K M x n c h1 h2 h3 h4
  · exact ac_2_2 N K M x n c h1 h2 h3 h4
  · exact ac_2_3 N K M x n c h1 h2 h3 h4
  · exact ac_3_0 N K M x n c h1 h2 h3 h4
  · exact ac_3_1 N K M x n c h1 h2 h3 h4
  · exact ac_3_2 N K M x n c h1 h2 h3 h4
  · exact ac_3_3 N K M x n c h1 h2 h3 h4
  · exact ac_4_0 N K M x n c h1 h2 h3 h4
  · exact ac_4_1 N K M x n c h1 h2 h3 h4
  · exact ac_4_2 N K M x n c h1 h2 h3 h4
  · exact ac_4_3 N K M x n c h1 h2 h3 h4
  · exact ac_5_0 N K M x n c h1 h2 h3 h4
  · exact ac_5_1 N K M x n c h1 h2 h3 h4
  · exact ac_5_2 N K M x n c h1 h2 h3 h4
  · exact ac_5_3 N K M x n c h1 h2 h3 h4
def actM (N : Nat) (K : oK) (w a x : Int32) (M : oM) : Option (Int32 × oM) := if a = 0 then f_X12_liftsAs N K 3 w x M else if a = 1 then f_X12_losesAs N K 4 w x M else if a = 2 then f_X12_bearsAs N K 3 w x M else f_X12_tellsAs N K 3 w x M
theorem amAll (N : Nat) (K : oK) (M : oM) (w a x l c : Int32) (w0 : 0 ≤ w.toInt) (w1 : w.toInt ≤ 5) (a0 : 0 ≤ a.toInt) (a1 : a.toInt ≤ 3) (h1 : M.1 59 59 = 0) (h2 : M.1 59 60 = w) (h3 : M.1 59 61 = l) (h4 : M.1 76 l.toNatClampNeg = c) (l0 : 0 ≤ l.toInt) (l1 : l.toInt < 20) : actM N K w a x M = some (acV w.toInt.toNat a.toInt.toNat x l c, mbs (acB w.toInt.toNat a.toInt.toNat) M) := by
  rcases oC6 w0 w1 with e | e | e | e | e | e <;> subst e <;> rcases oC4 a0 a1 with e | e | e | e <;> subst e
  · exact am_0_0 N K M x l c h1 h2 h3 h4 l0 l1
  · exact am_0_1 N K M x l c h1 h2 h3 h4 l0 l1
  · exact am_0_2 N K M x l c h1 h2 h3 h4 l0 l1
  · exact am_0_3 N K M x l c h1 h2 h3 h4 l0 l1
  · exact am_1_0 N K M x l c h1 h2 h3 h4 l0 l1
  · exact am_1_1 N K M x l c h1 h2 h3 h4 l0 l1
  · exact am_1_2 N K M x l c h1 h2 h3 h4 l0 l1
  · exact am_1_3 N K M x l c h1 h2 h3 h4 l0 l1
  · exact am_2_0 N K M x l c h1 h2 h3 h4 l0 l1
  · exact am_2_1 N K M x l c h1 h2 h3 h4 l0 l1
  · exact am_2_2 N K M x l c h1 h2 h3 h4 l0 l1
  · exact am_2_3 N K M x l c h1 h2 h3 h4 l0 l1
  · exact am_3_0 N K M x l c h1 h2 h3 h4 l0 l1
  · exact am_3_1 N K M x l c h1 h2 h3 h4 l0 l1
  · exact am_3_2 N K M x l c h1 h2 h3 h4 l0 l1
  · exact am_3_3 N K M x l c h1 h2 h3 h4 l0 l1
  · exact am_4_0 N K M x l c h1 h2 h3 h4 l0 l1
  · exact am_4_1 N K M x l c h1 h2 h3 h4 l0 l1
  · exact am_4_2 N K M x l c h1 h2 h3 h4 l0 l1
  · exact am_4_3 N K M x l c h1 h2 h3 h4 l0 l1
  · exact am_5_0 N K M x l c h1 h2 h3 h4 l0 l1
  · exact am_5_1 N K M x l c h1 h2 h3 h4 l0 l1
  · exact am_5_2 N K M x l c h1 h2 h3 h4 l0 l1
  · exact am_5_3 N K M x l c h1 h2 h3 h4 l0 l1
theorem acB_len (w a : Nat) : (acB w a).length ≤ 8 := by
  unfold acB
  split <;> decide
/-- where a laying is found -/
theorem ly_nn {M : oM} {K : oK} (h : iLay K M) {a : Int32} (a0 : 0 ≤ a.toInt) (a1 : a.toInt < (M.1 0 11).toInt) : K.2.2.2 20 a.toNatClampNeg = some (oLy a.toNatClampNeg) ∧ iLay1 M a.toNatClampNeg := by
  have n : a.toNatClampNeg = a.toInt.toNat := rfl
  exact h.2.2.1 a.toNatClampNeg (by omega)
theorem lyAt {N : Nat} {K : oK} {M : oM} (h : iLay K M) (a : Int32) : f_X11_layingAt N K a M = some (if 0 ≤ a.toInt ∧ a.toInt < (M.1 0 11).toInt then some (oLy a.toNatClampNeg) else none, M) := by
  obtain ⟨⟨h0, h1, h2⟩, -⟩ := id h
  unfold f_X11_layingAt
  rw [w11, oB2_p, tl_0, sub1 h1]
  by_cases c : 0 ≤ a.toInt ∧ a.toInt < (M.1 0 11).toInt
  · rw [decide_eq_true (by omega), cond_true, if_pos c, oIx_p c.1 (by omega), (ly_nn h c.1 c.2).1, oCs_s]
  · rw [decide_eq_false (by omega), cond_false, if_neg c]
theorem cbs_ok : ∀ (bs : List Int32) (k : Nat) (M : oM), M.1 44 1 = nI k → k + bs.length ≤ 1000 → (cbs bs M).1 44 1 = nI (k + bs.length) ∧ (∀ i, (cbs bs M).1 45 i = if k ≤ i ∧ i < k + bs.length then bs.getD (i - k) 0 else M.1 45 i) ∧ oFr [44, 45, 96] [59, 60, 61] M (cbs bs M) := by
  intro bs
  induction bs with
  | nil => exact fun k M h _ => ⟨h, fun i => by rw [if_neg (by simp)]; rfl, .rf⟩
  | cons b bs ih =>
    intro k M h hk
    simp only [List.length_cons] at hk
    obtain ⟨i1, i2, i3⟩ := ih (k + 1) (cb b M) (by rw [cb_1, h, nI_1]) (by omega)
    have hn : (nI k).toNatClampNeg = k := by
      have := nI_toInt (n := k) (by omega)
      have e : (nI k).toNatClampNeg = (nI k).toInt.toNat := rfl
      omega
    refine ⟨?_, fun i => ?_, ?_⟩
    · show (cbs bs (cb b M)).1 44 1 = _
      rw [i1, List.length_cons]
      congr 1
      omega
    · show (cbs bs (cb b M)).1 45 i = _
      rw [i2, List.length_cons]
      by_cases c : k + 1 ≤ i ∧ i < k + 1 + bs.length
      · rw [if_pos c, if_pos (by omega), show i - k = (i - (k + 1)) + 1 by omega, List.getD_cons_succ]
      · rw [if_neg c]
        unfold cb
        rw [oUp_at, if_neg (by omega), oUp_at, h, hn]
        by_cases c2 : i = k
        · rw [if_pos (by omega), if_pos (by omega), c2, Nat.sub_self, List.getD_cons_zero]
        · rw [if_neg (by omega), if_neg (by omega)]
    · refine .tr ?_ i3
      exact .up (by decide) (.up (by decide) .rf)
theorem mbs_ok : ∀ (bs : List Int32) (k : Nat) (M : oM), M.1 59 59 = nI k → k + bs.length ≤ 1000 → (mbs bs M).1 59 59 = nI (k + bs.length) ∧ (∀ i, (mbs bs M).1 96 i = if k ≤ i ∧ i < k + bs.length then bs.getD (i - k) 0 else M.1 96 i) ∧ oFr [96] [59] M (mbs bs M) := by
  intro bs
  induction bs with
  | nil => exact fun k M h _ => ⟨h, fun i => by rw [if_neg (by simp)]; rfl, .rf⟩
  | cons b bs ih =>
    intro k M h hk
    simp only [List.length_cons] at hk
    obtain ⟨i1, i2, i3⟩ := ih (k + 1) (mb b M) (by rw [mb_1, h, nI_1]) (by omega)
    have hn : (nI k).toNatClampNeg = k := by
      have := nI_toInt (n := k) (by omega)
      have e : (nI k).toNatClampNeg = (nI k).toInt.toNat := rfl
      omega
    refine ⟨?_, fun i => ?_, ?_⟩
    · show (mbs bs (mb b M)).1 59 59 = _
      rw [i1, List.length_cons]
      congr 1
      omega
    · show (mbs bs (mb b M)).1 96 i = _
      rw [i2, List.length_cons]
      by_cases c : k + 1 ≤ i ∧ i < k + 1 + bs.length
      · rw [if_pos c, if_pos (by omega), show i - k = (i - (k + 1)) + 1 by omega, List.getD_cons_succ]
      · rw [if_neg c]
        unfold mb
        rw [oUp_at, if_neg (by omega), oUp_at, h, hn]
        by_cases c2 : i = k
        · rw [if_pos (by omega), if_pos (by omega), c2, Nat.sub_self, List.getD_cons_zero]
        · rw [if_neg (by omega), if_neg (by omega)]
    · refine .tr ?_ i3
      exact .up59 (by decide) (.up (by decide) .rf)
theorem oB2_eta {α : Type} (o : Option (α × oM)) : oB2 o (fun v M => some (v, M)) = o := by
  cases o <;> rfl
theorem ag_act {K : oK} {M : oM} (h : oInv K M) {N : Nat} (hN : 100 ≤ N) (a b x : Int32) : oAg K M (f_X11_act N K a b x M) (f_X12_act N K a b x) := by
  have hl := h.2.2.2.2.2.2.2.2.1
  obtain ⟨e20, c0, c1⟩ := hl.1
  obtain ⟨⟨e59, t0, t1⟩, tr⟩ := h.2.2.2.2.2.2.2.1
  have hno : ∀ M' : oM, oFr [44, 45, 96] [59, 60, 61] M M' → M'.1 44 1 = 0 → M'.1 59 59 = 0 → oInv K M' := fun M' f z1 z2 => h.act f ⟨⟨by rw [z1, z2], by rw [z1]; decide, by rw [z1]; decide⟩, fun i _ hi => by rw [z1, tl_0] at hi; omega⟩
  unfold f_X11_act
  rw [lyAt hl, oB2_p]
  by_cases c : 0 ≤ a.toInt ∧ a.toInt < (M.1 0 11).toInt
  · have hly := (ly_nn hl c.1 c.2).2
    have na : a.toNatClampNeg = a.toInt.toNat := rfl
    generalize hq : a.toNatClampNeg = l at *
    have hne : oLy l ≠ 44 ∧ oLy l ≠ 45 ∧ oLy l ≠ 59 := by unfold oLy; omega
    obtain ⟨⟨y1, y2, y3, y4⟩, -, ⟨y5, -⟩, -⟩ := hly
    rw [if_pos c, oCs_s, w11, oB2_p, tl_0, tl_3]
    by_cases cb' : 0 ≤ b.toInt ∧ b.toInt ≤ 3
    · obtain ⟨n, rfl⟩ : ∃ n, N = n + 8 := ⟨N - 8, by omega⟩
      rw [decide_eq_true cb', cond_true]
      unfold f_X0_lead
      have q1 : ∀ (M' : oM) (k : Nat) (v : Int32) (j : Nat), (oUp M' 44 k v).1 (oLy l) j = M'.1 (oLy l) j := fun M' k v j => by rw [oUp_at, if_neg (fun z => hne.1 z.1)]
      simp only [q1]
      generalize hM0 : oUp (oUp (oUp (oUp M 44 1 0) 44 2 (M.1 (oLy l) 0)) 44 3 (M.1 (oLy l) 7)) 44 4 (M.1 (oLy l) 1) = M0
      have f0 : oFr [44, 45, 96] [59, 60, 61] M M0 := by
        rw [← hM0]
        exact .up (by decide) (.up (by decide) (.up (by decide) (.up (by decide) .rf)))
      have z4 : M0.1 44 4 = M.1 (oLy l) 1 := by rw [← hM0]; simp [oUp_at]
      rw [z4, acAll n K M0 (M.1 (oLy l) 1) b x (M.1 (oLy l) 0) (M.1 (oLy l) 7) y3 y4 cb'.1 cb'.2 (by rw [← hM0]; simp [oUp_at]) (by rw [← hM0]; simp [oUp_at]) (by rw [← hM0]; simp [oUp_at]) z4, oB2_p, oB2_p]
      have len := acB_len (M.1 (oLy l) 1).toInt.toNat b.toInt.toNat
      obtain ⟨k1, k2, k3⟩ := cbs_ok (acB (M.1 (oLy l) 1).toInt.toNat b.toInt.toNat) 0 M0 (by rw [← hM0]; simp [oUp_at]; rfl) (by omega)
      generalize hbs : acB (M.1 (oLy l) 1).toInt.toNat b.toInt.toNat = bs at *
      generalize hM1 : cbs bs M0 = M1 at *
      have f1 : oFr [44, 45, 96] [59, 60, 61] M M1 := f0.tr k3
      have la : a = nI l := oNI (by omega)
      have r73 : M1.1 73 = M.1 73 := f1.1 73 (by decide) (by decide)
      have r76 : M1.1 76 = M.1 76 := f1.1 76 (by decide) (by decide)
      have r20 : M1.1 59 20 = M.1 59 20 := f1.2.1 20 (by decide)
      generalize hM2 : oUp (oUp (oUp M1 59 59 0) 59 60 (M.1 (oLy l) 1)) 59 61 a = M2
      have f2 : oFr [44, 45, 96] [59, 60, 61] M M2 := by
        rw [← hM2]
        exact .up59 (by decide) (.up59 (by decide) (.up59 (by decide) f1))
      have s45 : M2.1 45 = M1.1 45 ∧ M2.1 44 = M1.1 44 := by
        rw [← hM2]
        constructor <;> (unfold oUp; simp)
      obtain ⟨g1, g2, g3⟩ := mbs_ok bs 0 M2 (by rw [← hM2]; simp [oUp_at]; rfl) (by omega)
      have hM : f_X12_act (n + 8) K a b x M1 = some (acV (M.1 (oLy l) 1).toInt.toNat b.toInt.toNat x a (M.1 (oLy l) 7), mbs bs M2) := by
        have w := amAll (n + 8) K M2 (M.1 (oLy l) 1) b x a (M.1 (oLy l) 7) y3 y4 cb'.1 cb'.2 (by rw [← hM2]; simp [oUp_at]) (by rw [← hM2]; simp [oUp_at]) (by rw [← hM2]; simp [oUp_at]) (by rw [hq, ← hM2]; simp [oUp_at]; rw [r76, y5]) c.1 (by omega)
        rw [hbs] at w
        unfold f_X12_act
        rw [isLy12 _ _ _ _ (by rw [oUp_at, if_neg (by decide), r20, e20]; exact c0), oB2_p, oUp_at, if_neg (by decide), r20, e20, decide_eq_true c, cond_true, oIx_p c.1 (by omega)]
        rw [hq, show (oUp M1 59 59 0).1 73 l = M.1 (oLy l) 1 by rw [oUp_at, if_neg (by omega), r73, y2], hM2]
        have z60 : M2.1 59 60 = M.1 (oLy l) 1 := by rw [← hM2]; simp [oUp_at]
        rw [z60, ← w]
        unfold actM
        rcases oC4 cb'.1 cb'.2 with e | e | e | e <;> subst e <;> simp [oB2_eta]
      refine oAg.mk (mbs bs M2) rfl ?_ ?_
      · rw [hM, y1, la]
      · have f3 := f2.tr (g3.weak (by decide) (by decide))
        refine h.act f3 ⟨⟨?_, ?_, ?_⟩, fun i hi hj => ?_⟩
        · rw [g1, g3.1 44 (by decide) (by decide), s45.2, k1]
        · rw [g3.1 44 (by decide) (by decide), s45.2, k1, nI_toInt (by omega)]; omega
        · rw [g3.1 44 (by decide) (by decide), s45.2, k1, nI_toInt (by omega)]; omega
        · rw [g3.1 44 (by decide) (by decide), s45.2, k1, nI_toInt (by omega)] at hj
          rw [g2, if_pos (by omega), g3.1 45 (by decide) (by decide), s45.1, k2, if_pos (by omega)]
    · rw [decide_eq_false cb', cond_false]
      unfold f_X11_act_21
      refine oAg.mk (oUp (oUp (oUp (oUp M 44 1 0) 59 59 0) 59 60 (M.1 73 l)) 59 61 a) rfl ?_ (hno _ (.up59 (by decide) (.up59 (by decide) (.up59 (by decide) (.up (by decide) .rf)))) (by simp [oUp_at]) (by simp [oUp_at]))
      unfold f_X12_act
      rw [isLy12 _ _ _ _ (by simp [oUp_at, e20, c0]), oB2_p, show (oUp (oUp M 44 1 0) 59 59 0).1 59 20 = M.1 59 20 by simp [oUp_at], e20, decide_eq_true c, cond_true, oIx_p c.1 (by omega), hq]
      rw [if_neg (by rw [oEqI, tl_0]; omega), if_neg (by rw [oEqI, tl_1]; omega), if_neg (by rw [oEqI, tl_2]; omega), if_neg (by rw [oEqI, tl_3]; omega)]
      simp [oUp_at]
  · rw [if_neg c, oCs_n]
    unfold f_X11_act_21
    refine oAg.mk (oUp (oUp M 44 1 0) 59 59 0) rfl ?_ (hno _ (.up59 (by decide) (.up (by decide) .rf)) (by simp [oUp_at]) (by simp [oUp_at]))
    unfold f_X12_act
    rw [isLy12 _ _ _ _ (by simp [oUp_at, e20, c0]), oB2_p, show (oUp (oUp M 44 1 0) 59 59 0).1 59 20 = M.1 59 20 by simp [oUp_at], e20, decide_eq_false c]
    rfl
