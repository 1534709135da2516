/-! what the calls keep -/
/-- points and ways -/
def iGnd (M : oM) : Prop := (M.1 59 6 = M.1 6 5 ∧ 0 ≤ (M.1 6 5).toInt ∧ (M.1 6 5).toInt ≤ 12) ∧ (M.1 59 7 = M.1 6 6 ∧ 0 ≤ (M.1 6 6).toInt ∧ (M.1 6 6).toInt ≤ 20) ∧
  (∀ i : Nat, i < 20 → M.1 64 i = M.1 7 i ∧ M.1 65 i = M.1 8 i ∧ M.1 66 i = M.1 9 i) ∧
  ∀ i : Nat, (i : Int) < (M.1 6 6).toInt → (0 ≤ (M.1 7 i).toInt ∧ (M.1 7 i).toInt < (M.1 6 5).toInt) ∧ (0 ≤ (M.1 8 i).toInt ∧ (M.1 8 i).toInt < (M.1 6 5).toInt) ∧ ¬ M.1 7 i = M.1 8 i ∧ 1 ≤ (M.1 9 i).toInt ∧ (M.1 9 i).toInt ≤ 30
/-- what a setting may be, by its place -/
def iVal (p : Int) (v : Int32) : Prop := 0 ≤ v.toInt ∧ v.toInt ≤ if p < 3 then 99999 else if p < 9 then 99 else 999
/-- settings and their changes -/
def iSet (M : oM) : Prop := (∀ j : Nat, j < 9 → M.1 60 (j + 12) = M.1 2 j) ∧ (∀ j : Nat, j < 12 → M.1 60 j = M.1 2 (j + 9)) ∧ (∀ j : Nat, j < 21 → iVal j (M.1 2 j)) ∧
  (M.1 59 5 = M.1 1 5 ∧ M.1 59 4 = M.1 1 4 ∧ 0 ≤ (M.1 1 5).toInt ∧ (M.1 1 5).toInt ≤ (M.1 1 4).toInt ∧ (M.1 1 4).toInt ≤ 40) ∧
  ∀ k : Nat, (k : Int) < (M.1 1 4).toInt → (0 ≤ (M.1 3 k).toInt ∧ (M.1 3 k).toInt < 21 ∧ M.1 61 k = (if (M.1 3 k).toInt < 9 then M.1 3 k + 12 else M.1 3 k - 9)) ∧ M.1 62 k = M.1 4 k ∧ M.1 63 k = M.1 5 k ∧ iVal (M.1 3 k).toInt (M.1 4 k) ∧ iVal (M.1 3 k).toInt (M.1 5 k)
/-- engines and tables -/
def iGear (M : oM) : Prop := (M.1 59 11 = M.1 11 6 ∧ 0 ≤ (M.1 11 6).toInt ∧ (M.1 11 6).toInt ≤ 6) ∧
  (∀ i : Nat, i < 6 → M.1 67 i = M.1 12 i ∧ M.1 68 i = M.1 13 i ∧ M.1 80 i = M.1 14 i) ∧
  (∀ i : Nat, (i : Int) < (M.1 11 6).toInt → 0 ≤ (M.1 12 i).toInt ∧ (M.1 12 i).toInt ≤ 999 ∧ 1 ≤ (M.1 13 i).toInt ∧ (M.1 13 i).toInt ≤ 9) ∧
  (∀ i : Nat, i < 9 → M.1 70 i = M.1 16 i ∧ 0 ≤ (M.1 16 i).toInt ∧ (M.1 16 i).toInt ≤ 13) ∧ (∀ i : Nat, i < 117 → M.1 71 i = M.1 15 i) ∧
  (∀ t : Nat, t < 9 → ∀ j : Nat, (j : Int) < (M.1 16 t).toInt → 0 ≤ (M.1 15 (13 * t + j)).toInt ∧ (M.1 15 (13 * t + j)).toInt ≤ 99999) ∧
  (∀ t : Nat, t < 9 → ∀ j : Nat, (j : Int) + 1 < (M.1 16 t).toInt → if t < 3 then (M.1 15 (13 * t + j)).toInt ≤ (M.1 15 (13 * t + j + 1)).toInt else (M.1 15 (13 * t + j + 1)).toInt ≤ (M.1 15 (13 * t + j)).toInt)
/-- the tape -/
def iTape (M : oM) : Prop := (M.1 59 15 = M.1 17 2 ∧ 0 ≤ (M.1 17 2).toInt ∧ (M.1 17 2).toInt ≤ 120) ∧ ∀ i : Nat, (i : Int) < (M.1 17 2).toInt → M.1 69 i = M.1 18 i &&& 255
/-- loads, things -/
def iLoad (M : oM) : Prop := (M.1 59 49 = M.1 37 2 ∧ 0 ≤ (M.1 37 2).toInt ∧ (M.1 37 2).toInt ≤ 8) ∧ (∀ i : Nat, (i : Int) < (M.1 37 2).toInt → M.1 91 i = M.1 38 i ∧ 1 ≤ (M.1 38 i).toInt ∧ (M.1 38 i).toInt ≤ 99) ∧ ∀ i : Nat, i < 4 → M.1 39 i = 0
def iThing (M : oM) : Prop := (M.1 59 55 = M.1 40 3 ∧ 0 ≤ (M.1 40 3).toInt ∧ (M.1 40 3).toInt ≤ 9) ∧ ∀ i : Nat, (i : Int) < (M.1 40 3).toInt → M.1 94 i = M.1 41 i ∧ M.1 95 i = M.1 42 i ∧ 1 ≤ (M.1 41 i).toInt ∧ (M.1 41 i).toInt ≤ 99 ∧ 0 ≤ (M.1 42 i).toInt ∧ (M.1 42 i).toInt ≤ 999999
/-- the trace -/
def iAct (M : oM) : Prop := (M.1 59 59 = M.1 44 1 ∧ 0 ≤ (M.1 44 1).toInt ∧ (M.1 44 1).toInt ≤ 1000) ∧ ∀ i : Nat, i < 24 → (i : Int) < (M.1 44 1).toInt → M.1 96 i = M.1 45 i
/-- where the l-th laying lies -/
def oLy (l : Nat) : Nat := 101 + 5 * l
/-- one laying -/
def iLay1 (M : oM) (l : Nat) : Prop := (M.1 (oLy l) 0 = nI l ∧ M.1 73 l = M.1 (oLy l) 1 ∧ 0 ≤ (M.1 (oLy l) 1).toInt ∧ (M.1 (oLy l) 1).toInt ≤ 5) ∧ (M.1 74 l = M.1 (oLy l) 2 ∧ 0 ≤ (M.1 (oLy l) 2).toInt ∧ (M.1 (oLy l) 2).toInt < (M.1 6 5).toInt) ∧
  (M.1 76 l = M.1 (oLy l) 7 ∧ 0 ≤ (M.1 (oLy l) 7).toInt ∧ (M.1 (oLy l) 7).toInt ≤ 24) ∧
  (M.1 75 l = if (M.1 (oLy l) 7).toInt = 0 then M.1 (oLy l) 2 else M.1 (oLy l + 4) ((M.1 (oLy l) 7).toInt.toNat - 1)) ∧
  ∀ k : Nat, (k : Int) < (M.1 (oLy l) 7).toInt → (M.1 77 (24 * l + k) = M.1 (oLy l + 1) k ∧ M.1 78 (24 * l + k) = M.1 (oLy l + 2) k ∧ M.1 79 (24 * l + k) = M.1 (oLy l + 3) k) ∧ (0 ≤ (M.1 (oLy l + 4) k).toInt ∧ (M.1 (oLy l + 4) k).toInt < (M.1 6 5).toInt) ∧
    ((M.1 (oLy l + 1) k = 0 ∧ (0 ≤ (M.1 (oLy l + 2) k).toInt ∧ (M.1 (oLy l + 2) k).toInt < (M.1 11 6).toInt) ∧ M.1 (oLy l + 3) k = -1 ∧ M.1 (oLy l + 4) k = (if k = 0 then M.1 (oLy l) 2 else M.1 (oLy l + 4) (k - 1))) ∨
     (M.1 (oLy l + 1) k = 1 ∧ (0 ≤ (M.1 (oLy l + 2) k).toInt ∧ (M.1 (oLy l + 2) k).toInt < (M.1 6 6).toInt) ∧ (0 ≤ (M.1 (oLy l + 3) k).toInt ∧ (M.1 (oLy l + 3) k).toInt < 3) ∧
        ((M.1 7 (M.1 (oLy l + 2) k).toInt.toNat = (if k = 0 then M.1 (oLy l) 2 else M.1 (oLy l + 4) (k - 1)) ∧ M.1 (oLy l + 4) k = M.1 8 (M.1 (oLy l + 2) k).toInt.toNat) ∨
         (¬ M.1 7 (M.1 (oLy l + 2) k).toInt.toNat = (if k = 0 then M.1 (oLy l) 2 else M.1 (oLy l + 4) (k - 1)) ∧ M.1 8 (M.1 (oLy l + 2) k).toInt.toNat = (if k = 0 then M.1 (oLy l) 2 else M.1 (oLy l + 4) (k - 1)) ∧ M.1 (oLy l + 4) k = M.1 7 (M.1 (oLy l + 2) k).toInt.toNat))) ∨
     (M.1 (oLy l + 1) k = 2 ∧ M.1 (oLy l + 2) k = -1 ∧ M.1 (oLy l + 3) k = -1 ∧ M.1 (oLy l) 1 = 3 ∧ M.1 (oLy l + 4) k = (if k = 0 then M.1 (oLy l) 2 else M.1 (oLy l + 4) (k - 1))))
/-- layings -/
def iLay (K : oK) (M : oM) : Prop := (M.1 59 20 = M.1 0 11 ∧ 0 ≤ (M.1 0 11).toInt ∧ (M.1 0 11).toInt ≤ 20) ∧ ((K.1 : Int) = 101 + 5 * (M.1 0 11).toInt ∧ (K.2.1 : Int) = 4003 + 104 * (M.1 0 11).toInt) ∧
  (∀ l : Nat, (l : Int) < (M.1 0 11).toInt → K.2.2.2 20 l = some (oLy l) ∧ iLay1 M l) ∧ (∀ l : Nat, (M.1 0 11).toInt ≤ l → K.2.2.2 20 l = none ∧ (l < 20 → M.1 76 l = 0))
/-- shelves -/
def iShelf1 (K : oK) (M : oM) (d : Nat) : Prop :=
  (M.1 (47 + 2 * d) 1 = 0 ∧ K.2.2.2 (47 + 2 * d) 2 = none ∧ M.1 97 d = -1) ∨
  (M.1 (47 + 2 * d) 1 = 1 ∧ (0 ≤ (M.1 97 d).toInt ∧ (M.1 97 d).toInt < (M.1 0 11).toInt) ∧ K.2.2.2 (47 + 2 * d) 2 = some (oLy (M.1 97 d).toInt.toNat)) ∨
  (M.1 (47 + 2 * d) 1 = 2 ∧ K.2.2.2 (47 + 2 * d) 2 = none ∧ (0 ≤ (M.1 (47 + 2 * d) 3).toInt ∧ (M.1 (47 + 2 * d) 3).toInt ≤ 4) ∧ M.1 97 d = M.1 (47 + 2 * d) 3 + 20 ∧ M.1 98 d = M.1 (47 + 2 * d) 4 ∧ (0 ≤ (M.1 (47 + 2 * d) 4).toInt ∧ (M.1 (47 + 2 * d) 4).toInt ≤ 60) ∧ ∀ i : Nat, (i : Int) < (M.1 (47 + 2 * d) 4).toInt → M.2 99 (60 * d + i) = M.2 (48 + 2 * d) i)
def iShelf (K : oK) (M : oM) : Prop := ∀ d : Nat, d < 6 → iShelf1 K M d
def oInv (K : oK) (M : oM) : Prop := oSR K ∧ iGnd M ∧ iSet M ∧ iGear M ∧ iTape M ∧ iLoad M ∧ iThing M ∧ iAct M ∧ iLay K M ∧ iShelf K M
theorem oInv_room {K : oK} {M : oM} (h : oInv K M) : K.1 - 0 ≤ 600000 ∧ K.2.1 - 0 ≤ 7302250 := by
  obtain ⟨-, -, -, -, -, -, -, -, hl, -⟩ := h
  obtain ⟨⟨-, h0, h1⟩, ⟨h2, h3⟩, -⟩ := hl
  omega
