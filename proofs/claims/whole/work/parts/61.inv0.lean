/-! the start keeps it -/
theorem z_vac {x : Int32} (h : x = 0) {k : Nat} {P : Prop} (hk : (k : Int) < x.toInt) : P := by
  rw [h] at hk
  have : (0 : Int32).toInt = 0 := rfl
  omega
theorem z_b {x : Int32} {n : Int} (h : x = 0) (hn : 0 ≤ n) : 0 ≤ x.toInt ∧ x.toInt ≤ n := by
  rw [h]
  have : (0 : Int32).toInt = 0 := rfl
  omega
set_option maxRecDepth 100000 in
theorem z_SR : oSR ck206 := by
  refine ⟨⟨Nat.le_of_ble_eq_true rfl, Nat.le_of_ble_eq_true rfl⟩, by decide +kernel, ?_, ?_, ?_⟩
  · have h : ∀ a, a < 101 → ∀ k, k < 66 → (oRf a k).isSome = true → ck206.2.2.2 a k = oRf a k := by decide +kernel
    have hl : ∀ a, a < 101 → (oRfl.getD a []).length ≤ 66 := by decide +kernel
    intro a k b hb
    by_cases ha : a < 101
    · by_cases hk : k < 66
      · rw [h a ha k hk (by rw [hb]; rfl), hb]
      · have : oRf a k = none := by
          unfold oRf
          have h1 := hl a ha
          rw [List.getD_eq_getElem?_getD, List.getElem?_eq_none (by omega)]
          rfl
        rw [this] at hb
        cases hb
    · have : oRf a k = none := by
        unfold oRf
        rw [show oRfl.getD a [] = [] by
          have hlen : oRfl.length = 101 := by decide +kernel
          rw [List.getD_eq_getElem?_getD, List.getElem?_eq_none (by omega)]
          rfl]
        rfl
      rw [this] at hb
      cases hb
  · intro i h hh
    have : ck206.2.2.2 20 i = none := rfl
    rw [this] at hh
    cases hh
  · intro i hi
    have h1 : ∀ i, i < 6 → ck206.2.2.2 46 i = some (47 + 2 * i) := by decide +kernel
    have h2 : ∀ i, i < 6 → 47 + 2 * i + 2 ≤ ck206.1 ∧ ck206.2.2.1 (47 + 2 * i) = (15, 5) ∧ ck206.2.2.1 (47 + 2 * i + 1) = (3, 60) ∧ ck206.2.2.2 (47 + 2 * i) 0 = some (47 + 2 * i + 1) ∧ ck206.2.2.2 (47 + 2 * i) 2 = none := by decide +kernel
    obtain ⟨g1, g2, g3, g4, g5⟩ := h2 i hi
    refine ⟨h1 i hi, g1, g2, g3, g4, fun q hq => ?_⟩
    rw [g5] at hq
    cases hq
set_option maxRecDepth 100000 in
theorem z_set : iSet cm119 := by
  refine ⟨by decide +kernel, by decide +kernel, by unfold iVal; decide +kernel, ⟨rfl, rfl, ?_, ?_, ?_⟩, fun k hk => z_vac (x := cm119.1 1 4) rfl hk⟩
  all_goals decide +kernel
set_option maxRecDepth 100000 in
theorem oInv_start : oInv ck206 cm119 := by
  refine ⟨z_SR, ?_, z_set, ?_, ?_, ?_, ?_, ?_, ?_, ?_⟩
  · exact ⟨⟨rfl, z_b (x := cm119.1 6 5) rfl (by decide)⟩, ⟨rfl, z_b (x := cm119.1 6 6) rfl (by decide)⟩, fun i _ => ⟨rfl, rfl, rfl⟩, fun i h => z_vac (x := cm119.1 6 6) rfl h⟩
  · exact ⟨⟨rfl, z_b (x := cm119.1 11 6) rfl (by decide)⟩, fun i _ => ⟨rfl, rfl, rfl⟩, fun i h => z_vac (x := cm119.1 11 6) rfl h, fun i _ => ⟨rfl, z_b (x := cm119.1 16 i) rfl (by decide)⟩, fun i _ => rfl, fun t _ j h => z_vac (x := cm119.1 16 t) rfl h, fun t _ j h => z_vac (x := cm119.1 16 t) (k := j + 1) rfl (by simpa using h)⟩
  · exact ⟨⟨rfl, z_b (x := cm119.1 17 2) rfl (by decide)⟩, fun i h => z_vac (x := cm119.1 17 2) rfl h⟩
  · exact ⟨⟨rfl, z_b (x := cm119.1 37 2) rfl (by decide)⟩, fun i h => z_vac (x := cm119.1 37 2) rfl h, fun i _ => rfl⟩
  · exact ⟨⟨rfl, z_b (x := cm119.1 40 3) rfl (by decide)⟩, fun i h => z_vac (x := cm119.1 40 3) rfl h⟩
  · exact ⟨⟨rfl, z_b (x := cm119.1 44 1) rfl (by decide)⟩, fun i _ h => z_vac (x := cm119.1 44 1) rfl h⟩
  · have e : cm119.1 0 11 = 0 := rfl
    have e0 : (0 : Int32).toInt = 0 := rfl
    refine ⟨⟨rfl, z_b (x := cm119.1 0 11) rfl (by decide)⟩, ⟨?_, ?_⟩, fun l h => z_vac (x := cm119.1 0 11) rfl h, fun l _ => ⟨rfl, fun _ => rfl⟩⟩
    · rw [e, e0, show ck206.1 = 101 from rfl]
      rfl
    · rw [e, e0, show ck206.2.1 = 4003 from rfl]
      rfl
  · intro d hd
    have h2 : ∀ i, i < 6 → cm119.1 (47 + 2 * i) 1 = 0 ∧ ck206.2.2.2 (47 + 2 * i) 2 = none ∧ cm119.1 97 i = -1 := by decide +kernel
    exact Or.inl (h2 d hd)
