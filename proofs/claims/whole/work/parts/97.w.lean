/-! the most: a layout told in the other half -/
/-- where the i-th engine stands -/
def itB (bits : Nat) : Nat → Nat → Nat
  | 0, _ => 0
  | w + 1, i => if bits / 2 ^ w % 2 = 1 ∧ i = ixB bits w then w else itB bits w i
theorem it_w : ∀ bits, bits < 64 → ∀ w, w < 6 → (bits / 2 ^ w % 2 = 1 ↔ (ixB bits w < ixB bits 6 ∧ itB bits 6 (ixB bits w) = w)) := by decide +kernel
theorem itb6 : ∀ bits, bits < 64 → ∀ i, i < 4 → itB bits 6 i < 6 := by decide +kernel
theorem gdA (x z : Nat × Nat) : ∀ (xs : List (Nat × Nat)) (i : Nat), (xs ++ [x]).getD i z = if i < xs.length then xs.getD i z else if i = xs.length then x else z := by
  intro xs
  induction xs with
  | nil =>
    intro i
    cases i with
    | zero => rfl
    | succ i => rfl
  | cons y xs ih =>
    intro i
    cases i with
    | zero => rfl
    | succ i =>
      have h := ih i
      show (xs ++ [x]).getD i z = _
      rw [h, List.length_cons]
      by_cases c : i < xs.length
      · rw [if_pos c, if_pos (by omega)]
        rfl
      · by_cases c2 : i = xs.length
        · rw [if_neg c, if_pos c2, if_neg (by omega), if_pos (by omega)]
        · rw [if_neg c, if_neg c2, if_neg (by omega), if_neg (by omega)]
/-- an item of the layout in the memory -/
def lyR (M M1 : oM) (l P W d i : Nat) (x : Nat × Nat) : Prop := M1.1 81 i = nI x.1 ∧ (x.1 = 0 → M1.1 82 i = M.1 (oLy l + 2) (epM (M.1 (oLy l + 1)) P x.2)) ∧ (x.1 = 1 → M1.1 82 i = M.1 (oLy l + 2) (wpM (M.1 (oLy l + 1)) P x.2) ∧ M1.1 83 i = nI (dig W d x.2))
theorem lyR.eq {M M1 M2 : oM} {l P W d i : Nat} {x : Nat × Nat} (h : lyR M M1 l P W d i x) (e : M2.1 81 i = M1.1 81 i ∧ M2.1 82 i = M1.1 82 i ∧ M2.1 83 i = M1.1 83 i) : lyR M M2 l P W d i x := by
  unfold lyR
  rw [e.1, e.2.1, e.2.2]
  exact h
def lyS (M Mb : oM) (l P W d : Nat) (a b : Int32) (pre : List (Nat × Nat)) (M1 : oM) : Prop := fTh Mb M1 ∧ M1.1 59 31 = nI pre.length ∧ (∀ i, i < pre.length → lyR M M1 l P W d i (pre.getD i (2, 0))) ∧ M1.1 59 29 = a ∧ M1.1 59 30 = b
theorem ly_add {N : Nat} {K : oK} {M Mb M1 : oM} {l P W d : Nat} {a b : Int32} {pre : List (Nat × Nat)} (h : lyS M Mb l P W d a b pre M1) (hp : pre.length < 25) (x : Nat × Nat) {u v y : Int32} (hu : u = nI x.1) (h0 : x.1 = 0 → v = M.1 (oLy l + 2) (epM (M.1 (oLy l + 1)) P x.2)) (h1 : x.1 = 1 → v = M.1 (oLy l + 2) (wpM (M.1 (oLy l + 1)) P x.2) ∧ y = nI (dig W d x.2)) : ∃ M2, f_X12_adds N K u v y M1 = some ((), M2) ∧ lyS M Mb l P W d a b (pre ++ [x]) M2 := by
  obtain ⟨s1, s2, s3, s4, s5⟩ := h
  obtain ⟨M2, a1, a2, a3, a4, a5, a6, a7⟩ := add12 (N := N) (K := K) s2 hp u v y
  refine ⟨M2, a1, s1.tr (a2.weak (by decide) (by decide)), by rw [a3, List.length_append]; rfl, fun i hi => ?_, by rw [a2.2.1 29 (by decide)]; exact s4, by rw [a2.2.1 30 (by decide)]; exact s5⟩
  rw [List.length_append, List.length_singleton] at hi
  rw [gdA]
  by_cases c : i < pre.length
  · rw [if_pos c]
    exact (s3 i c).eq (a4 i (by omega))
  · have : i = pre.length := by omega
    rw [if_neg c, if_pos this, this]
    refine ⟨by rw [a5, hu], fun z => by rw [a6, h0 z], fun z => ?_⟩
    rw [a6, a7]
    exact h1 z
/-- what the other half holds of a laying and of places -/
def lyH (M Mb : oM) (l P : Nat) (D : sDt) (bits : Nat) : Prop := (Mb.1 59 44 = nI (sW D) ∧ Mb.1 59 45 = nI (sE D)) ∧ (∀ w, w < sW D → Mb.1 87 w = M.1 (oLy l + 2) (wpM (M.1 (oLy l + 1)) P w)) ∧ (∀ w, w < 7 → Mb.1 88 w = nI (sT D w)) ∧ (∀ e, e < sE D → Mb.1 89 e = M.1 (oLy l + 2) (epM (M.1 (oLy l + 1)) P e)) ∧ ∀ e, e < sE D → Mb.1 90 e = nI (itB bits 6 e)
def ly70R (N : Nat) (K : oK) (r58 : (Int32 → Int32 → Int32 → Int32 → oM → Option (Unit × oM))) (p2 p3 p4 p5 : Int32) (M : oM) : Option (Unit × oM) :=
  if p5 = (M.1 59 44) then (f_X12_lay_173 N K M) else (if (M.1 59 45) ≤ p3 then (f_X12_lay_141 N K r58 p2 p3 p4 p5 M) else oIx (p3) 4 ((if (M.1 90 (p3 : Int32).toNatClampNeg) = p5 then oIx (p3) 4 (oB2 (f_X12_adds N K (0 : Int32) (M.1 89 (p3 : Int32).toNatClampNeg) ((-1) : Int32) M) (fun _ M20 => (f_X12_lay_141 N K r58 p2 (p3 + 1) p4 p5 M20))) else (f_X12_lay_141 N K r58 p2 p3 p4 p5 M))))
theorem rep_s (pre : List (Nat × Nat)) (x : Nat × Nat) (k : Nat) : pre ++ List.replicate (k + 1) x = (pre ++ [x]) ++ List.replicate k x := by
  rw [List.append_assoc]
  rfl
theorem ly70 {N : Nat} {K : oK} {M Mb : oM} {l P d : Nat} {a b : Int32} {D : sDt} {bits : Nat} (hH : lyH M Mb l P D bits) {r58 : (Int32 → Int32 → Int32 → Int32 → oM → Option (Unit × oM))} (p2 p3 p4 : Int32) {w : Nat} (hw : w < 7) (ht : sT D w ≤ 24) : ∀ (n t : Nat) (pre : List (Nat × Nat)) (M1 : oM), t ≤ sT D w → sT D w < t + n → pre.length + (sT D w - t) ≤ 24 → lyS M Mb l P (sW D) d a b pre M1 →
    ∃ M2, f_X12_lay_70 N K r58 n p2 p3 p4 (nI w) (nI t) M1 = ly70R N K r58 p2 p3 p4 (nI w) M2 ∧ lyS M Mb l P (sW D) d a b (pre ++ List.replicate (sT D w - t) (2, 0)) M2 := by
  have ew : (nI w).toInt = w := nI_toInt (by omega)
  have eT : (nI (sT D w)).toInt = sT D w := nI_toInt (by omega)
  intro n
  induction n with
  | zero => intro t pre M1 h1 h2; omega
  | succ n ih =>
    intro t pre M1 h1 h2 h3 hS
    have et : (nI t).toInt = t := nI_toInt (by omega)
    have e88 : M1.1 88 w = nI (sT D w) := by rw [hS.1.1 88 (by decide) (by decide)]; exact hH.2.2.1 w hw
    rw [f_X12_lay_70]
    dsimp only
    rw [oIx_p (by omega) (by omega), nI_n (by omega), e88]
    by_cases c : t = sT D w
    · rw [if_pos (by rw [oLeI, et, eT]; omega), c, Nat.sub_self]
      refine ⟨M1, rfl, ?_⟩
      rw [List.replicate_zero, List.append_nil]
      exact hS
    · rw [if_neg (by rw [oLeI, et, eT]; omega)]
      obtain ⟨M2, a1, a2⟩ := ly_add (N := N) (K := K) hS (by omega) (2, 0) (u := 2) (v := -1) (y := -1) rfl (fun z => absurd z (by decide)) (fun z => absurd z (by decide))
      rw [a1, oB2_p, nI_1]
      obtain ⟨M3, b1, b2⟩ := ih (t + 1) (pre ++ [(2, 0)]) M2 (by omega) (by omega) (by rw [List.length_append, List.length_singleton]; omega) a2
      refine ⟨M3, b1, ?_⟩
      rw [show sT D w - t = (sT D w - (t + 1)) + 1 by omega, rep_s]
      exact b2
theorem p10 {k : Nat} (h : k ≤ 6) : 1 ≤ 10 ^ k ∧ 10 ^ k ≤ 1000000 := by
  have : k = 0 ∨ k = 1 ∨ k = 2 ∨ k = 3 ∨ k = 4 ∨ k = 5 ∨ k = 6 := by omega
  rcases this with rfl | rfl | rfl | rfl | rfl | rfl | rfl <;> decide
theorem dgq10 {W d w k : Nat} (hd : d < 2000000) (hk : k ≤ 6) (hw : W - 1 - w = k) : (nI d / nI (10 ^ k)) - (nI d / nI (10 ^ k)) / 10 * 10 = nI (dig W d w) := by
  have hp := p10 hk
  have ed : (nI d).toInt = d := nI_toInt (by omega)
  have ep : (nI (10 ^ k)).toInt = ((10 ^ k : Nat) : Int) := nI_toInt (by omega)
  have e1 : (nI d / nI (10 ^ k)).toInt = ((d / 10 ^ k : Nat) : Int) := by
    rw [oDiv (by omega) (by omega), ed, ep]
    exact (Int.natCast_ediv d (10 ^ k)).symm
  refine oNI ?_
  unfold dig
  rw [hw]
  generalize d / 10 ^ k = q at *
  rw [oRem (by omega) (by rw [tl_10]; omega), e1, tl_10]
  omega
theorem ly58 {N : Nat} (hN : 100 ≤ N) {K : oK} {M Mb : oM} {l P d : Nat} {a b : Int32} {D : sDt} (hD : okD D) {bits : Nat} (hb : bits < 64) (hm : ixB bits 6 = sE D) (hd : d < 2000000) (hH : lyH M Mb l P D bits) : ∀ (r n w : Nat) (p4 : Int32) (pre : List (Nat × Nat)) (M1 : oM), w + r = sW D → r < n → (0 < r → p4 = nI (10 ^ (r - 1))) → pre.length + (layI D bits r w).length ≤ 24 → lyS M Mb l P (sW D) d a b pre M1 →
    ∃ M2, f_X12_lay_58 N K n (nI d) (nI (ixB bits w)) p4 (nI w) M1 = f_X12_lay_173 N K M2 ∧ lyS M Mb l P (sW D) d a b (pre ++ layI D bits r w) M2 := by
  have h6 := hD.1
  have h4 := hD.2.1
  intro r
  induction r with
  | zero =>
    intro n w p4 pre M1 h1 h2 h3 h5 hS
    obtain ⟨n, rfl⟩ : ∃ m, n = m + 1 := ⟨n - 1, by omega⟩
    have ew : (nI w).toInt = w := nI_toInt (by omega)
    have eW : (nI (sW D)).toInt = sW D := nI_toInt (by omega)
    have e44 : M1.1 59 44 = nI (sW D) := by rw [hS.1.2.1 44 (by decide)]; exact hH.1.1
    rw [layI, List.length_replicate] at h5
    rw [f_X12_lay_58]
    dsimp only
    rw [e44, if_neg (by rw [oLtI, ew, eW]; omega)]
    obtain ⟨M2, a1, a2⟩ := ly70 (N := N) (K := K) hH (r58 := f_X12_lay_58 N K n) (nI d) (nI (ixB bits w)) p4 (w := w) (by omega) (by omega) N 0 pre M1 (by omega) (by omega) (by omega) hS
    have a1' : f_X12_lay_70 N K (f_X12_lay_58 N K n) N (nI d) (nI (ixB bits w)) p4 (nI w) 0 M1 = _ := a1
    have e44' : M2.1 59 44 = nI (sW D) := by rw [a2.1.2.1 44 (by decide)]; exact hH.1.1
    rw [a1']
    unfold ly70R
    rw [e44', if_pos (by rw [show w = sW D by omega])]
    exact ⟨M2, rfl, a2⟩
  | succ r ih =>
    intro n w p4 pre M1 h1 h2 h3 h5 hS
    obtain ⟨n, rfl⟩ : ∃ m, n = m + 1 := ⟨n - 1, by omega⟩
    have ew : (nI w).toInt = w := nI_toInt (by omega)
    have eW : (nI (sW D)).toInt = sW D := nI_toInt (by omega)
    have e44 : M1.1 59 44 = nI (sW D) := by rw [hS.1.2.1 44 (by decide)]; exact hH.1.1
    rw [layI, List.length_append, List.length_replicate, List.length_append, List.length_cons] at h5
    rw [f_X12_lay_58]
    dsimp only
    rw [e44, if_neg (by rw [oLtI, ew, eW]; omega)]
    obtain ⟨M2, a1, a2⟩ := ly70 (N := N) (K := K) hH (r58 := f_X12_lay_58 N K n) (nI d) (nI (ixB bits w)) p4 (w := w) (by omega) (by omega) N 0 pre M1 (by omega) (by omega) (by omega) hS
    have a1' : f_X12_lay_70 N K (f_X12_lay_58 N K n) N (nI d) (nI (ixB bits w)) p4 (nI w) 0 M1 = _ := a1
    have e44' : M2.1 59 44 = nI (sW D) := by rw [a2.1.2.1 44 (by decide)]; exact hH.1.1
    have e45' : M2.1 59 45 = nI (sE D) := by rw [a2.1.2.1 45 (by decide)]; exact hH.1.2
    have hix := ixB_le bits hb w (by omega)
    have ei : (nI (ixB bits w)).toInt = ixB bits w := nI_toInt (by omega)
    have eE : (nI (sE D)).toInt = sE D := nI_toInt (by omega)
    have hpw := p10 (show r ≤ 6 by omega)
    have hp4 := h3 (by omega)
    rw [show r + 1 - 1 = r by omega] at hp4
    have ep4 : (nI (10 ^ r)).toInt = ((10 ^ r : Nat) : Int) := nI_toInt (by omega)
    -- the way, and what is behind it
    have way : ∀ (pre2 : List (Nat × Nat)) (M3 : oM), pre2.length + (1 + (layI D bits r (w + 1)).length) ≤ 24 → lyS M Mb l P (sW D) d a b pre2 M3 → ∃ M4, f_X12_lay_141 N K (f_X12_lay_58 N K n) (nI d) (nI (ixB bits (w + 1))) p4 (nI w) M3 = f_X12_lay_173 N K M4 ∧ lyS M Mb l P (sW D) d a b (pre2 ++ (1, w) :: layI D bits r (w + 1)) M4 := by
      intro pre2 M3 g1 g2
      have e87 : M3.1 87 w = M.1 (oLy l + 2) (wpM (M.1 (oLy l + 1)) P w) := by rw [g2.1.1 87 (by decide) (by decide)]; exact hH.2.1 w (by omega)
      unfold f_X12_lay_141
      rw [oIx_p (by omega) (by omega), nI_n (by omega), e87, hp4]
      unfold oNz
      rw [if_neg (by rw [oEqI, ep4, tl_0]; omega), dgq10 hd (by omega) (show sW D - 1 - w = r by omega)]
      obtain ⟨M4, c1, c2⟩ := ly_add (N := N) (K := K) g2 (by omega) (1, w) (u := 1) (v := M.1 (oLy l + 2) (wpM (M.1 (oLy l + 1)) P w)) (y := nI (dig (sW D) d w)) rfl (fun z => absurd z (show ¬ (1 : Nat) = 0 by decide)) (fun _ => ⟨rfl, rfl⟩)
      rw [c1, oB2_p, nI_1]
      obtain ⟨M5, d1, d2⟩ := ih n (w + 1) (nI (10 ^ r) / 10) (pre2 ++ [(1, w)]) M4 (by omega) (by omega) (fun hr => by
        obtain ⟨r', rfl⟩ : ∃ m, r = m + 1 := ⟨r - 1, by omega⟩
        refine oNI ?_
        rw [oDiv (by omega) (by rw [tl_10]; omega), ep4, tl_10, Nat.pow_succ, show r' + 1 - 1 = r' by omega]
        omega) (by rw [List.length_append, List.length_singleton]; omega) c2
      refine ⟨M5, d1, ?_⟩
      rw [List.append_assoc] at d2
      exact d2
    have iw := it_w bits hb w (by omega)
    rw [a1']
    unfold ly70R
    rw [e44', if_neg (by rw [nI_inj (by omega) (by omega)]; omega), e45', layI]
    by_cases e : bits / 2 ^ w % 2 = 1
    · have hs := iw.mp e
      have hx4 : ∀ A : Option (Unit × oM), oIx (nI (ixB bits w)) 4 A = A := fun A => oIx_p (by omega) (by omega)
      have e90 : M2.1 90 (ixB bits w) = nI w := by
        rw [a2.1.1 90 (by decide) (by decide), hH.2.2.2.2 _ (by omega), hs.2]
      have e89 : M2.1 89 (ixB bits w) = M.1 (oLy l + 2) (epM (M.1 (oLy l + 1)) P (ixB bits w)) := by rw [a2.1.1 89 (by decide) (by decide)]; exact hH.2.2.2.1 _ (by omega)
      rw [if_pos e] at h5
      rw [if_neg (by rw [oLeI, ei, eE]; omega), hx4, nI_n (by omega), e90, if_pos rfl, hx4, e89, if_pos e]
      have h5' : pre.length + (sT D w + (1 + ((layI D bits r (w + 1)).length + 1))) ≤ 24 := h5
      obtain ⟨M3, c1, c2⟩ := ly_add (N := N) (K := K) a2 (by rw [List.length_append, List.length_replicate]; omega) (0, ixB bits w) (u := 0) (v := M.1 (oLy l + 2) (epM (M.1 (oLy l + 1)) P (ixB bits w))) (y := -1) rfl (fun _ => rfl) (fun z => absurd z (show ¬ (0 : Nat) = 1 by decide))
      have en : nI (ixB bits w) + 1 = nI (ixB bits (w + 1)) := by rw [nI_1, ixB, if_pos e]
      rw [c1, oB2_p, en]
      obtain ⟨M4, d1, d2⟩ := way _ M3 (by rw [List.length_append, List.length_append, List.length_replicate, List.length_singleton]; omega) c2
      refine ⟨M4, d1, ?_⟩
      rw [List.append_assoc, List.append_assoc] at d2
      exact d2
    · have en : ixB bits (w + 1) = ixB bits w := by rw [ixB, if_neg e]
      rw [if_neg e] at h5
      rw [en] at way
      rw [if_neg e]
      have h5' : pre.length + (sT D w + (0 + ((layI D bits r (w + 1)).length + 1))) ≤ 24 := h5
      obtain ⟨M4, d1, d2⟩ := way _ M2 (by rw [List.length_append, List.length_replicate]; omega) a2
      have d2' : lyS M Mb l P (sW D) d a b (pre ++ (List.replicate (sT D w) (2, 0) ++ ([] ++ (1, w) :: layI D bits r (w + 1)))) M4 := by
        rw [List.append_assoc] at d2
        exact d2
      by_cases c : sE D ≤ ixB bits w
      · rw [if_pos (by rw [oLeI, ei, eE]; omega)]
        exact ⟨M4, d1, d2'⟩
      · have e90 : M2.1 90 (ixB bits w) = nI (itB bits 6 (ixB bits w)) := by
          rw [a2.1.1 90 (by decide) (by decide), hH.2.2.2.2 _ (by omega)]
        have hib := itb6 bits hb (ixB bits w) (by omega)
        rw [if_neg (by rw [oLeI, ei, eE]; omega), oIx_p (by omega) (by omega), nI_n (by omega), e90, if_neg (by
          rw [nI_inj (by omega) (by omega)]
          intro z
          exact e (iw.mpr ⟨by omega, z⟩))]
        exact ⟨M4, d1, d2'⟩
theorem ly33 {N : Nat} {K : oK} {D : sDt} (hD : okD D) {p2 p3 : Int32} {M1 : oM} (h44 : M1.1 59 44 = nI (sW D)) : ∀ (n j : Nat), 1 ≤ j → j ≤ max 1 (sW D) → max 1 (sW D) < j + n → f_X12_lay_33 N K n p2 p3 (nI (10 ^ (j - 1))) (nI j) M1 = f_X12_lay_58 N K N p2 p3 (nI (10 ^ (max 1 (sW D) - 1))) 0 M1 := by
  have h6 := hD.1
  intro n
  induction n with
  | zero => intro j h1 h2 h3; omega
  | succ n ih =>
    intro j h1 h2 h3
    have ej : (nI j).toInt = j := nI_toInt (by omega)
    have eW : (nI (sW D)).toInt = sW D := nI_toInt (by omega)
    rw [f_X12_lay_33]
    dsimp only
    rw [h44]
    by_cases c : sW D ≤ j
    · rw [if_pos (by rw [oLeI, ej, eW]; omega), show max 1 (sW D) - 1 = j - 1 by omega]
    · have hp := p10 (show j - 1 ≤ 6 by omega)
      have hp' := p10 (show j ≤ 6 by omega)
      have e10 : nI (10 ^ (j - 1)) * 10 = nI (10 ^ (j + 1 - 1)) := by
        refine oNI ?_
        have e1 : (nI (10 ^ (j - 1))).toInt = ((10 ^ (j - 1) : Nat) : Int) := nI_toInt (by omega)
        have e2 : 10 ^ (j + 1 - 1) = 10 ^ (j - 1) * 10 := by
          rw [← Nat.pow_succ]
          congr 1
          omega
        have hj : 10 ^ (j + 1 - 1) ≤ 1000000 := (p10 (show j + 1 - 1 ≤ 6 by omega)).2
        rw [oMul (by rw [e1, tl_10]; omega) (by rw [e1, tl_10]; omega), e1, tl_10, e2]
        omega
      rw [if_neg (by rw [oLeI, ej, eW]; omega), e10, nI_1]
      exact ih (j + 1) (by omega) (by omega) (by omega)
theorem lay_le {D : sDt} (hD : okD D) {bits : Nat} (hm : ixB bits 6 = sE D) (hbW : bits < 2 ^ sW D) : (layI D bits (sW D) 0).length ≤ 24 := by
  have h := lay_len D bits (sW D) 0
  have h5 := hD.2.2.2.2
  have hw := (w_st (sW D) (by have := hD.1; omega) bits hbW).2
  rw [Nat.zero_add] at h
  have e0 : smT (sT D) 0 = 0 := rfl
  have e1 : ixB bits 0 = 0 := rfl
  rw [e0, e1] at h
  omega
theorem ly12 {N : Nat} (hN : 100 ≤ N) {K : oK} {M Mb : oM} {l P d : Nat} (hl : l < 20) {D : sDt} (hD : okD D) {bits : Nat} (hbW : bits < 2 ^ sW D) (hm : ixB bits 6 = sE D) (hd : d < 2000000) (hH : lyH M Mb l P D bits) : ∃ M2, f_X12_lay N K (nI l) (nI d) Mb = f_X12_lay_173 N K M2 ∧ lyS M Mb l P (sW D) d (Mb.1 73 l) (Mb.1 74 l) (layI D bits (sW D) 0) M2 := by
  have h6 := hD.1
  have h64 := pow_64 h6
  have el : (nI l).toInt = l := nI_toInt (by omega)
  have hx : ∀ A : Option (Unit × oM), oIx (nI l) 20 A = A := fun A => oIx_p (by omega) (by omega)
  unfold f_X12_lay
  rw [hx, hx, nI_n (by omega), oUp_ro _ _ _ _ (show (74 : Nat) ≠ 59 by decide)]
  have F0 : fTh Mb (oUp (oUp (oUp Mb 59 29 (Mb.1 73 l)) 59 30 (Mb.1 74 l)) 59 31 0) := .up59 (by decide) (.up59 (by decide) (.up59 (by decide) .rf))
  have h44 : (oUp (oUp (oUp Mb 59 29 (Mb.1 73 l)) 59 30 (Mb.1 74 l)) 59 31 0).1 59 44 = nI (sW D) := by rw [F0.2.1 44 (by decide)]; exact hH.1.1
  have e33 := ly33 (N := N) (K := K) hD (p2 := nI d) (p3 := 0) h44 N 1 (by omega) (by omega) (by omega)
  have e33' : f_X12_lay_33 N K N (nI d) 0 1 1 (oUp (oUp (oUp Mb 59 29 (Mb.1 73 l)) 59 30 (Mb.1 74 l)) 59 31 0) = _ := e33
  rw [e33']
  have s0 : lyS M Mb l P (sW D) d (Mb.1 73 l) (Mb.1 74 l) [] (oUp (oUp (oUp Mb 59 29 (Mb.1 73 l)) 59 30 (Mb.1 74 l)) 59 31 0) := by
    refine ⟨F0, ?_, fun i hi => absurd hi (Nat.not_lt_zero _), ?_, ?_⟩
    · rw [oUp_at, if_pos ⟨rfl, rfl⟩]
      rfl
    · rw [oUp_at, if_neg (by omega), oUp_at, if_neg (by omega), oUp_at, if_pos ⟨rfl, rfl⟩]
    · rw [oUp_at, if_neg (by omega), oUp_at, if_pos ⟨rfl, rfl⟩]
  obtain ⟨M2, a1, a2⟩ := ly58 hN (K := K) hD (show bits < 64 by omega) hm hd hH (sW D) N 0 (nI (10 ^ (max 1 (sW D) - 1))) [] _ (by omega) (by omega) (fun hr => by rw [show max 1 (sW D) - 1 = sW D - 1 by omega]) (by have := lay_le hD hm hbW; simpa using this) s0
  exact ⟨M2, a1, a2⟩
