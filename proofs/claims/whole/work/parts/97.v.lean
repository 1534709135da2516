/-! the most: a layout as a list -/
def layI (D : sDt) (bits : Nat) : Nat → Nat → List (Nat × Nat)
  | 0, w => List.replicate (sT D w) (2, 0)
  | r + 1, w => List.replicate (sT D w) (2, 0) ++ ((if bits / 2 ^ w % 2 = 1 then [(0, ixB bits w)] else []) ++ (1, w) :: layI D bits r (w + 1))
def stI (D : sDt) (bits d : Nat) (x : Nat × Nat) : oStp := if x.1 = 0 then (0, sG D x.2, 0, 0, 0) else if x.1 = 1 then (1, dig (sW D) d x.2, sL D x.2, liD D bits x.2, sC D x.2) else (2, 0, 0, 0, 0)
theorem lay_len (D : sDt) (bits : Nat) : ∀ r w, (layI D bits r w).length + smT (sT D) w + ixB bits w + w = smT (sT D) (w + r + 1) + ixB bits (w + r) + (w + r) := by
  intro r
  induction r with
  | zero =>
    intro w
    simp only [layI, List.length_replicate, Nat.add_zero, smT]
    omega
  | succ r ih =>
    intro w
    have h := ih (w + 1)
    rw [show w + 1 + r = w + (r + 1) by omega, smT, ixB] at h
    rw [layI, List.length_append, List.length_replicate, List.length_append, List.length_cons]
    by_cases e : bits / 2 ^ w % 2 = 1
    · rw [if_pos e] at h
      rw [if_pos e]
      show sT D w + (1 + ((layI D bits r (w + 1)).length + 1)) + smT (sT D) w + ixB bits w + w = _
      omega
    · rw [if_neg e] at h
      rw [if_neg e]
      show sT D w + (0 + ((layI D bits r (w + 1)).length + 1)) + smT (sT D) w + ixB bits w + w = _
      omega
/-- ways in their order -/
def ordI : List (Nat × Nat) → Nat → Prop
  | [], _ => True
  | x :: xs, w => (x.1 = 1 → x.2 = w) ∧ ordI xs (if x.1 = 1 then w + 1 else w)
def wcI : List (Nat × Nat) → Nat → Nat
  | _, 0 => 0
  | [], _ + 1 => 0
  | x :: xs, i + 1 => (if x.1 = 1 then 1 else 0) + wcI xs i
theorem ordI_rep (t : Nat) (xs : List (Nat × Nat)) (w : Nat) (h : ordI xs w) : ordI (List.replicate t (2, 0) ++ xs) w := by
  induction t with
  | zero => exact h
  | succ t ih => exact ⟨fun z => absurd z (by decide), ih⟩
theorem ord_lay (D : sDt) (bits : Nat) : ∀ r w, ordI (layI D bits r w) w := by
  intro r
  induction r with
  | zero =>
    intro w
    have := ordI_rep (sT D w) [] w trivial
    rw [List.append_nil] at this
    exact this
  | succ r ih =>
    intro w
    rw [layI]
    refine ordI_rep _ _ _ ?_
    have h1 : ordI ((1, w) :: layI D bits r (w + 1)) w := ⟨fun _ => rfl, ih (w + 1)⟩
    by_cases e : bits / 2 ^ w % 2 = 1
    · rw [if_pos e]
      exact ⟨fun z => absurd z (show ¬ (0 : Nat) = 1 by decide), h1⟩
    · rw [if_neg e]
      exact h1
theorem ord_at : ∀ (xs : List (Nat × Nat)) (w i : Nat), ordI xs w → i < xs.length → (xs.getD i (2, 0)).1 = 1 → (xs.getD i (2, 0)).2 = w + wcI xs i := by
  intro xs
  induction xs with
  | nil => intro w i _ h; exact absurd h (Nat.not_lt_zero _)
  | cons x xs ih =>
    intro w i h hi h1
    cases i with
    | zero =>
      show x.2 = w + 0
      exact h.1 h1
    | succ i =>
      have := ih _ i h.2 (by simpa using hi) h1
      show (xs.getD i (2, 0)).2 = w + ((if x.1 = 1 then 1 else 0) + wcI xs i)
      rw [this]
      split <;> omega
theorem wcI_s : ∀ (xs : List (Nat × Nat)) (i : Nat), i < xs.length → wcI xs (i + 1) = wcI xs i + (if (xs.getD i (2, 0)).1 = 1 then 1 else 0) := by
  intro xs
  induction xs with
  | nil => intro i h; exact absurd h (Nat.not_lt_zero _)
  | cons x xs ih =>
    intro i hi
    cases i with
    | zero =>
      show (if x.1 = 1 then 1 else 0) + wcI xs 0 = 0 + (if x.1 = 1 then 1 else 0)
      have : wcI xs 0 = 0 := by cases xs <;> rfl
      rw [this]
      omega
    | succ i =>
      have := ih i (by simpa using hi)
      show (if x.1 = 1 then 1 else 0) + wcI xs (i + 1) = (if x.1 = 1 then 1 else 0) + wcI xs i + (if (xs.getD i (2, 0)).1 = 1 then 1 else 0)
      rw [this]
      omega
/-- no engine -/
def noE : List (Nat × Nat) → Prop
  | [] => True
  | x :: xs => ¬ x.1 = 0 ∧ noE xs
theorem noE_at : ∀ xs : List (Nat × Nat), noE xs ↔ ∀ j, j < xs.length → ¬ (xs.getD j (2, 0)).1 = 0 := by
  intro xs
  induction xs with
  | nil => exact ⟨fun _ j h => absurd h (Nat.not_lt_zero _), fun _ => trivial⟩
  | cons x xs ih =>
    constructor
    · intro h j hj
      cases j with
      | zero => exact h.1
      | succ j => exact ih.mp h.2 j (by simpa using hj)
    · intro h
      exact ⟨h 0 (by simp), ih.mpr (fun j hj => h (j + 1) (by simpa using hj))⟩
theorem noE_rep (t : Nat) (xs : List (Nat × Nat)) : noE (List.replicate t (2, 0) ++ xs) ↔ noE xs := by
  induction t with
  | zero => exact Iff.rfl
  | succ t ih => exact ⟨fun h => ih.mp h.2, fun h => ⟨by decide, ih.mpr h⟩⟩
theorem noE_lay (D : sDt) (bits : Nat) : ∀ r w, noE (layI D bits r w) ↔ ∀ u, w ≤ u → u < w + r → ¬ bits / 2 ^ u % 2 = 1 := by
  intro r
  induction r with
  | zero =>
    intro w
    have := noE_rep (sT D w) []
    rw [List.append_nil] at this
    exact ⟨fun _ u h1 h2 => by omega, fun _ => this.mpr trivial⟩
  | succ r ih =>
    intro w
    rw [layI, noE_rep]
    have h1 : noE ((1, w) :: layI D bits r (w + 1)) ↔ noE (layI D bits r (w + 1)) := ⟨fun h => h.2, fun h => ⟨by show ¬ (1 : Nat) = 0; decide, h⟩⟩
    by_cases e : bits / 2 ^ w % 2 = 1
    · rw [if_pos e]
      exact ⟨fun h => absurd rfl h.1, fun h => absurd e (h w (Nat.le_refl _) (by omega))⟩
    · rw [if_neg e]
      show noE ((1, w) :: layI D bits r (w + 1)) ↔ _
      rw [h1, ih]
      constructor
      · intro h u u1 u2
        by_cases z : u = w
        · rw [z]; exact e
        · exact h u (by omega) (by omega)
      · intro h u u1 u2
        exact h u (by omega) (by omega)
theorem nb_A {bits w u : Nat} (h : bits < 2 ^ w) (hu : w ≤ u) : ¬ bits / 2 ^ u % 2 = 1 := by
  rw [Nat.div_eq_of_lt (Nat.lt_of_lt_of_le h (Nat.pow_le_pow_right (by decide) hu))]
  decide
theorem nb_B {bits w : Nat} : ∀ k, bits < 2 ^ (w + k) → (∀ u, w ≤ u → u < w + k → ¬ bits / 2 ^ u % 2 = 1) → bits < 2 ^ w := by
  intro k
  induction k with
  | zero => intro h _; exact h
  | succ k ih =>
    intro h hn
    have h1 := hn (w + k) (by omega) (by omega)
    have h2 : bits / 2 ^ (w + k) < 2 := Nat.div_lt_of_lt_mul (by rw [← Nat.pow_succ]; exact h)
    refine ih ?_ (fun u u1 u2 => hn u u1 (by omega))
    rcases Nat.lt_or_ge bits (2 ^ (w + k)) with q | q
    · exact q
    · have := Nat.div_pos q (Nat.pow_pos (by decide))
      omega
theorem nb_lt (W : Nat) (bits : Nat) (hb : bits < 2 ^ W) (w : Nat) (hw : w ≤ W) : (∀ u, u < 6 → w ≤ u → u < W → ¬ bits / 2 ^ u % 2 = 1) → W ≤ 6 → bits < 2 ^ w := fun h h6 => nb_B (W - w) (by rw [show w + (W - w) = W by omega]; exact hb) (fun u u1 u2 => h u (by omega) u1 (by omega))
/-- lines as engines ask -/
def lnI (bits : Nat) : List (Nat × Nat) → Prop
  | [] => True
  | x :: xs => (x.1 = 1 → (noE xs ↔ bits < 2 ^ (x.2 + 1))) ∧ lnI bits xs
theorem lnI_rep (bits t : Nat) (xs : List (Nat × Nat)) (h : lnI bits xs) : lnI bits (List.replicate t (2, 0) ++ xs) := by
  induction t with
  | zero => exact h
  | succ t ih => exact ⟨fun z => absurd z (by decide), ih⟩
theorem ln_lay {D : sDt} (hD : okD D) {bits : Nat} (hb : bits < 2 ^ sW D) : ∀ r w, w + r = sW D → lnI bits (layI D bits r w) := by
  have h6 := hD.1
  intro r
  induction r with
  | zero =>
    intro w _
    have := lnI_rep bits (sT D w) [] trivial
    rw [List.append_nil] at this
    exact this
  | succ r ih =>
    intro w hw
    rw [layI]
    refine lnI_rep _ _ _ ?_
    have h1 : lnI bits ((1, w) :: layI D bits r (w + 1)) := by
      refine ⟨fun _ => ?_, ih (w + 1) (by omega)⟩
      show noE (layI D bits r (w + 1)) ↔ bits < 2 ^ (w + 1)
      rw [noE_lay]
      exact ⟨fun h => nb_lt (sW D) bits hb (w + 1) (by omega) (fun u u1 u2 u3 => h u u2 (by omega)) h6, fun h u u1 u2 => nb_A h u1⟩
    by_cases e : bits / 2 ^ w % 2 = 1
    · rw [if_pos e]
      exact ⟨fun z => absurd z (show ¬ (0 : Nat) = 1 by decide), h1⟩
    · rw [if_neg e]
      exact h1
theorem ln_at {bits : Nat} : ∀ (xs : List (Nat × Nat)) (i : Nat), lnI bits xs → i < xs.length → (xs.getD i (2, 0)).1 = 1 → ((∀ j, i < j → j < xs.length → ¬ (xs.getD j (2, 0)).1 = 0) ↔ bits < 2 ^ ((xs.getD i (2, 0)).2 + 1)) := by
  intro xs
  induction xs with
  | nil => intro i _ h; exact absurd h (Nat.not_lt_zero _)
  | cons x xs ih =>
    intro i h hi h1
    cases i with
    | zero =>
      have h2 := h.1 h1
      show _ ↔ bits < 2 ^ (x.2 + 1)
      rw [← h2, noE_at]
      constructor
      · intro q j hj
        exact q (j + 1) (by omega) (by simpa using hj)
      · intro q j j1 j2
        obtain ⟨j', rfl⟩ : ∃ j', j = j' + 1 := ⟨j - 1, by omega⟩
        exact q j' (by simpa using j2)
    | succ i =>
      have h2 := ih i h.2 (by simpa using hi) h1
      show _ ↔ bits < 2 ^ ((xs.getD i (2, 0)).2 + 1)
      rw [← h2]
      constructor
      · intro q j j1 j2
        exact q (j + 1) (by omega) (by simpa using j2)
      · intro q j j1 j2
        obtain ⟨j', rfl⟩ : ∃ j', j = j' + 1 := ⟨j - 1, by omega⟩
        exact q j' (by omega) (by simpa using j2)
/-- items that are there -/
def alI (D : sDt) : List (Nat × Nat) → Prop
  | [] => True
  | x :: xs => ((x.1 = 0 ∧ x.2 < sE D) ∨ (x.1 = 1 ∧ x.2 < sW D) ∨ x.1 = 2) ∧ alI D xs
theorem alI_rep (D : sDt) (t : Nat) (xs : List (Nat × Nat)) (h : alI D xs) : alI D (List.replicate t (2, 0) ++ xs) := by
  induction t with
  | zero => exact h
  | succ t ih => exact ⟨Or.inr (Or.inr rfl), ih⟩
theorem al_lay {D : sDt} (hD : okD D) {bits : Nat} (hb : bits < 64) (hm : ixB bits 6 ≤ sE D) : ∀ r w, w + r = sW D → alI D (layI D bits r w) := by
  have h6 := hD.1
  intro r
  induction r with
  | zero =>
    intro w _
    have := alI_rep D (sT D w) [] trivial
    rw [List.append_nil] at this
    exact this
  | succ r ih =>
    intro w hw
    rw [layI]
    refine alI_rep _ _ _ ?_
    have h1 : alI D ((1, w) :: layI D bits r (w + 1)) := ⟨Or.inr (Or.inl ⟨rfl, by show w < sW D; omega⟩), ih (w + 1) (by omega)⟩
    by_cases e : bits / 2 ^ w % 2 = 1
    · have := ix_st bits hb w (by omega) e
      rw [if_pos e]
      exact ⟨Or.inl ⟨rfl, by show ixB bits w < sE D; omega⟩, h1⟩
    · rw [if_neg e]
      exact h1
theorem al_at {D : sDt} : ∀ (xs : List (Nat × Nat)) (i : Nat), alI D xs → i < xs.length → ((xs.getD i (2, 0)).1 = 0 ∧ (xs.getD i (2, 0)).2 < sE D) ∨ ((xs.getD i (2, 0)).1 = 1 ∧ (xs.getD i (2, 0)).2 < sW D) ∨ (xs.getD i (2, 0)).1 = 2 := by
  intro xs
  induction xs with
  | nil => intro i _ h; exact absurd h (Nat.not_lt_zero _)
  | cons x xs ih =>
    intro i h hi
    cases i with
    | zero => exact h.1
    | succ i => exact ih i h.2 (by simpa using hi)
theorem stI_ok {D : sDt} (hD : okD D) (bits : Nat) {d : Nat} (hd : ∀ u, u < sW D → dig (sW D) d u < 3) {x : Nat × Nat} (hx : (x.1 = 0 ∧ x.2 < sE D) ∨ (x.1 = 1 ∧ x.2 < sW D) ∨ x.1 = 2) : okS (stI D bits d x) := by
  unfold stI okS
  rcases hx with ⟨h1, h2⟩ | ⟨h1, h2⟩ | h1
  · rw [if_pos h1]
    exact Or.inl ⟨rfl, hD.2.2.2.1 _ h2⟩
  · rw [if_neg (by omega), if_pos h1]
    have := hD.2.2.1 _ h2
    exact Or.inr (Or.inl ⟨rfl, hd _ h2, ⟨this.1, this.2.1⟩, liD_b D bits _, this.2.2.1, this.2.2.2⟩)
  · rw [if_neg (by omega), if_neg (by omega)]
    exact Or.inr (Or.inr rfl)
/-! going through a list -/
def okLs (lf ls : Nat → Int → Int) (f need : Int) : List oStp → Int → Prop
  | [], p => need ≤ p
  | s :: xs, p => (s.1 = 1 ∨ 0 ≤ p) ∧ okLs lf ls f need xs (stV lf ls s p f)
theorem okLs_rep (lf ls : Nat → Int → Int) (f need : Int) (xs : List oStp) : ∀ (t : Nat) (p : Int), okLs lf ls f need (List.replicate t ((2, 0, 0, 0, 0) : oStp) ++ xs) p ↔ (0 < t → 0 ≤ p) ∧ okLs lf ls f need xs (if 0 < t then 0 else p) := by
  intro t
  induction t with
  | zero => intro p; exact ⟨fun h => ⟨fun z => absurd z (by decide), h⟩, fun h => h.2⟩
  | succ t ih =>
    intro p
    have e : stV lf ls ((2, 0, 0, 0, 0) : oStp) p f = 0 := rfl
    show (((2 : Nat) = 1 ∨ 0 ≤ p) ∧ okLs lf ls f need (List.replicate t ((2, 0, 0, 0, 0) : oStp) ++ xs) (stV lf ls ((2, 0, 0, 0, 0) : oStp) p f)) ↔ _
    rw [e, ih 0, if_pos (by omega : 0 < t + 1)]
    have e2 : (if 0 < t then (0 : Int) else 0) = 0 := by split <;> rfl
    rw [e2]
    constructor
    · rintro ⟨h1, h2, h3⟩
      exact ⟨fun _ => by omega, h3⟩
    · rintro ⟨h1, h2⟩
      exact ⟨Or.inr (h1 (by omega)), fun _ => Int.le_refl _, h2⟩
theorem ok_lay {D : sDt} {lf ls : Nat → Int → Int} {f need : Int} {bits d : Nat} : ∀ (r w : Nat) (p : Int), okLs lf ls f need ((layI D bits r w).map (stI D bits d)) p ↔ vl D lf ls f need bits d r w p := by
  intro r
  induction r with
  | zero =>
    intro w p
    have := okLs_rep lf ls f need [] (sT D w) p
    rw [List.append_nil] at this
    rw [layI, List.map_replicate]
    exact this
  | succ r ih =>
    intro w p
    have hway : ∀ q : Int, okLs lf ls f need ((stI D bits d (1, w)) :: (layI D bits r (w + 1)).map (stI D bits d)) q ↔ vl D lf ls f need bits d r (w + 1) (q - drD D ls f bits w (dig (sW D) d w)) := by
      intro q
      have e : stV lf ls (stI D bits d (1, w)) q f = q - drD D ls f bits w (dig (sW D) d w) := by
        show q - sL D w * ls (dig (sW D) d w) (if liD D bits w = 2 then (f + 1) / 2 else f) - 43 * sC D w = _
        unfold drD
        omega
      show ((1 : Nat) = 1 ∨ 0 ≤ q) ∧ okLs lf ls f need ((layI D bits r (w + 1)).map (stI D bits d)) (stV lf ls (stI D bits d (1, w)) q f) ↔ _
      rw [e, ih]
      exact ⟨fun h => h.2, fun h => ⟨Or.inl rfl, h⟩⟩
    rw [layI, List.map_append, List.map_replicate, List.map_append, List.map_cons]
    show okLs lf ls f need (List.replicate (sT D w) ((2, 0, 0, 0, 0) : oStp) ++ _) p ↔ (0 < sT D w → 0 ≤ p) ∧ (bits / 2 ^ w % 2 = 1 → 0 ≤ aft D w p) ∧ vl D lf ls f need bits d r (w + 1) (aft D w p + lfD D lf f bits w - drD D ls f bits w (dig (sW D) d w))
    rw [okLs_rep]
    unfold lfD
    by_cases e : bits / 2 ^ w % 2 = 1
    · rw [if_pos e, if_pos e]
      have e2 : stV lf ls (stI D bits d (0, ixB bits w)) (aft D w p) f = aft D w p + lf (sG D (ixB bits w)) f := rfl
      show (0 < sT D w → 0 ≤ p) ∧ (((0 : Nat) = 1 ∨ 0 ≤ aft D w p) ∧ okLs lf ls f need (stI D bits d (1, w) :: (layI D bits r (w + 1)).map (stI D bits d)) (stV lf ls (stI D bits d (0, ixB bits w)) (aft D w p) f)) ↔ _
      rw [e2, hway]
      constructor
      · rintro ⟨h1, h2, h3⟩
        exact ⟨h1, fun _ => by omega, h3⟩
      · rintro ⟨h1, h2, h3⟩
        exact ⟨h1, Or.inr (h2 e), h3⟩
    · rw [if_neg e, if_neg e, Int.add_zero]
      show (0 < sT D w → 0 ≤ p) ∧ okLs lf ls f need (stI D bits d (1, w) :: (layI D bits r (w + 1)).map (stI D bits d)) (aft D w p) ↔ _
      rw [hway]
      exact ⟨fun h => ⟨h.1, fun z => absurd z e, h.2⟩, fun h => ⟨h.1, h.2.2⟩⟩
theorem okF_Ls {lf ls : Nat → Int → Int} {f need : Int} {c : Nat → oStp} {g : Nat × Nat → oStp} : ∀ (xs : List (Nat × Nat)) (k : Nat), (∀ i, i < xs.length → c (k + i) = g (xs.getD i (2, 0))) → (((∀ i, i < xs.length → ¬ bad0 lf ls c f (k + i)) ∧ need ≤ prV lf ls c f (k + xs.length)) ↔ okLs lf ls f need (xs.map g) (prV lf ls c f k)) := by
  intro xs
  induction xs with
  | nil =>
    intro k _
    exact ⟨fun h => h.2, fun h => ⟨fun i hi => absurd hi (Nat.not_lt_zero _), h⟩⟩
  | cons x xs ih =>
    intro k hc
    have h0 : c k = g x := hc 0 (by simp)
    have h := ih (k + 1) (fun i hi => by
      have := hc (i + 1) (by simpa using hi)
      rw [show k + 1 + i = k + (i + 1) by omega]
      exact this)
    have e : prV lf ls c f (k + 1) = stV lf ls (g x) (prV lf ls c f k) f := by rw [prV, h0]
    show _ ↔ ((g x).1 = 1 ∨ 0 ≤ prV lf ls c f k) ∧ okLs lf ls f need (xs.map g) (stV lf ls (g x) (prV lf ls c f k) f)
    rw [← e, ← h, List.length_cons, show k + 1 + xs.length = k + (xs.length + 1) by omega]
    constructor
    · rintro ⟨q1, q2⟩
      refine ⟨?_, fun i hi => ?_, q2⟩
      · have := q1 0 (by omega)
        unfold bad0 at this
        rw [Nat.add_zero, h0] at this
        by_cases z : (g x).1 = 1
        · exact Or.inl z
        · refine Or.inr ?_
          have : ¬ prV lf ls c f k < 0 := fun y => this ⟨z, y⟩
          omega
      · rw [show k + 1 + i = k + (i + 1) by omega]
        exact q1 (i + 1) (by omega)
    · rintro ⟨q1, q2, q3⟩
      refine ⟨fun i hi => ?_, q3⟩
      cases i with
      | zero =>
        unfold bad0
        rw [Nat.add_zero, h0]
        rintro ⟨y1, y2⟩
        rcases q1 with z | z
        · exact y1 z
        · omega
      | succ i =>
        rw [show k + (i + 1) = k + 1 + i by omega]
        exact q2 i (by omega)
def hoL (g : Nat × Nat → oStp) (b : Nat) : List (Nat × Nat) → Int
  | [] => 0
  | x :: xs => (if (g x).1 = 1 ∧ (g x).2.1 = b then (g x).2.2.1 * (g x).2.2.2.1 else 0) + hoL g b xs
theorem hoS_L {c : Nat → oStp} {g : Nat × Nat → oStp} {b : Nat} : ∀ (xs : List (Nat × Nat)) (k : Nat), (∀ i, i < xs.length → c (k + i) = g (xs.getD i (2, 0))) → hoS c b (k + xs.length) = hoS c b k + hoL g b xs := by
  intro xs
  induction xs with
  | nil => intro k _; simp [hoL]
  | cons x xs ih =>
    intro k hc
    have h0 : c k = g x := hc 0 (by simp)
    have h := ih (k + 1) (fun i hi => by
      have := hc (i + 1) (by simpa using hi)
      rw [show k + 1 + i = k + (i + 1) by omega]
      exact this)
    rw [List.length_cons, show k + (xs.length + 1) = k + 1 + xs.length by omega, h, hoS, h0, hoL]
    omega
theorem hoL_rep {D : sDt} {bits d b : Nat} (t : Nat) (xs : List (Nat × Nat)) : hoL (stI D bits d) b (List.replicate t (2, 0) ++ xs) = hoL (stI D bits d) b xs := by
  induction t with
  | zero => rfl
  | succ t ih =>
    show (if (2 : Nat) = 1 ∧ (0 : Nat) = b then _ else (0 : Int)) + hoL (stI D bits d) b (List.replicate t (2, 0) ++ xs) = _
    rw [if_neg (fun z => absurd z.1 (by decide)), ih]
    omega
theorem ho_lay {D : sDt} {bits d b : Nat} : ∀ r w, hoL (stI D bits d) b (layI D bits r w) = hsD D bits d b r w := by
  intro r
  induction r with
  | zero =>
    intro w
    have := hoL_rep (D := D) (bits := bits) (d := d) (b := b) (sT D w) []
    rw [List.append_nil] at this
    exact this
  | succ r ih =>
    intro w
    have h1 : hoL (stI D bits d) b ((1, w) :: layI D bits r (w + 1)) = hsD D bits d b (r + 1) w := by
      show (if (1 : Nat) = 1 ∧ dig (sW D) d w = b then sL D w * liD D bits w else 0) + hoL (stI D bits d) b (layI D bits r (w + 1)) = _
      rw [ih, hsD]
      by_cases z : dig (sW D) d w = b
      · rw [if_pos ⟨rfl, z⟩, if_pos z]
      · rw [if_neg (fun y => z y.2), if_neg z]
    rw [layI, hoL_rep]
    by_cases e : bits / 2 ^ w % 2 = 1
    · rw [if_pos e]
      show (if (0 : Nat) = 1 ∧ sG D (ixB bits w) = b then _ else (0 : Int)) + hoL (stI D bits d) b ((1, w) :: layI D bits r (w + 1)) = _
      rw [if_neg (fun z => absurd z.1 (by decide)), h1]
      omega
    · rw [if_neg e]
      exact h1
