/-! loads and hands: the least time, and the first way to it -/
/-- the best of what was best and of what a set tells, the first of like ones -/
def Bs {γ : Type} (enc : Nat → γ) (S : Int → Nat → Prop) (b b' : Int × γ) : Prop := (b' = b ∨ (b'.1 < b.1 ∧ ∃ g, b'.2 = enc g ∧ S b'.1 g ∧ ∀ g', S b'.1 g' → g ≤ g')) ∧ ∀ v g, S v g → b'.1 ≤ v
section BS
variable {γ : Type} {enc : Nat → γ} {S S1 S2 S' : Int → Nat → Prop} {b b1 b2 b' : Int × γ}
theorem Bs.nil (h : ∀ v g, ¬ S v g) (b : Int × γ) : Bs enc S b b := ⟨Or.inl rfl, fun v g hs => absurd hs (h v g)⟩
theorem Bs.skip (h : ∀ v g, S v g → b.1 ≤ v) : Bs enc S b b := ⟨Or.inl rfl, h⟩
theorem Bs.le (h : Bs enc S b b') : b'.1 ≤ b.1 := by
  rcases h.1 with e | e
  · rw [e]; exact Int.le_refl _
  · exact Int.le_of_lt e.1
theorem Bs.seq (h1 : Bs enc S1 b b1) (h2 : Bs enc S2 b1 b2) (ho : ∀ v1 g1 v2 g2, S1 v1 g1 → S2 v2 g2 → g1 ≤ g2) (hS : ∀ v g, S v g ↔ S1 v g ∨ S2 v g) : Bs enc S b b2 := by
  refine ⟨?_, fun v g hs => ?_⟩
  · rcases h2.1 with e | ⟨e1, g, e2, e3, e4⟩
    · rw [e]
      rcases h1.1 with q | ⟨q1, g, q2, q3, q4⟩
      · exact Or.inl q
      · refine Or.inr ⟨q1, g, q2, (hS _ _).mpr (Or.inl q3), fun g' hg => ?_⟩
        rcases (hS _ _).mp hg with w | w
        · exact q4 g' w
        · exact ho _ _ _ _ q3 w
    · refine Or.inr ⟨Int.lt_of_lt_of_le e1 h1.le, g, e2, (hS _ _).mpr (Or.inr e3), fun g' hg => ?_⟩
      rcases (hS _ _).mp hg with w | w
      · have := h1.2 _ _ w
        omega
      · exact e4 g' w
  · rcases (hS _ _).mp hs with w | w
    · exact Int.le_trans h2.le (h1.2 _ _ w)
    · exact h2.2 _ _ w
theorem Bs.wide (h : Bs enc S b b') (h1 : ∀ v g, S v g → S' v g) (h2 : ∀ v g, S' v g → ∃ g', g' ≤ g ∧ S v g') : Bs enc S' b b' := by
  refine ⟨?_, fun v g hs => ?_⟩
  · rcases h.1 with e | ⟨e1, g, e2, e3, e4⟩
    · exact Or.inl e
    · refine Or.inr ⟨e1, g, e2, h1 _ _ e3, fun g' hg => ?_⟩
      obtain ⟨g2, a, c⟩ := h2 _ _ hg
      exact Nat.le_trans (e4 _ c) a
  · obtain ⟨g2, a, c⟩ := h2 _ _ hs
    exact h.2 _ _ c
theorem Bs.get (h : Bs enc S b b') {v : Int} {g : Nat} (hs : S v g) (hv : v < b.1) : ∃ g, b'.2 = enc g ∧ S b'.1 g ∧ ∀ g', S b'.1 g' → g ≤ g' := by
  rcases h.1 with e | ⟨-, e⟩
  · have := h.2 _ _ hs
    rw [e] at this
    omega
  · exact e
end BS
theorem Bs.uniq {γ δ : Type} {enc : Nat → γ} {enc2 : Nat → δ} {S : Int → Nat → Prop} {b b' : Int × γ} {c c' : Int × δ} (h : Bs enc S b b') (k : Bs enc2 S c c') {v : Int} {g : Nat} (hs : S v g) (hv : v < b.1) (kv : v < c.1) : b'.1 = c'.1 ∧ ∃ g, b'.2 = enc g ∧ c'.2 = enc2 g ∧ S b'.1 g := by
  obtain ⟨g1, a1, a2, a3⟩ := h.get hs hv
  obtain ⟨g2, c1, c2, c3⟩ := k.get hs kv
  have e : b'.1 = c'.1 := Int.le_antisymm (h.2 _ _ c2) (k.2 _ _ a2)
  have e2 : g1 = g2 := Nat.le_antisymm (a3 _ (by rw [e]; exact c2)) (c3 _ (by rw [← e]; exact a2))
  exact ⟨e, g1, a1, by rw [e2]; exact c1, a2⟩
def mx4 (c : Nat → Int) : Int := max (max (c 0) (c 1)) (max (c 2) (c 3))
def adC (c : Nat → Int) (h : Nat) (m : Int) : Nat → Int := fun j => if j = h then c j + m else c j
/-- the ways to give the loads from one on: time and digits -/
def hcm (k : Nat) (L : Nat → Int) : Nat → Nat → (Nat → Int) → Nat → Int → Nat → Prop
  | 0, _, c, dg => fun v g => v = mx4 c ∧ g = dg
  | r + 1, i, c, dg => fun v g => ∃ h, h < k ∧ hcm k L r (i + 1) (adC c h (L i)) (10 * dg + h) v g
def swp (a b j : Nat) : Nat := if j = a then b else if j = b then a else j
theorem swp_swp (a b j : Nat) : swp a b (swp a b j) = j := by
  unfold swp
  by_cases h : j = a
  · rw [if_pos h]
    by_cases h2 : b = a
    · rw [if_pos h2, h, h2]
    · rw [if_neg h2, if_pos rfl, h]
  · rw [if_neg h]
    by_cases h2 : j = b
    · rw [if_pos h2, if_pos rfl, h2]
    · rw [if_neg h2, if_neg h, if_neg h2]
theorem swp_lt {k a b j : Nat} (ha : a < k) (hb : b < k) (hj : j < k) : swp a b j < k := by
  unfold swp
  split
  · exact hb
  · split
    · exact ha
    · exact hj
theorem mx4_swp (c : Nat → Int) {a b : Nat} (ha : a < 4) (hb : b < 4) : mx4 (fun j => c (swp a b j)) = mx4 c := by
  have ha' : a = 0 ∨ a = 1 ∨ a = 2 ∨ a = 3 := by omega
  have hb' : b = 0 ∨ b = 1 ∨ b = 2 ∨ b = 3 := by omega
  unfold mx4
  have s : ∀ x y : Nat, swp a b x = y → c (swp a b x) = c y := fun x y e => by rw [e]
  rcases ha' with rfl | rfl | rfl | rfl <;> rcases hb' with rfl | rfl | rfl | rfl <;>
    first
      | (show max (max (c 0) (c 1)) (max (c 2) (c 3)) = _; omega)
      | (show max (max (c 1) (c 0)) (max (c 2) (c 3)) = _; omega)
      | (show max (max (c 2) (c 1)) (max (c 0) (c 3)) = _; omega)
      | (show max (max (c 3) (c 1)) (max (c 2) (c 0)) = _; omega)
      | (show max (max (c 0) (c 2)) (max (c 1) (c 3)) = _; omega)
      | (show max (max (c 0) (c 3)) (max (c 2) (c 1)) = _; omega)
      | (show max (max (c 0) (c 1)) (max (c 3) (c 2)) = _; omega)
theorem adC_swp (c : Nat → Int) (a b h : Nat) (m : Int) : (fun j => adC c h m (swp a b j)) = adC (fun j => c (swp a b j)) (swp a b h) m := by
  funext j
  unfold adC
  by_cases e : swp a b j = h
  · rw [if_pos e, if_pos (by rw [← e, swp_swp])]
  · rw [if_neg e, if_neg (fun q => e (by rw [q, swp_swp]))]
theorem hcm_swp {k : Nat} {L : Nat → Int} (hk : k ≤ 4) {a b : Nat} (ha : a < k) (hb : b < k) : ∀ (r i : Nat) (c : Nat → Int) (dg dg' : Nat) (v : Int) (g : Nat), hcm k L r i c dg v g → ∃ g', hcm k L r i (fun j => c (swp a b j)) dg' v g' := by
  intro r
  induction r with
  | zero =>
    intro i c dg dg' v g h
    exact ⟨dg', by rw [mx4_swp c (by omega) (by omega)]; exact h.1, rfl⟩
  | succ r ih =>
    intro i c dg dg' v g h
    obtain ⟨x, hx, hh⟩ := h
    obtain ⟨g', q⟩ := ih (i + 1) (adC c x (L i)) (10 * dg + x) (10 * dg' + swp a b x) v g hh
    rw [adC_swp] at q
    exact ⟨g', swp a b x, swp_lt ha hb hx, q⟩
theorem hcm_g {k : Nat} {L : Nat → Int} (hk : k ≤ 4) : ∀ (r i : Nat) (c : Nat → Int) (dg : Nat) (v : Int) (g : Nat), hcm k L r i c dg v g → dg * 10 ^ r ≤ g ∧ g < (dg + 1) * 10 ^ r := by
  intro r
  induction r with
  | zero =>
    intro i c dg v g h
    have : g = dg := h.2
    rw [this]
    omega
  | succ r ih =>
    intro i c dg v g h
    obtain ⟨x, hx, hh⟩ := h
    have q := ih (i + 1) _ _ v g hh
    rw [Nat.pow_succ]
    generalize 10 ^ r = T at *
    have e1 : (10 * dg + x) * T = 10 * (dg * T) + x * T := by rw [Nat.add_mul, Nat.mul_assoc]
    have e2 : (10 * dg + x + 1) * T = 10 * (dg * T) + x * T + T := by rw [Nat.add_mul, e1, Nat.one_mul]
    have e3 : dg * (T * 10) = 10 * (dg * T) := by rw [← Nat.mul_assoc, Nat.mul_comm]
    have e4 : (dg + 1) * (T * 10) = 10 * (dg * T) + 10 * T := by rw [Nat.add_mul, e3, Nat.one_mul, Nat.mul_comm T 10]
    have e5 : x * T ≤ 3 * T := Nat.mul_le_mul_right T (by omega)
    omega
theorem hcm_lt {k : Nat} {L : Nat → Int} (hk : k ≤ 4) {r i : Nat} {c1 c2 : Nat → Int} {d1 d2 : Nat} {v1 v2 : Int} {g1 g2 : Nat} (h1 : hcm k L r i c1 d1 v1 g1) (h2 : hcm k L r i c2 d2 v2 g2) (h : d1 < d2) : g1 < g2 := by
  have a := hcm_g hk r i c1 d1 v1 g1 h1
  have b := hcm_g hk r i c2 d2 v2 g2 h2
  have := Nat.mul_le_mul_right (10 ^ r) (show d1 + 1 ≤ d2 from h)
  omega
theorem hcm_lo {k n : Nat} {L : Nat → Int} (hL : ∀ i, i < n → 0 ≤ L i ∧ L i ≤ 99) : ∀ (r i : Nat) (c : Nat → Int) (dg : Nat) (v : Int) (g : Nat), i + r ≤ n → hcm k L r i c dg v g → ∀ j, j < 4 → c j ≤ v := by
  intro r
  induction r with
  | zero =>
    intro i c dg v g _ h j hj
    have e : v = mx4 c := h.1
    have hj' : j = 0 ∨ j = 1 ∨ j = 2 ∨ j = 3 := by omega
    rw [e]
    unfold mx4
    rcases hj' with rfl | rfl | rfl | rfl <;> omega
  | succ r ih =>
    intro i c dg v g hi h j hj
    obtain ⟨x, hx, hh⟩ := h
    have q := ih (i + 1) _ _ v g (by omega) hh j hj
    have := hL i (by omega)
    unfold adC at q
    split at q <;> omega
theorem hcm_up {k n : Nat} {L : Nat → Int} (hL : ∀ i, i < n → 0 ≤ L i ∧ L i ≤ 99) : ∀ (r i : Nat) (c : Nat → Int) (B : Int) (dg : Nat) (v : Int) (g : Nat), i + r ≤ n → (∀ j, j < 4 → c j ≤ B) → hcm k L r i c dg v g → v ≤ B + 99 * r := by
  intro r
  induction r with
  | zero =>
    intro i c B dg v g _ hB h
    have e : v = mx4 c := h.1
    have b0 := hB 0 (by omega)
    have b1 := hB 1 (by omega)
    have b2 := hB 2 (by omega)
    have b3 := hB 3 (by omega)
    rw [e]
    unfold mx4
    omega
  | succ r ih =>
    intro i c B dg v g hi hB h
    obtain ⟨x, hx, hh⟩ := h
    have := hL i (by omega)
    have q := ih (i + 1) _ (B + 99) _ v g (by omega) (fun j hj => by
      have := hB j hj
      unfold adC
      split <;> omega) hh
    omega
theorem hcm_ex {k : Nat} {L : Nat → Int} (hk : 1 ≤ k) : ∀ (r i : Nat) (c : Nat → Int) (dg : Nat), ∃ v g, hcm k L r i c dg v g := by
  intro r
  induction r with
  | zero => exact fun i c dg => ⟨_, _, rfl, rfl⟩
  | succ r ih =>
    intro i c dg
    obtain ⟨v, g, q⟩ := ih (i + 1) (adC c 0 (L i)) (10 * dg + 0)
    exact ⟨v, g, 0, by omega, q⟩
theorem iI_add (a b : Int) : iI a + iI b = iI (a + b) := (Int32.ofInt_add a b).symm
theorem iI_sub (a b : Int) : iI a - iI b = iI (a - b) := (Int32.ofInt_sub a b).symm
theorem iI_mul (a b : Int) : iI a * iI b = iI (a * b) := (Int32.ofInt_mul a b).symm
theorem iI_self (x : Int32) : iI x.toInt = x := (iI_of rfl).symm
theorem nI_10 (a b : Nat) : nI a * 10 + nI b = nI (10 * a + b) := by
  have h1 : nI a * 10 = iI ((a : Int) * 10) := iI_mul a 10
  have h2 : iI ((a : Int) * 10) + nI b = iI ((a : Int) * 10 + b) := iI_add _ b
  rw [h1, h2]
  show _ = iI ((10 * a + b : Nat) : Int)
  congr 1
  omega
theorem nI_10' (a b : Nat) : 10 * nI a + nI b = nI (10 * a + b) := by rw [Int32.mul_comm, nI_10]
/-- the greatest of the first -/
def pmx (c : Nat → Int) : Nat → Int
  | 0 => 0
  | j + 1 => if pmx c j < c j then c j else pmx c j
theorem pmx_b {c : Nat → Int} {B : Int} (hc : ∀ j, j < 4 → 0 ≤ c j ∧ c j ≤ B) (b0 : 0 ≤ B) : ∀ j, j ≤ 4 → 0 ≤ pmx c j ∧ pmx c j ≤ B := by
  intro j
  induction j with
  | zero => intro _; exact ⟨Int.le_refl _, b0⟩
  | succ j ih =>
    intro hj
    have := ih (by omega)
    have := hc j (by omega)
    rw [pmx]
    split <;> omega
theorem pmx_4 {c : Nat → Int} {k : Nat} (hk : k ≤ 4) (hc : ∀ j, j < 4 → 0 ≤ c j) (hz : ∀ j, k ≤ j → j < 4 → c j = 0) : pmx c k = mx4 c := by
  have h0 := hc 0 (by omega)
  have h1 := hc 1 (by omega)
  have h2 := hc 2 (by omega)
  have h3 := hc 3 (by omega)
  have z0 := hz 0
  have z1 := hz 1
  have z2 := hz 2
  have z3 := hz 3
  have p : ∀ j, (pmx c j < c j ∧ pmx c (j + 1) = c j) ∨ (c j ≤ pmx c j ∧ pmx c (j + 1) = pmx c j) := fun j => by
    rw [pmx]
    by_cases q : pmx c j < c j
    · rw [if_pos q]; exact Or.inl ⟨q, rfl⟩
    · rw [if_neg q]; exact Or.inr ⟨by omega, rfl⟩
  have p0 : pmx c 0 = 0 := rfl
  have p1 : (pmx c 0 < c 0 ∧ pmx c 1 = c 0) ∨ (c 0 ≤ pmx c 0 ∧ pmx c 1 = pmx c 0) := p 0
  have p2 : (pmx c 1 < c 1 ∧ pmx c 2 = c 1) ∨ (c 1 ≤ pmx c 1 ∧ pmx c 2 = pmx c 1) := p 1
  have p3 : (pmx c 2 < c 2 ∧ pmx c 3 = c 2) ∨ (c 2 ≤ pmx c 2 ∧ pmx c 3 = pmx c 2) := p 2
  have p4 : (pmx c 3 < c 3 ∧ pmx c 4 = c 3) ∨ (c 3 ≤ pmx c 3 ∧ pmx c 4 = pmx c 3) := p 3
  have hk' : k = 0 ∨ k = 1 ∨ k = 2 ∨ k = 3 ∨ k = 4 := by omega
  unfold mx4
  rcases hk' with rfl | rfl | rfl | rfl | rfl <;> omega
/-- the memory while hands carry -/
def st5 (M : oM) (c : Nat → Int) (b : Int × Int32) : oM := oUp (oUp (oRow M 39 (fun j => iI (c j))) 37 3 (iI b.1)) 37 4 b.2
theorem st5_at (M : oM) (c : Nat → Int) (b : Int × Int32) (a j : Nat) : (st5 M c b).1 a j = if a = 37 ∧ j = 4 then b.2 else if a = 37 ∧ j = 3 then iI b.1 else if a = 39 then iI (c j) else M.1 a j := by
  unfold st5
  rw [oUp_at, oUp_at]
  by_cases h : a = 39
  · rw [h, oRow_row, if_pos (rfl : (39 : Nat) = 39)]
  · rw [oRow_ro _ _ _ h, if_neg h]
theorem st5_up (M : oM) (c : Nat → Int) (b : Int × Int32) (h : Nat) (y : Int) : oUp (st5 M c b) 39 h (iI y) = st5 M (fun j => if j = h then y else c j) b := by
  refine Prod.ext ?_ rfl
  funext a j
  rw [oUp_at, st5_at, st5_at]
  by_cases q : a = 39
  · rw [if_neg (show ¬ (a = 37 ∧ j = 4) by omega), if_neg (show ¬ (a = 37 ∧ j = 3) by omega), if_pos q, if_neg (show ¬ (a = 37 ∧ j = 4) by omega), if_neg (show ¬ (a = 37 ∧ j = 3) by omega), if_pos q]
    by_cases z : j = h
    · rw [if_pos ⟨q, z⟩, if_pos z]
    · rw [if_neg (fun w => z w.2), if_neg z]
  · rw [if_neg (fun w => q w.1), if_neg q, if_neg q]
theorem st5_b (M : oM) (c : Nat → Int) (b : Int × Int32) (v : Int) (y : Int32) : oUp (oUp (st5 M c b) 37 3 (iI v)) 37 4 y = st5 M c (v, y) := by
  refine Prod.ext ?_ rfl
  funext a j
  rw [oUp_at, oUp_at, st5_at, st5_at]
  by_cases q : a = 37 ∧ j = 4
  · rw [if_pos q, if_pos q]
  · rw [if_neg q, if_neg q]
    by_cases w : a = 37 ∧ j = 3
    · simp only [if_neg q, if_pos w]
    · rw [if_neg w, if_neg w, if_neg q, if_neg w]
theorem kl4 {N : Nat} {K : oK} {M : oM} {c : Nat → Int} (dg : Int32) {b : Int × Int32} (hc : ∀ j, j < 4 → 0 ≤ c j ∧ c j ≤ 1000) (b0 : 0 ≤ b.1) (b1 : b.1 ≤ 2147483647) : ∀ (f j : Nat), j ≤ 4 → 4 < j + f → f_X5_keepLeast_4 N K f dg (iI (pmx c j)) (nI j) (st5 M c b) = some ((), st5 M c (if mx4 c < b.1 then (mx4 c, dg) else b)) := by
  have e4 := pmx_4 (c := c) (k := 4) (by omega) (fun j hj => (hc j hj).1) (fun j h1 h2 => by omega)
  intro f
  induction f with
  | zero => intro j h1 h2; omega
  | succ f ih =>
    intro j h1 h2
    have ej : (nI j).toInt = j := nI_toInt (by omega)
    have hb := pmx_b hc (by omega) j h1
    rw [f_X5_keepLeast_4]
    dsimp only
    by_cases q : j = 4
    · subst q
      have e3 : (st5 M c b).1 37 3 = iI b.1 := by rw [st5_at, if_neg (by omega), if_pos ⟨rfl, rfl⟩]
      rw [if_pos (by decide), e3, e4]
      rw [e4] at hb
      by_cases w : mx4 c < b.1
      · rw [if_neg (by rw [oLeI, iI_t (by omega) (by omega), iI_t (by omega) (by omega)]; omega), if_pos w, st5_b]
      · rw [if_pos (by rw [oLeI, iI_t (by omega) (by omega), iI_t (by omega) (by omega)]; omega), if_neg w]
    · have hcj := hc j (by omega)
      have e39 : (st5 M c b).1 39 (nI j).toNatClampNeg = iI (c j) := by rw [nI_n (by omega), st5_at, if_neg (by omega), if_neg (by omega), if_pos rfl]
      have e5 : (if iI (pmx c j) < iI (c j) then iI (c j) else iI (pmx c j)) = iI (pmx c (j + 1)) := by
        rw [pmx]
        by_cases w : pmx c j < c j
        · rw [if_pos w, if_pos (by rw [oLtI, iI_t (by omega) (by omega), iI_t (by omega) (by omega)]; exact w)]
        · rw [if_neg w, if_neg (by rw [oLtI, iI_t (by omega) (by omega), iI_t (by omega) (by omega)]; exact w)]
      rw [if_neg (by rw [oLeI, ej]; show ¬ (4 : Int) ≤ _; omega), oIx_p (by omega) (by omega), e39, e5, nI_1]
      exact ih (j + 1) (by omega) (by omega)
def SJ (k : Nat) (L : Nat → Int) (r i : Nat) (c : Nat → Int) (m : Int) (dg T : Nat) (v : Int) (g : Nat) : Prop := ∃ h, h < T ∧ hcm k L r (i + 1) (adC c h m) (10 * dg + h) v g
theorem SJ_seq {k : Nat} {L : Nat → Int} (hk : k ≤ 4) {r i : Nat} {c : Nat → Int} {m : Int} {dg j : Nat} {b b1 b2 : Int × Int32} (h1 : Bs nI (SJ k L r i c m dg j) b b1) (h2 : Bs nI (hcm k L r (i + 1) (adC c j m) (10 * dg + j)) b1 b2) : Bs nI (SJ k L r i c m dg (j + 1)) b b2 := by
  refine h1.seq h2 (fun v1 g1 v2 g2 q1 q2 => ?_) (fun v g => ⟨fun q => ?_, fun q => ?_⟩)
  · obtain ⟨h, h3, h4⟩ := q1
    exact Nat.le_of_lt (hcm_lt hk h4 q2 (by omega))
  · obtain ⟨h, h3, h4⟩ := q
    by_cases w : h = j
    · subst w
      exact Or.inr h4
    · exact Or.inl ⟨h, by omega, h4⟩
  · rcases q with ⟨h, h3, h4⟩ | q
    · exact ⟨h, by omega, h4⟩
    · exact ⟨j, by omega, q⟩
theorem gv32 {N : Nat} {K : oK} {M : oM} {k n : Nat} (hk : k ≤ 4) {L : Nat → Int} (hL : ∀ i, i < n → 0 ≤ L i ∧ L i ≤ 99) {rS : Int32 → Int32 → Int32 → Int32 → oM → Option (Unit × oM)} {i used dg r : Nat} (hir : i + 1 + r ≤ n) (hi8 : n ≤ 8) (hu : used ≤ 4) {c : Nat → Int} {m : Int} (hm : 0 ≤ m ∧ m ≤ 99) (hc : ∀ j, j < 4 → 0 ≤ c j ∧ c j ≤ 800)
    (hrS : ∀ (j : Nat) (b : Int × Int32), j < k → j ≤ used → 0 ≤ b.1 → b.1 ≤ 2147483647 → ∃ b', rS (nI k) (nI i + 1) (nI (if used < j + 1 then j + 1 else used)) (nI (10 * dg + j)) (st5 M (adC c j m) b) = some ((), st5 M (adC c j m) b') ∧ Bs nI (hcm k L r (i + 1) (adC c j m) (10 * dg + j)) b b' ∧ 0 ≤ b'.1) :
    ∀ (f j : Nat) (b bj : Int × Int32), j ≤ (if k ≤ used + 1 then k else used + 1) → (if k ≤ used + 1 then k else used + 1) < j + f → 0 ≤ b.1 → b.1 ≤ 2147483647 → Bs nI (SJ k L r i c m dg j) b bj → 0 ≤ bj.1 →
    ∃ b', f_X5_give_32 N rS K f (nI k) (nI i) (nI used) (nI dg) (iI m) (nI j) (st5 M c bj) = some ((), st5 M c b') ∧ Bs nI (SJ k L r i c m dg (if k ≤ used + 1 then k else used + 1)) b b' ∧ 0 ≤ b'.1 := by
  intro f
  induction f with
  | zero => intro j b bj h1 h2; omega
  | succ f ih =>
    intro j b bj h1 h2 b0 b1 hB hj0
    have hbj := hB.le
    have ej : (nI j).toInt = j := nI_toInt (by split at h1 <;> omega)
    have ek : (nI k).toInt = k := nI_toInt (by omega)
    have eu : (nI used).toInt = used := nI_toInt (by omega)
    have hm0 := hm.1
    have hm1 := hm.2
    rw [f_X5_give_32]
    dsimp only
    by_cases q : j = (if k ≤ used + 1 then k else used + 1)
    · rw [← q]
      refine ⟨bj, ?_, hB, hj0⟩
      by_cases w : k ≤ j
      · rw [if_pos (by rw [oLeI, ek, ej]; omega)]
      · rw [if_neg (by rw [oLeI, ek, ej]; omega), if_pos (by rw [oLtI, eu, ej]; split at q <;> omega)]
    · have hjk : j < k := by split at h1 <;> split at q <;> omega
      have hju : j ≤ used := by split at h1 <;> split at q <;> omega
      have hcj := hc j (by omega)
      have hx : ∀ A : Option (Unit × oM), oIx (nI j) 4 A = A := fun A => oIx_p (by omega) (by omega)
      have e39 : (st5 M c bj).1 39 j = iI (c j) := by rw [st5_at, if_neg (by omega), if_neg (by omega), if_pos rfl]
      have e3 : (st5 M c bj).1 37 3 = iI bj.1 := by rw [st5_at, if_neg (by omega), if_pos ⟨rfl, rfl⟩]
      rw [if_neg (by rw [oLeI, ek, ej]; omega), if_neg (by rw [oLtI, eu, ej]; omega), if_neg (by rw [oLeI, ej, tl_4]; omega)]
      simp only [hx, nI_n (show j < 2147483648 by omega), e39, e3, iI_add, f_X5_give_115, nI_1]
      by_cases p : bj.1 ≤ c j + m
      · rw [if_pos (by rw [oLeI, iI_t (by omega) (by omega), iI_t (by omega) (by omega)]; exact p)]
        refine ih (j + 1) b bj (by split at h1 <;> split at q <;> split <;> omega) (by omega) b0 b1 (SJ_seq hk hB (.skip fun v g hs => ?_)) hj0
        have := hcm_lo hL r (i + 1) _ _ v g (by omega) hs j (by omega)
        unfold adC at this
        rw [if_pos rfl] at this
        omega
      · rw [if_neg (by rw [oLeI, iI_t (by omega) (by omega), iI_t (by omega) (by omega)]; exact p), st5_up]
        have ea : (fun x => if x = j then c j + m else c x) = adC c j m := by
          funext x
          unfold adC
          by_cases z : x = j
          · rw [if_pos z, if_pos z, z]
          · rw [if_neg z, if_neg z]
        obtain ⟨b', a1, a2, a3⟩ := hrS j bj hjk hju hj0 (by omega)
        have eu' : (if nI used < nI (j + 1) then nI (j + 1) else nI used) = nI (if used < j + 1 then j + 1 else used) := by
          by_cases z : used < j + 1
          · rw [if_pos z, if_pos (by rw [oLtI, eu, nI_toInt (by omega)]; omega)]
          · rw [if_neg z, if_neg (by rw [oLtI, eu, nI_toInt (by omega)]; omega)]
        have a1' := a1
        rw [nI_1] at a1'
        rw [ea, eu', nI_10, a1', oB2_p]
        have e39' : (st5 M (adC c j m) b').1 39 j = iI (c j + m) := by
          rw [st5_at, if_neg (by omega), if_neg (by omega), if_pos rfl]
          unfold adC
          rw [if_pos rfl]
        have eb : (fun x => if x = j then c j else adC c j m x) = c := by
          funext x
          unfold adC
          by_cases z : x = j
          · rw [if_pos z, z]
          · rw [if_neg z, if_neg z]
        rw [e39', iI_sub, show c j + m - m = c j by omega, st5_up, eb]
        exact ih (j + 1) b b' (by split at h1 <;> split at q <;> split <;> omega) (by omega) b0 b1 (SJ_seq hk hB a2) a3
theorem gv5 {N : Nat} (hN : 100 ≤ N) {K : oK} {M : oM} {k n : Nat} (hk1 : 1 ≤ k) (hk : k ≤ 4) (hn : n ≤ 8) (hcnt : M.1 37 2 = nI n) {L : Nat → Int} (hL : ∀ i, i < n → 0 ≤ L i ∧ L i ≤ 99) (hLM : ∀ i, i < n → M.1 38 i = iI (L i)) : ∀ (r f i used dg : Nat) (c : Nat → Int) (b : Int × Int32), r < f → i + r = n → used ≤ k → (∀ j, used ≤ j → j < 4 → c j = 0) → (∀ j, j < 4 → 0 ≤ c j ∧ c j ≤ 99 * (i : Int)) → 0 ≤ b.1 → b.1 ≤ 2147483647 →
    ∃ b', f_X5_give N K f (nI k) (nI i) (nI used) (nI dg) (st5 M c b) = some ((), st5 M c b') ∧ Bs nI (hcm k L r i c dg) b b' ∧ 0 ≤ b'.1 := by
  intro r
  induction r with
  | zero =>
    intro f i used dg c b hf hi hu hz hc b0 b1
    obtain ⟨f, rfl⟩ : ∃ m, f = m + 1 := ⟨f - 1, by omega⟩
    have e2 : (st5 M c b).1 37 2 = nI n := by rw [st5_at, if_neg (by omega), if_neg (by omega), if_neg (by omega)]; exact hcnt
    have ei : (nI i).toInt = i := nI_toInt (by omega)
    have en : (nI n).toInt = n := nI_toInt (by omega)
    rw [f_X5_give]
    dsimp only
    rw [e2, if_pos (by rw [oLeI, ei, en]; omega)]
    unfold f_X5_give_14 f_X5_keepLeast
    have h4 := kl4 (N := N) (K := K) (M := M) (c := c) (nI dg) (b := b) (fun j hj => by have := hc j hj; omega) b0 b1 N 0 (by omega) (by omega)
    have h4' : f_X5_keepLeast_4 N K N (nI dg) 0 0 (st5 M c b) = _ := h4
    have hm0 : 0 ≤ mx4 c := by
      have := (hc 0 (by omega)).1
      unfold mx4
      omega
    rw [h4', oB2_p]
    refine ⟨_, rfl, ?_, ?_⟩
    · by_cases w : mx4 c < b.1
      · rw [if_pos w]
        exact ⟨Or.inr ⟨w, dg, rfl, ⟨rfl, rfl⟩, fun g' h => Nat.le_of_eq h.2.symm⟩, fun v g h => Int.le_of_eq h.1.symm⟩
      · rw [if_neg w]
        exact .skip fun v g h => by have : v = mx4 c := h.1; omega
    · by_cases w : mx4 c < b.1
      · rw [if_pos w]; exact hm0
      · rw [if_neg w]; exact b0
  | succ r ih =>
    intro f i used dg c b hf hi hu hz hc b0 b1
    obtain ⟨f, rfl⟩ : ∃ m, f = m + 1 := ⟨f - 1, by omega⟩
    have e2 : (st5 M c b).1 37 2 = nI n := by rw [st5_at, if_neg (by omega), if_neg (by omega), if_neg (by omega)]; exact hcnt
    have ei : (nI i).toInt = i := nI_toInt (by omega)
    have en : (nI n).toInt = n := nI_toInt (by omega)
    have e38 : (st5 M c b).1 38 i = iI (L i) := by rw [st5_at, if_neg (by omega), if_neg (by omega), if_neg (by omega)]; exact hLM i (by omega)
    have hLi := hL i (by omega)
    rw [f_X5_give]
    dsimp only
    rw [e2, if_neg (by rw [oLeI, ei, en]; omega), if_pos (by rw [oLtI, ei, tl_8]; omega), oIx_p (by omega) (by omega), nI_n (by omega), e38]
    obtain ⟨b', a1, a2, a3⟩ := gv32 (N := N) (K := K) (M := M) (n := n) hk hL (rS := f_X5_give N K f) (i := i) (used := used) (dg := dg) (r := r) (by omega) hn (by omega) (c := c) (m := L i) hLi (fun j hj => by have := hc j hj; omega) (fun j b hjk hju q0 q1 => by
      rw [nI_1]
      refine ih f (i + 1) _ (10 * dg + j) (adC c j (L i)) b (by omega) (by omega) (by split <;> omega) (fun x hx1 hx2 => ?_) (fun x hx => ?_) q0 q1
      · have : used ≤ x ∧ ¬ x = j := by split at hx1 <;> omega
        unfold adC
        rw [if_neg this.2]
        exact hz x this.1 hx2
      · have := hc x hx
        unfold adC
        split <;> omega) N 0 b b (by omega) (by split <;> omega) b0 b1 (.nil (fun v g h => by obtain ⟨h, h1, -⟩ := h; omega) b) b0
    refine ⟨b', a1, a2.wide (fun v g h => ?_) (fun v g h => ?_), a3⟩
    · obtain ⟨h, h1, h2⟩ := h
      exact ⟨h, by split at h1 <;> omega, h2⟩
    · obtain ⟨h, h1, h2⟩ := h
      by_cases w : h < (if k ≤ used + 1 then k else used + 1)
      · exact ⟨g, Nat.le_refl _, h, w, h2⟩
      · have hw : ¬ k ≤ used + 1 ∧ used < h := by split at w <;> omega
        obtain ⟨g', q⟩ := hcm_swp (L := L) hk (a := used) (b := h) (by omega) h1 r (i + 1) (adC c h (L i)) (10 * dg + h) (10 * dg + used) v g h2
        rw [adC_swp] at q
        have es : swp used h h = used := by
          unfold swp
          rw [if_neg (by omega), if_pos rfl]
        have ec : (fun j => c (swp used h j)) = c := by
          funext x
          unfold swp
          by_cases z1 : x = used
          · rw [if_pos z1, z1, hz h (by omega) (by omega), hz used (Nat.le_refl _) (by omega)]
          · rw [if_neg z1]
            by_cases z2 : x = h
            · rw [if_pos z2, z2, hz h (by omega) (by omega), hz used (Nat.le_refl _) (by omega)]
            · rw [if_neg z2]
        rw [es, ec] at q
        exact ⟨g', Nat.le_of_lt (hcm_lt hk q h2 (by omega)), used, by rw [if_neg hw.1]; omega, q⟩
