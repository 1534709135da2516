/-! where the cells lie, and what a laying and a shelf are -/
def oShl : List (Nat × Nat) := [(17, 12), (14, 6), (0, 21), (0, 40), (0, 40), (0, 40), (10, 7), (0, 20), (0, 20), (0, 20), (0, 12), (9, 7), (0, 6), (0, 6), (2, 6), (0, 117), (0, 9), (16, 4), (1, 120), (0, 13), (4, 20), (8, 9), (0, 25), (0, 25), (0, 25), (0, 25), (0, 25), (0, 25), (13, 16), (0, 6), (0, 6), (2, 7), (0, 4), (0, 4), (0, 36), (0, 7), (0, 3), (11, 5), (0, 8), (0, 4), (7, 7), (0, 9), (0, 9), (0, 9), (6, 5), (0, 24), (5, 6), (15, 5), (3, 60), (15, 5), (3, 60), (15, 5), (3, 60), (15, 5), (3, 60), (15, 5), (3, 60), (15, 5), (3, 60), (18, 66), (0, 21), (0, 40), (0, 40), (0, 40), (0, 20), (0, 20), (0, 20), (0, 6), (0, 6), (0, 120), (0, 9), (0, 117), (0, 13), (0, 20), (0, 20), (0, 20), (0, 20), (0, 480), (0, 480), (0, 480), (2, 6), (0, 25), (0, 25), (0, 25), (0, 25), (0, 25), (0, 25), (0, 6), (0, 7), (0, 4), (0, 4), (0, 8), (0, 4), (0, 12), (0, 9), (0, 9), (0, 24), (0, 6), (0, 6), (3, 360), (3, 60)]
def oSh (a : Nat) : Nat × Nat := oShl.getD a (0, 0)
def oRfl : List (List (Option Nat)) := [[some 1, some 6, some 11, some 17, some 20, some 21, some 28, some 37, some 40, some 44, some 46, none], [some 2, some 3, some 4, some 5, none, none], [], [], [], [], [some 1, some 7, some 8, some 9, some 10, none, none], [], [], [], [], [some 1, some 12, some 13, some 14, some 15, some 16, none], [], [], [], [], [], [some 18, some 19, none, none], [], [], [], [some 6, some 11, some 22, some 23, some 24, some 25, some 26, some 27, none], [], [], [], [], [], [], [some 6, some 11, some 29, some 30, some 31, some 32, some 33, some 34, some 35, some 36, none, none, none, none, none, none], [], [], [], [], [], [], [], [], [some 38, some 39, none, none, none], [], [], [some 41, some 42, some 43, none, none, none, none], [], [], [], [some 45, none, none, none, none], [], [], [some 48, none, none, none, none], [], [some 50, none, none, none, none], [], [some 52, none, none, none, none], [], [some 54, none, none, none, none], [], [some 56, none, none, none, none], [], [some 58, none, none, none, none], [], [some 60, some 61, some 62, some 63, none, none, none, none, some 64, some 65, some 66, none, some 67, some 68, some 69, none, some 70, some 71, some 72, none, none, some 73, some 74, some 75, some 76, some 77, some 78, some 79, some 80, none, none, none, some 81, some 82, some 83, some 84, some 85, some 86, none, none, some 87, some 88, some 89, some 90, none, none, none, none, none, none, some 91, some 92, none, none, some 93, none, some 94, some 95, some 96, none, none, none, some 97, some 98, some 99, some 100], [], [], [], [], [], [], [], [], [], [], [], [], [], [], [], [], [], [], [], [], [], [], [], [], [], [], [], [], [], [], [], [], [], [], [], [], [], [], [], [], []]
def oRf (a k : Nat) : Option Nat := (oRfl.getD a []).getD k none
def oLS (K : oK) (h : Nat) : Prop := h + 5 ≤ K.1 ∧ K.2.2.1 h = (12, 8) ∧ (∀ j, 1 ≤ j → j ≤ 4 → K.2.2.1 (h + j) = (0, 24) ∧ K.2.2.2 h (j + 2) = some (h + j))
def oSS (K : oK) (h : Nat) : Prop := h + 2 ≤ K.1 ∧ K.2.2.1 h = (15, 5) ∧ K.2.2.1 (h + 1) = (3, 60) ∧ K.2.2.2 h 0 = some (h + 1) ∧ ∀ q, K.2.2.2 h 2 = some q → oLS K q
def oSR (K : oK) : Prop := (101 ≤ K.1 ∧ K.1 ≤ 1000000) ∧ (∀ a, a < 101 → K.2.2.1 a = oSh a) ∧ (∀ a k b, oRf a k = some b → K.2.2.2 a k = some b) ∧ (∀ i h, K.2.2.2 20 i = some h → oLS K h) ∧ (∀ i, i < 6 → K.2.2.2 46 i = some (47 + 2 * i) ∧ oSS K (47 + 2 * i))
theorem oLt {K : oK} (h : oSR K) {a : Nat} (ha : a + 1 ≤ 101) : a < K.1 := Nat.lt_of_lt_of_le ha h.1.1
theorem oSho {K : oK} (h : oSR K) {a t : Nat} (ha : a + 1 ≤ 101) (e : (oSh a).1 = t) : (K.2.2.1 a).1 = t := by rw [h.2.1 a ha, e]
theorem oSha {K : oK} (h : oSR K) {a t n : Nat} (ha : a + 1 ≤ 101) (e : oSh a = (t, n)) : K.2.2.1 a = (t, n) := by rw [h.2.1 a ha, e]
theorem oRfK {K : oK} (h : oSR K) {a k b : Nat} (e : oRf a k = some b) : K.2.2.2 a k = some b := h.2.2.1 a k b e
theorem oSml {K : oK} (h : oSR K) {a : Nat} (ha : a < K.1) : a < 1000000 := Nat.lt_of_lt_of_le ha h.1.2
theorem oLSa {K : oK} {h j : Nat} (hh : oLS K h) (hj : j + 1 ≤ 5) : h + j < K.1 := Nat.lt_of_lt_of_le (by omega) hh.1
theorem oLSo {K : oK} {h : Nat} (hh : oLS K h) : (K.2.2.1 h).1 = 12 := by rw [hh.2.1]
theorem oLSr {K : oK} {h j : Nat} (hh : oLS K h) (h1 : 1 ≤ j) (hj : j + 1 ≤ 5) : K.2.2.1 (h + j) = (0, 24) := (hh.2.2 j h1 (by omega)).1
theorem oLSf {K : oK} {h j : Nat} (hh : oLS K h) (h1 : 1 ≤ j) (hj : j ≤ 4) : K.2.2.2 h (j + 2) = some (h + j) := (hh.2.2 j h1 hj).2
theorem oSSa {K : oK} {h j : Nat} (hh : oSS K h) (hj : j + 1 ≤ 2) : h + j < K.1 := Nat.lt_of_lt_of_le (by omega) hh.1
theorem oSSo {K : oK} {h : Nat} (hh : oSS K h) : (K.2.2.1 h).1 = 15 := by rw [hh.2.1]
theorem oSSr {K : oK} {h : Nat} (hh : oSS K h) : K.2.2.1 (h + 1) = (3, 60) := hh.2.2.1
theorem oSSf {K : oK} {h : Nat} (hh : oSS K h) : K.2.2.2 h 0 = some (h + 1) := hh.2.2.2.1
theorem oSSl {K : oK} {h q : Nat} (hh : oSS K h) (e : K.2.2.2 h 2 = some q) : oLS K q := hh.2.2.2.2 q e
theorem oLyR {K : oK} (h : oSR K) {i q : Nat} (e : K.2.2.2 20 i = some q) : oLS K q := h.2.2.2.1 i q e
theorem oShR {K : oK} (h : oSR K) {i : Int32} (hi : vp_in i 6) : K.2.2.2 46 i.toNatClampNeg = some (47 + 2 * i.toNatClampNeg) ∧ oSS K (47 + 2 * i.toNatClampNeg) := h.2.2.2.2 _ (Nat.not_le.mp fun q => hi (Or.inr q))
/-! how the functions go on -/
def oB2 {α β : Type} (o : Option (α × oM)) (k : α → oM → Option β) : Option β := match o with
  | none => none
  | some q => k q.1 q.2
theorem oB2_some {α β : Type} {o : Option (α × oM)} {k : α → oM → Option β} {r : β} (h : oB2 o k = some r) : ∃ (v : α) (M : oM), o = some (v, M) ∧ k v M = some r := by
  cases o with
  | none => cases h
  | some q => exact ⟨q.1, q.2, rfl, h⟩
def oIx {β : Type} (i : Int32) (n : Nat) (A : Option β) : Option β := if i < 0 ∨ n ≤ i.toNatClampNeg then none else A
theorem oIx_some {β : Type} {i : Int32} {n : Nat} {A : Option β} {r : β} (h : oIx i n A = some r) : vp_in i n ∧ A = some r := by
  unfold oIx at h
  by_cases c : i < 0 ∨ n ≤ i.toNatClampNeg
  · rw [if_pos c] at h
    cases h
  · rw [if_neg c] at h
    exact ⟨c, h⟩
def oNz {β : Type} (y : Int32) (A : Option β) : Option β := if y = 0 then none else A
theorem oNz_some {β : Type} {y : Int32} {A : Option β} {r : β} (h : oNz y A = some r) : ¬ y = 0 ∧ A = some r := by
  unfold oNz at h
  by_cases c : y = 0
  · rw [if_pos c] at h
    cases h
  · rw [if_neg c] at h
    exact ⟨c, h⟩
def oCs {β : Type} (r : Option Nat) (A : β) (B : Nat → β) : β := match r with
  | none => A
  | some h => B h
def oBi (b : Bool) : Int32 := cond b 1 0
theorem oRes {α : Type} {a v : α} {M M' : oM} (h : some (a, M) = some (v, M')) : a = v ∧ M = M' := by
  cases h
  exact ⟨rfl, rfl⟩
theorem oNe {x c : Int32} {k : Int} (h : ¬ x = c) (hk : c.toInt = k) : ¬ x.toInt = k := fun e => h (Int32.toInt_inj.mp (e.trans hk.symm))
def oCpOk {β : Type} (sp dp n : Int32) (n0 n1 : Nat) (A : Option β) : Option β := if sp < 0 ∨ dp < 0 ∨ n < 0 ∨ n0 < sp.toNatClampNeg + n.toNatClampNeg ∨ n1 < dp.toNatClampNeg + n.toNatClampNeg then none else A
theorem oCpOk_some {β : Type} {sp dp n : Int32} {n0 n1 : Nat} {A : Option β} {r : β} (h : oCpOk sp dp n n0 n1 A = some r) : (¬ sp < 0 ∧ ¬ dp < 0 ∧ ¬ n < 0 ∧ sp.toNatClampNeg + n.toNatClampNeg ≤ n0 ∧ dp.toNatClampNeg + n.toNatClampNeg ≤ n1) ∧ A = some r := by
  unfold oCpOk at h
  by_cases c : sp < 0 ∨ dp < 0 ∨ n < 0 ∨ n0 < sp.toNatClampNeg + n.toNatClampNeg ∨ n1 < dp.toNatClampNeg + n.toNatClampNeg
  · rw [if_pos c] at h
    cases h
  · rw [if_neg c] at h
    exact ⟨⟨fun q => c (Or.inl q), fun q => c (Or.inr (Or.inl q)), fun q => c (Or.inr (Or.inr (Or.inl q))), by omega, by omega⟩, h⟩
