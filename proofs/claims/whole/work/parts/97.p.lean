/-! the most: what is searched, apart from the memory -/
/-- kind, ways, engines; lengths, feet, tubs ahead, engines' numbers -/
abbrev sDt : Type := Int32 × Nat × Nat × (Nat → Int) × (Nat → Int) × (Nat → Nat) × (Nat → Nat)
def sK (D : sDt) : Int32 := D.1
def sW (D : sDt) : Nat := D.2.1
def sE (D : sDt) : Nat := D.2.2.1
def sL (D : sDt) : Nat → Int := D.2.2.2.1
def sC (D : sDt) : Nat → Int := D.2.2.2.2.1
def sT (D : sDt) : Nat → Nat := D.2.2.2.2.2.1
def sG (D : sDt) : Nat → Nat := D.2.2.2.2.2.2
/-- the sum of the first tubs -/
def smT (t : Nat → Nat) : Nat → Nat
  | 0 => 0
  | k + 1 => smT t k + t k
def okD (D : sDt) : Prop := sW D ≤ 6 ∧ sE D ≤ 4 ∧ (∀ w, w < sW D → 1 ≤ sL D w ∧ sL D w ≤ 30 ∧ -999 ≤ sC D w ∧ sC D w ≤ 999) ∧ (∀ e, e < sE D → sG D e < 6) ∧ smT (sT D) (sW D + 1) + sW D + sE D ≤ 24
/-- engines ahead of the ways before one -/
def ixB (bits : Nat) : Nat → Nat
  | 0 => 0
  | w + 1 => if bits / 2 ^ w % 2 = 1 then ixB bits w + 1 else ixB bits w
def pdg (bits : Nat) : Nat → Nat
  | 0 => 0
  | w + 1 => if bits / 2 ^ w % 2 = 1 then 10 * pdg bits w + w else pdg bits w
def mayB (E bits : Nat) : Prop := if E = 0 then bits = 0 else bits % 2 = 1 ∧ ixB bits 6 = E
def liD (D : sDt) (bits w : Nat) : Int := if sK D = 2 then 2 else if sK D = 4 then (if bits < 2 ^ (w + 1) then 2 else 1) else 1
def dig (W d w : Nat) : Nat := d / 10 ^ (W - 1 - w) % 10
def drD (D : sDt) (ls : Nat → Int → Int) (f : Int) (bits w b : Nat) : Int := sL D w * ls b (if liD D bits w = 2 then (f + 1) / 2 else f) + 43 * sC D w
/-- what one way's going through leaves -/
def aft (D : sDt) (w : Nat) (p : Int) : Int := if 0 < sT D w then 0 else p
def lfD (D : sDt) (lf : Nat → Int → Int) (f : Int) (bits w : Nat) : Int := if bits / 2 ^ w % 2 = 1 then lf (sG D (ixB bits w)) f else 0
def vl (D : sDt) (lf ls : Nat → Int → Int) (f need : Int) (bits d : Nat) : Nat → Nat → Int → Prop
  | 0, w, p => (0 < sT D w → 0 ≤ p) ∧ need ≤ aft D w p
  | r + 1, w, p => (0 < sT D w → 0 ≤ p) ∧ (bits / 2 ^ w % 2 = 1 → 0 ≤ aft D w p) ∧ vl D lf ls f need bits d r (w + 1) (aft D w p + lfD D lf f bits w - drD D ls f bits w (dig (sW D) d w))
def hsD (D : sDt) (bits d b : Nat) : Nat → Nat → Int
  | 0, _ => 0
  | r + 1, w => (if dig (sW D) d w = b then sL D w * liD D bits w else 0) + hsD D bits d b r (w + 1)
def VQ (D : sDt) (lf ls : Nat → Int → Int) (need : Int) (sto : Nat → Int) (bits d : Nat) (f : Int) : Prop := vl D lf ls f need bits d (sW D) 0 0 ∧ ∀ b, b < 3 → hsD D bits d b (sW D) 0 ≤ sto b
/-- bores told as digits -/
def bq : Nat → Nat → Nat → Prop
  | 0, d, d' => d' = d
  | r + 1, d, d' => ∃ b, b < 3 ∧ bq r (10 * d + b) d'
theorem bq_g : ∀ (r d d' : Nat), bq r d d' → d * 10 ^ r ≤ d' ∧ d' < (d + 1) * 10 ^ r := by
  intro r
  induction r with
  | zero =>
    intro d d' h
    have : d' = d := h
    rw [this]
    omega
  | succ r ih =>
    intro d d' h
    obtain ⟨b, hb, hh⟩ := h
    have q := ih _ _ hh
    rw [Nat.pow_succ]
    generalize 10 ^ r = T at *
    have e1 : (10 * d + b) * T = 10 * (d * T) + b * T := by rw [Nat.add_mul, Nat.mul_assoc]
    have e2 : (10 * d + b + 1) * T = 10 * (d * T) + b * T + T := by rw [Nat.add_mul, e1, Nat.one_mul]
    have e3 : d * (T * 10) = 10 * (d * T) := by rw [← Nat.mul_assoc, Nat.mul_comm]
    have e4 : (d + 1) * (T * 10) = 10 * (d * T) + 10 * T := by rw [Nat.add_mul, e3, Nat.one_mul, Nat.mul_comm T 10]
    have e5 : b * T ≤ 2 * T := Nat.mul_le_mul_right T (by omega)
    omega
theorem bq_lt {r d1 d2 g1 g2 : Nat} (h1 : bq r d1 g1) (h2 : bq r d2 g2) (h : d1 < d2) : g1 < g2 := by
  have a := bq_g r d1 g1 h1
  have b := bq_g r d2 g2 h2
  have := Nat.mul_le_mul_right (10 ^ r) (show d1 + 1 ≤ d2 from h)
  omega
theorem bq_div {r d d' : Nat} (h : bq r d d') : d' / 10 ^ r = d := by
  have a := bq_g r d d' h
  have hp : 0 < 10 ^ r := Nat.pow_pos (by decide)
  refine Nat.div_eq_of_lt_le a.1 ?_
  exact a.2
/-- the digit of the way at hand -/
theorem bq_dig {W r w d d' b : Nat} (hw : w + (r + 1) = W) (hb : b < 3) (h : bq r (10 * d + b) d') : dig W d' w = b := by
  unfold dig
  rw [show W - 1 - w = r by omega, bq_div h]
  omega
theorem bq_d3 {W : Nat} : ∀ (r w d d' : Nat), w + r = W → bq r d d' → ∀ u, w ≤ u → u < W → dig W d' u < 3 := by
  intro r
  induction r with
  | zero => intro w d d' hw _ u h1 h2; omega
  | succ r ih =>
    intro w d d' hw h u h1 h2
    obtain ⟨b, hb, hh⟩ := h
    by_cases q : u = w
    · rw [q, bq_dig hw hb hh]
      exact hb
    · exact ih (w + 1) _ d' (by omega) hh u (by omega) h2
theorem liD_b (D : sDt) (bits w : Nat) : liD D bits w = 1 ∨ liD D bits w = 2 := by
  unfold liD
  split
  · right; rfl
  · split
    · split
      · right; rfl
      · left; rfl
    · left; rfl
theorem hose_b {D : sDt} (hD : okD D) (bits : Nat) {w : Nat} (hw : w < sW D) : 1 ≤ sL D w * liD D bits w ∧ sL D w * liD D bits w ≤ 60 := by
  have h := hD.2.2.1 w hw
  rcases liD_b D bits w with e | e <;> rw [e] <;> omega
theorem hsD_0 {D : sDt} (hD : okD D) (bits d b : Nat) : ∀ r w, w + r ≤ sW D → 0 ≤ hsD D bits d b r w := by
  intro r
  induction r with
  | zero => intro w _; exact Int.le_refl _
  | succ r ih =>
    intro w hw
    have h1 := ih (w + 1) (by omega)
    have h2 := hose_b hD bits (w := w) (by omega)
    rw [hsD]
    split <;> omega
/-- bores that hold, as the search goes from a way on -/
def fb (D : sDt) (lf ls : Nat → Int → Int) (f need : Int) (bits : Nat) : Nat → Nat → Int → (Nat → Int) → Nat → Nat → Prop
  | 0, w, p, _, dg, d' => ((0 < sT D w → 0 ≤ p) ∧ need ≤ aft D w p) ∧ d' = dg
  | r + 1, w, p, left, dg, d' => ((0 < sT D w → 0 ≤ p) ∧ (bits / 2 ^ w % 2 = 1 → 0 ≤ aft D w p)) ∧ ∃ b, b < 3 ∧ sL D w * liD D bits w ≤ left b ∧ fb D lf ls f need bits r (w + 1) (aft D w p + lfD D lf f bits w - drD D ls f bits w b) (fun x => if x = b then left x - sL D w * liD D bits w else left x) (10 * dg + b) d'
theorem fb_iff {D : sDt} (hD : okD D) {lf ls : Nat → Int → Int} {f need : Int} {bits : Nat} : ∀ (r w : Nat) (p : Int) (left : Nat → Int) (dg d' : Nat), w + r = sW D → (∀ b, b < 3 → 0 ≤ left b) → (fb D lf ls f need bits r w p left dg d' ↔ bq r dg d' ∧ vl D lf ls f need bits d' r w p ∧ ∀ b, b < 3 → hsD D bits d' b r w ≤ left b) := by
  intro r
  induction r with
  | zero =>
    intro w p left dg d' hw hl
    constructor
    · intro h
      exact ⟨h.2, h.1, hl⟩
    · intro h
      exact ⟨h.2.1, h.1⟩
  | succ r ih =>
    intro w p left dg d' hw hl
    have hh := hose_b hD bits (w := w) (by omega)
    constructor
    · intro h
      obtain ⟨h1, b, h2, h3, h4⟩ := h
      have hl' : ∀ x, x < 3 → 0 ≤ (if x = b then left x - sL D w * liD D bits w else left x) := fun x hx => by
        have := hl x hx
        split
        · rename_i q
          rw [q]
          omega
        · exact this
      obtain ⟨k1, k2, k3⟩ := (ih (w + 1) _ _ _ d' (by omega) hl').mp h4
      have ed := bq_dig hw h2 k1
      refine ⟨⟨b, h2, k1⟩, ⟨h1.1, h1.2, by rw [ed]; exact k2⟩, fun x hx => ?_⟩
      have := k3 x hx
      rw [hsD, ed]
      by_cases q : x = b
      · rw [if_pos q] at this
        rw [if_pos q.symm]
        omega
      · rw [if_neg q] at this
        rw [if_neg (fun z => q z.symm)]
        omega
    · intro h
      obtain ⟨⟨b, h2, k1⟩, ⟨k2, k3, k4⟩, k5⟩ := h
      have ed := bq_dig hw h2 k1
      rw [ed] at k4
      have hb := k5 b h2
      rw [hsD, ed, if_pos rfl] at hb
      have h0 := hsD_0 hD bits d' b r (w + 1) (by omega)
      have hl' : ∀ x, x < 3 → 0 ≤ (if x = b then left x - sL D w * liD D bits w else left x) := fun x hx => by
        have := hl x hx
        split
        · rename_i q
          rw [q]
          omega
        · exact this
      refine ⟨⟨k2, k3⟩, b, h2, by omega, (ih (w + 1) _ _ _ d' (by omega) hl').mpr ⟨k1, k4, fun x hx => ?_⟩⟩
      have := k5 x hx
      rw [hsD, ed] at this
      by_cases q : x = b
      · rw [if_pos q.symm] at this
        rw [if_pos q]
        omega
      · rw [if_neg (fun z => q z.symm)] at this
        rw [if_neg q]
        omega
/-- the least pressure from which need can be met -/
def btD (D : sDt) (w : Nat) (x : Int) : Int := if 0 < sT D w then (if 0 < x then 1000000000 else 0) else x
def mnD (D : sDt) (ls : Nat → Int → Int) (f : Int) (bits w : Nat) : Int := min (drD D ls f bits w 0) (min (drD D ls f bits w 1) (drD D ls f bits w 2))
def flD (D : sDt) (lf ls : Nat → Int → Int) (f need : Int) (bits : Nat) : Nat → Nat → Int
  | 0, w => btD D w need
  | r + 1, w => btD D w (if bits / 2 ^ w % 2 = 1 then max 0 (flD D lf ls f need bits r (w + 1) + mnD D ls f bits w - lfD D lf f bits w) else flD D lf ls f need bits r (w + 1) + mnD D ls f bits w)
theorem mn_le (D : sDt) (ls : Nat → Int → Int) (f : Int) (bits w : Nat) {b : Nat} (hb : b < 3) : mnD D ls f bits w ≤ drD D ls f bits w b := by
  have h : b = 0 ∨ b = 1 ∨ b = 2 := by omega
  unfold mnD
  rcases h with rfl | rfl | rfl <;> omega
theorem fl_nec {D : sDt} {lf ls : Nat → Int → Int} {f need : Int} {bits : Nat} : ∀ (r w : Nat) (p : Int) (left : Nat → Int) (dg d' : Nat), fb D lf ls f need bits r w p left dg d' → flD D lf ls f need bits r w ≤ p := by
  intro r
  induction r with
  | zero =>
    intro w p left dg d' h
    obtain ⟨⟨h1, h2⟩, -⟩ := h
    unfold aft at h2
    show btD D w need ≤ p
    unfold btD
    by_cases c : 0 < sT D w
    · rw [if_pos c] at h2 ⊢
      have := h1 c
      rw [if_neg (by omega)]
      exact this
    · rw [if_neg c] at h2 ⊢
      exact h2
  | succ r ih =>
    intro w p left dg d' h
    obtain ⟨⟨h1, h2⟩, b, hb, -, h4⟩ := h
    have k := ih _ _ _ _ _ h4
    have m := mn_le D ls f bits w hb
    rw [flD]
    unfold lfD at k ⊢
    unfold aft at h2 k
    unfold btD
    by_cases c : 0 < sT D w
    · rw [if_pos c] at h2 k ⊢
      have := h1 c
      by_cases e : bits / 2 ^ w % 2 = 1
      · rw [if_pos e] at k ⊢
        rw [if_pos e, if_neg (by omega)]
        exact this
      · rw [if_neg e] at k ⊢
        rw [if_neg (by omega)]
        exact this
    · rw [if_neg c] at h2 k ⊢
      by_cases e : bits / 2 ^ w % 2 = 1
      · rw [if_pos e] at k ⊢
        rw [if_pos e]
        have := h2 e
        omega
      · rw [if_neg e] at k ⊢
        omega
theorem fl_suf {D : sDt} {lf ls : Nat → Int → Int} {f need : Int} {bits : Nat} {r w : Nat} {p : Int} (h : flD D lf ls f need bits (r + 1) w ≤ p) : (0 < sT D w → 0 ≤ p) ∧ (bits / 2 ^ w % 2 = 1 → 0 ≤ aft D w p) := by
  rw [flD] at h
  unfold btD at h
  unfold aft
  by_cases c : 0 < sT D w
  · rw [if_pos c] at h ⊢
    refine ⟨fun _ => ?_, fun _ => Int.le_refl _⟩
    split at h <;> omega
  · rw [if_neg c] at h ⊢
    refine ⟨fun z => absurd z c, fun e => ?_⟩
    rw [if_pos e] at h
    omega
theorem fl_suf0 {D : sDt} {lf ls : Nat → Int → Int} {f need : Int} {bits : Nat} {w : Nat} {p : Int} (hp : p < 1000000000) (h : flD D lf ls f need bits 0 w ≤ p) : (0 < sT D w → 0 ≤ p) ∧ need ≤ aft D w p := by
  have h' : btD D w need ≤ p := h
  unfold btD at h'
  unfold aft
  by_cases c : 0 < sT D w
  · rw [if_pos c] at h' ⊢
    by_cases e : 0 < need
    · rw [if_pos e] at h'
      omega
    · rw [if_neg e] at h'
      exact ⟨fun _ => h', by omega⟩
  · rw [if_neg c] at h' ⊢
    exact ⟨fun z => absurd z c, h'⟩
/-! what the numbers are -/
theorem ixB_le : ∀ bits, bits < 64 → ∀ w, w < 7 → ixB bits w ≤ w := by decide +kernel
theorem pd_b : ∀ bits, bits < 64 → ixB bits 6 ≤ 4 → pdg bits 6 < 10000 := by decide +kernel
theorem ix_st : ∀ bits, bits < 64 → ∀ w, w < 6 → bits / 2 ^ w % 2 = 1 → ixB bits w < ixB bits 6 := by decide +kernel
theorem w_st : ∀ W, W < 7 → ∀ bits, bits < 2 ^ W → pdg bits W = pdg bits 6 ∧ ixB bits W = ixB bits 6 := by decide +kernel
theorem lf_b {D : sDt} (hD : okD D) {lf ls : Nat → Int → Int} (hT : okT lf ls) {f : Int} (f0 : 0 ≤ f) (f1 : f ≤ 600) {bits : Nat} (hb : bits < 64) (hm : ixB bits 6 ≤ sE D) {w : Nat} (hw : w < sW D) : 0 ≤ lfD D lf f bits w ∧ lfD D lf f bits w ≤ 99999 := by
  unfold lfD
  have h6 := hD.1
  by_cases e : bits / 2 ^ w % 2 = 1
  · rw [if_pos e]
    have := ix_st bits hb w (by omega) e
    exact hT.1 _ f (hD.2.2.2.1 _ (by omega)) f0 f1
  · rw [if_neg e]
    omega
theorem dr_b {D : sDt} (hD : okD D) {lf ls : Nat → Int → Int} (hT : okT lf ls) {f : Int} (f0 : 0 ≤ f) (f1 : f ≤ 600) (bits : Nat) {w : Nat} (hw : w < sW D) {b : Nat} (hb : b < 3) : -42957 ≤ drD D ls f bits w b ∧ drD D ls f bits w b ≤ 6042957 := by
  have h := hD.2.2.1 w hw
  unfold drD
  have hl : 0 ≤ ls b (if liD D bits w = 2 then (f + 1) / 2 else f) ∧ ls b (if liD D bits w = 2 then (f + 1) / 2 else f) ≤ 200000 := by
    split
    · exact hT.2.1 b _ hb (by omega) (by omega)
    · exact hT.2.1 b _ hb f0 f1
  have := mulB (show 0 ≤ sL D w by omega) h.2.1 hl.1 hl.2
  omega
theorem fl_b {D : sDt} (hD : okD D) {lf ls : Nat → Int → Int} (hT : okT lf ls) {f need : Int} (f0 : 0 ≤ f) (f1 : f ≤ 600) (n0 : 0 ≤ need) (n1 : need ≤ 99999) {bits : Nat} (hb : bits < 64) (hm : ixB bits 6 ≤ sE D) : ∀ (r w : Nat), w + r = sW D → -(150000 * (r : Int)) ≤ flD D lf ls f need bits r w ∧ flD D lf ls f need bits r w ≤ 1000000000 + 6100000 * (r : Int) := by
  intro r
  induction r with
  | zero =>
    intro w hw
    show _ ≤ btD D w need ∧ btD D w need ≤ _
    unfold btD
    split
    · split <;> omega
    · omega
  | succ r ih =>
    intro w hw
    have k := ih (w + 1) (by omega)
    have l := lf_b hD hT f0 f1 hb hm (w := w) (by omega)
    have d0 := dr_b hD hT f0 f1 bits (w := w) (by omega) (show 0 < 3 by omega)
    have d1 := dr_b hD hT f0 f1 bits (w := w) (by omega) (show 1 < 3 by omega)
    have d2 := dr_b hD hT f0 f1 bits (w := w) (by omega) (show 2 < 3 by omega)
    rw [flD]
    unfold btD mnD
    split
    · split <;> omega
    · split <;> omega
