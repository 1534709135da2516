/-! water through a laying: the reckoning apart from the memory -/
/-- sort, number or bore, lengths, lines, feet -/
abbrev oStp : Type := Nat × Nat × Int × Int × Int
def stV (lf ls : Nat → Int → Int) (s : oStp) (p f : Int) : Int := if s.1 = 0 then p + lf s.2.1 f else if s.1 = 1 then p - s.2.2.1 * ls s.2.1 (if s.2.2.2.1 = 2 then (f + 1) / 2 else f) - 43 * s.2.2.2.2 else 0
def prV (lf ls : Nat → Int → Int) (c : Nat → oStp) (f : Int) : Nat → Int
  | 0 => 0
  | i + 1 => stV lf ls (c i) (prV lf ls c f i) f
def okS (s : oStp) : Prop := (s.1 = 0 ∧ s.2.1 < 6) ∨ (s.1 = 1 ∧ s.2.1 < 3 ∧ (1 ≤ s.2.2.1 ∧ s.2.2.1 ≤ 30) ∧ (s.2.2.2.1 = 1 ∨ s.2.2.2.1 = 2) ∧ -999 ≤ s.2.2.2.2 ∧ s.2.2.2.2 ≤ 999) ∨ s.1 = 2
/-- what is asked of what engines lift and lengths lose -/
def okT (lf ls : Nat → Int → Int) : Prop := (∀ e f, e < 6 → 0 ≤ f → f ≤ 600 → 0 ≤ lf e f ∧ lf e f ≤ 99999) ∧ (∀ b f, b < 3 → 0 ≤ f → f ≤ 600 → 0 ≤ ls b f ∧ ls b f ≤ 200000) ∧
  (∀ e f f', e < 6 → 0 ≤ f → f ≤ f' → f' ≤ 600 → lf e f' ≤ lf e f) ∧ (∀ b f f', b < 3 → 0 ≤ f → f ≤ f' → f' ≤ 600 → ls b f ≤ ls b f')
theorem stV_b {lf ls : Nat → Int → Int} (hT : okT lf ls) {s : oStp} (hs : okS s) {p f B : Int} (f0 : 0 ≤ f) (f1 : f ≤ 600) (b0 : 0 ≤ B) (hp : -B ≤ p ∧ p ≤ B) : -(B + 6100000) ≤ stV lf ls s p f ∧ stV lf ls s p f ≤ B + 6100000 := by
  unfold stV
  rcases hs with ⟨s1, s2⟩ | ⟨s1, s2, ⟨s3, s4⟩, s5, s6, s7⟩ | s1
  · rw [if_pos s1]
    have := hT.1 s.2.1 f s2 f0 f1
    omega
  · rw [if_neg (by omega), if_pos s1]
    have hl : 0 ≤ ls s.2.1 (if s.2.2.2.1 = 2 then (f + 1) / 2 else f) ∧ ls s.2.1 (if s.2.2.2.1 = 2 then (f + 1) / 2 else f) ≤ 200000 := by
      split
      · exact hT.2.1 s.2.1 _ s2 (by omega) (by omega)
      · exact hT.2.1 s.2.1 _ s2 f0 f1
    have := mulB (show 0 ≤ s.2.2.1 by omega) s4 hl.1 hl.2
    omega
  · rw [if_neg (by omega), if_neg (by omega)]
    omega
theorem prV_b {lf ls : Nat → Int → Int} (hT : okT lf ls) {c : Nat → oStp} {T : Nat} (hc : ∀ i, i < T → okS (c i)) {f : Int} (f0 : 0 ≤ f) (f1 : f ≤ 600) : ∀ i, i ≤ T → -(6100000 * (i : Int)) ≤ prV lf ls c f i ∧ prV lf ls c f i ≤ 6100000 * (i : Int) := by
  intro i
  induction i with
  | zero => intro _; simp [prV]
  | succ i ih =>
    intro hi
    have h1 := ih (by omega)
    have h2 := stV_b hT (hc i (by omega)) (p := prV lf ls c f i) f0 f1 (B := 6100000 * (i : Int)) (by omega) h1
    rw [prV]
    omega
theorem prV_m {lf ls : Nat → Int → Int} (hT : okT lf ls) {c : Nat → oStp} {T : Nat} (hc : ∀ i, i < T → okS (c i)) {f f' : Int} (f0 : 0 ≤ f) (ff : f ≤ f') (f1 : f' ≤ 600) : ∀ i, i ≤ T → prV lf ls c f' i ≤ prV lf ls c f i := by
  intro i
  induction i with
  | zero => intro _; simp [prV]
  | succ i ih =>
    intro hi
    have h1 := ih (by omega)
    rw [prV, prV]
    unfold stV
    rcases hc i (by omega) with ⟨s1, s2⟩ | ⟨s1, s2, ⟨s3, s4⟩, s5, s6, s7⟩ | s1
    · rw [if_pos s1, if_pos s1]
      have := hT.2.2.1 (c i).2.1 f f' s2 f0 ff f1
      omega
    · have n0 : ¬ (c i).1 = 0 := by omega
      simp only [if_neg n0, if_pos s1]
      have hl : ls (c i).2.1 (if (c i).2.2.2.1 = 2 then (f + 1) / 2 else f) ≤ ls (c i).2.1 (if (c i).2.2.2.1 = 2 then (f' + 1) / 2 else f') := by
        by_cases q : (c i).2.2.2.1 = 2
        · rw [if_pos q, if_pos q]
          exact hT.2.2.2 (c i).2.1 _ _ s2 (by omega) (by omega) (by omega)
        · rw [if_neg q, if_neg q]
          exact hT.2.2.2 (c i).2.1 _ _ s2 f0 ff f1
      have := Int.mul_le_mul_of_nonneg_left hl (show 0 ≤ (c i).2.2.1 by omega)
      omega
    · have n0 : ¬ (c i).1 = 0 := by omega
      have n1 : ¬ (c i).1 = 1 := by omega
      simp only [if_neg n0, if_neg n1]
      omega
/-- the first place below T with a fault, or -1 -/
noncomputable def fstI (P : Nat → Prop) : Nat → Int
  | 0 => -1
  | k + 1 => if 0 ≤ fstI P k then fstI P k else @ite Int (P k) (Classical.propDecidable (P k)) (k : Int) (-1)
theorem fstI_c (P : Nat → Prop) : ∀ T : Nat, (fstI P T = -1 ∧ ∀ i, i < T → ¬ P i) ∨ (0 ≤ fstI P T ∧ fstI P T < T ∧ P (fstI P T).toNat ∧ ∀ i : Nat, (i : Int) < fstI P T → ¬ P i) := by
  intro T
  induction T with
  | zero => exact Or.inl ⟨rfl, fun i h => by omega⟩
  | succ k ih =>
    rw [fstI]
    rcases ih with ⟨h1, h2⟩ | ⟨h1, h2, h3, h4⟩
    · rw [if_neg (by omega)]
      by_cases c : P k
      · rw [if_pos c]
        exact Or.inr ⟨by omega, by omega, by simpa using c, fun i hi => h2 i (by omega)⟩
      · rw [if_neg c]
        exact Or.inl ⟨rfl, fun i hi => by
          by_cases q : i = k
          · rw [q]; exact c
          · exact h2 i (by omega)⟩
    · rw [if_pos h1]
      exact Or.inr ⟨h1, by omega, h3, h4⟩
theorem fstI_u {P : Nat → Prop} {T k : Nat} (hk : k < T) (hp : P k) (hn : ∀ i, i < k → ¬ P i) : fstI P T = k := by
  rcases fstI_c P T with ⟨h1, h2⟩ | ⟨h1, h2, h3, h4⟩
  · exact absurd hp (h2 k hk)
  · have a1 : ¬ (k : Int) < fstI P T := fun q => h4 k q hp
    have a2 : ¬ (fstI P T).toNat < k := fun q => hn _ q h3
    omega
theorem fstI_n {P : Nat → Prop} {T : Nat} (hn : ∀ i, i < T → ¬ P i) : fstI P T = -1 := by
  rcases fstI_c P T with ⟨h1, h2⟩ | ⟨h1, h2, h3, h4⟩
  · exact h1
  · exact absurd h3 (hn _ (by omega))
/-- starved ahead of what is no way; burst -/
def bad0 (lf ls : Nat → Int → Int) (c : Nat → oStp) (f : Int) (i : Nat) : Prop := ¬ (c i).1 = 1 ∧ prV lf ls c f i < 0
def bad1 (lf ls : Nat → Int → Int) (mo : Nat → Int) (c : Nat → oStp) (f : Int) (i : Nat) : Prop := bad0 lf ls c f i ∨ ((c i).1 = 1 ∧ (mo (c i).2.1 < prV lf ls c f i ∨ mo (c i).2.1 < prV lf ls c f (i + 1)))
/-- a flow that comes with what is needed -/
def okF (lf ls : Nat → Int → Int) (c : Nat → oStp) (T : Nat) (need f : Int) : Prop := (∀ i, i < T → ¬ bad0 lf ls c f i) ∧ need ≤ prV lf ls c f T
def okB (lf ls : Nat → Int → Int) (mo : Nat → Int) (c : Nat → oStp) (T : Nat) (need f : Int) : Prop := (∀ i, i < T → ¬ bad1 lf ls mo c f i) ∧ need ≤ prV lf ls c f T
def isGr (P : Int → Prop) (g : Int) : Prop := (g = -2 ∧ ∀ f, 0 ≤ f → f ≤ 600 → ¬ P f) ∨ ((0 ≤ g ∧ g ≤ 600) ∧ P g ∧ ∀ f, g < f → f ≤ 600 → ¬ P f)
theorem isGr_u {P : Int → Prop} {g g' : Int} (h : isGr P g) (h' : isGr P g') : g = g' := by
  rcases h with ⟨h1, h2⟩ | ⟨⟨h1, h2⟩, h3, h4⟩ <;> rcases h' with ⟨k1, k2⟩ | ⟨⟨k1, k2⟩, k3, k4⟩
  · omega
  · exact absurd k3 (h2 _ k1 k2)
  · exact absurd h3 (k2 _ h1 h2)
  · have a1 : ¬ g < g' := fun q => h4 _ q k2 k3
    have a2 : ¬ g' < g := fun q => k4 _ q h2 h3
    omega
theorem okF_m {lf ls : Nat → Int → Int} (hT : okT lf ls) {c : Nat → oStp} {T : Nat} (hc : ∀ i, i < T → okS (c i)) {need f f' : Int} (f0 : 0 ≤ f) (ff : f ≤ f') (f1 : f' ≤ 600) (h : okF lf ls c T need f') : okF lf ls c T need f := by
  have hm := prV_m hT hc f0 ff f1
  refine ⟨fun i hi hb => h.1 i hi ⟨hb.1, ?_⟩, ?_⟩
  · have := hm i (by omega)
    have := hb.2
    omega
  · have := hm T (Nat.le_refl T)
    have := h.2
    omega
/-- the greatest flow that bursts nothing: the greatest, or none -/
theorem isGr_b {lf ls : Nat → Int → Int} (hT : okT lf ls) {mo : Nat → Int} {c : Nat → oStp} {T : Nat} (hc : ∀ i, i < T → okS (c i)) {need g : Int} (h : isGr (okF lf ls c T need) g) {r : Int} (hr : (0 ≤ g ∧ okB lf ls mo c T need g ∧ r = g) ∨ (¬ (0 ≤ g ∧ okB lf ls mo c T need g) ∧ r = -2)) : isGr (okB lf ls mo c T need) r := by
  have imp : ∀ f, okB lf ls mo c T need f → okF lf ls c T need f := fun f hb => ⟨fun i hi q => hb.1 i hi (Or.inl q), hb.2⟩
  rcases hr with ⟨h1, h2, h3⟩ | ⟨h1, h2⟩
  · subst h3
    rcases h with ⟨k1, -⟩ | ⟨k1, k2, k3⟩
    · omega
    · exact Or.inr ⟨k1, h2, fun f q1 q2 q3 => k3 f q1 q2 (imp f q3)⟩
  · refine Or.inl ⟨h2, fun f q1 q2 q3 => ?_⟩
    rcases h with ⟨k1, k2⟩ | ⟨k1, k2, k3⟩
    · exact k2 f q1 q2 (imp f q3)
    · have hfg : ¬ g < f := fun q => k3 f q q2 (imp f q3)
      refine h1 ⟨k1.1, fun i hi hb => q3.1 i hi ?_, k2.2⟩
      have hm := prV_m hT hc q1 (show f ≤ g by omega) k1.2
      rcases hb with hb | ⟨hb1, hb2⟩
      · exact absurd hb (k2.1 i hi)
      · refine Or.inr ⟨hb1, ?_⟩
        have m1 := hm i (by omega)
        have m2 := hm (i + 1) (by omega)
        omega
theorem tab_st {g : Nat → Int32} {n : Int} {t : Nat} {f : Int} (f0 : 0 ≤ f) (n0 : 1 ≤ n) :
    ((∀ j : Nat, (j : Int) + 1 < n → (g (13 * t + j)).toInt ≤ (g (13 * t + j + 1)).toInt) → tabV g n t f ≤ tabV g n t (f + 1)) ∧
    ((∀ j : Nat, (j : Int) + 1 < n → (g (13 * t + j + 1)).toInt ≤ (g (13 * t + j)).toInt) → tabV g n t (f + 1) ≤ tabV g n t f) := by
  unfold tabV
  have hr : f % 50 = 49 ∨ f % 50 < 49 := by omega
  rcases hr with hr | hr
  · have hq : (f + 1) / 50 = f / 50 + 1 := by omega
    have hr' : (f + 1) % 50 = 0 := by omega
    rw [hq, hr', hr]
    by_cases c : f / 50 < n - 1
    · rw [if_pos c]
      have e1 : (if f / 50 + 1 < n - 1 then ((g (13 * t + (f / 50 + 1).toNat)).toInt * (50 - 0) + (g (13 * t + (f / 50 + 1).toNat + 1)).toInt * 0) / 50 else (g (13 * t + (n - 1).toNat)).toInt) = (g (13 * t + (f / 50).toNat + 1)).toInt := by
        have e2 : 13 * t + (f / 50 + 1).toNat = 13 * t + (f / 50).toNat + 1 := by omega
        by_cases c2 : f / 50 + 1 < n - 1
        · rw [if_pos c2, e2]
          omega
        · rw [if_neg c2, show 13 * t + (n - 1).toNat = 13 * t + (f / 50).toNat + 1 by omega]
      rw [e1]
      constructor
      · intro h
        have := h (f / 50).toNat (by omega)
        omega
      · intro h
        have := h (f / 50).toNat (by omega)
        omega
    · rw [if_neg c, if_neg (by omega)]
      exact ⟨fun _ => Int.le_refl _, fun _ => Int.le_refl _⟩
  · have hq : (f + 1) / 50 = f / 50 := by omega
    have hr' : (f + 1) % 50 = f % 50 + 1 := by omega
    rw [hq, hr']
    by_cases c : f / 50 < n - 1
    · rw [if_pos c, if_pos c]
      generalize hA : (g (13 * t + (f / 50).toNat)).toInt = A
      generalize hB : (g (13 * t + (f / 50).toNat + 1)).toInt = B
      have e : A * (50 - (f % 50 + 1)) + B * (f % 50 + 1) = (A * (50 - f % 50) + B * (f % 50)) + (B - A) := by grind
      rw [e]
      constructor
      · intro h
        have := h (f / 50).toNat (by omega)
        rw [hA, hB] at this
        omega
      · intro h
        have := h (f / 50).toNat (by omega)
        rw [hA, hB] at this
        omega
    · rw [if_neg c, if_neg c]
      exact ⟨fun _ => Int.le_refl _, fun _ => Int.le_refl _⟩
theorem mono_st {F : Int → Int} {a b : Int} (h : ∀ f, a ≤ f → f < b → F f ≤ F (f + 1)) : ∀ (k : Nat) (f : Int), a ≤ f → f + k ≤ b → F f ≤ F (f + k) := by
  intro k
  induction k with
  | zero => intro f _ _; simp
  | succ k ih =>
    intro f h1 h2
    have e1 := ih f h1 (by omega)
    have e2 := h (f + k) (by omega) (by omega)
    have e3 : f + ((k + 1 : Nat) : Int) = f + k + 1 := by omega
    rw [e3]
    omega
theorem mono_st2 {F : Int → Int} {a b : Int} (h : ∀ f, a ≤ f → f < b → F f ≤ F (f + 1)) {f f' : Int} (h1 : a ≤ f) (h2 : f ≤ f') (h3 : f' ≤ b) : F f ≤ F f' := by
  have := mono_st h (f' - f).toNat f h1 (by omega)
  rw [show f + ((f' - f).toNat : Int) = f' by omega] at this
  exact this
theorem okT_M {M : oM} (hg : iGear M) (hs : iSet M) : okT (liftV M) (lossV M) := by
  refine ⟨fun e f he f0 f1 => liftV_b hg he f0 f1, fun b f hb f0 f1 => lossV_b hg hs hb f0 f1, fun e f f' he f0 ff f1 => ?_, fun b f f' hb f0 ff f1 => ?_⟩
  · obtain ⟨-, -, -, g4, -, -, g7⟩ := hg
    have hn := (g4 (3 + e) (by omega)).2
    have h7 := g7 (3 + e) (by omega)
    unfold liftV
    by_cases c : (M.1 16 (3 + e)).toInt = 0
    · rw [if_pos c, if_pos c]
      split <;> split <;> omega
    · rw [if_neg c, if_neg c]
      have := mono_st2 (F := fun f => - tabV (M.1 15) (M.1 16 (3 + e)).toInt (3 + e) f) (a := 0) (b := 600) (fun f q1 q2 => by
        have := (tab_st (g := M.1 15) (t := 3 + e) (n := (M.1 16 (3 + e)).toInt) q1 (by omega)).2 (fun j hj => by
          have := h7 j hj
          rw [if_neg (by omega)] at this
          exact this)
        omega) f0 ff f1
      omega
  · obtain ⟨-, -, -, g4, -, -, g7⟩ := hg
    have hn := (g4 b (by omega)).2
    have h7 := g7 b (by omega)
    have hv := hs.2.2.1 (6 + b) (by omega)
    unfold iVal at hv
    unfold lossV
    have key : (if (M.1 16 b).toInt = 0 then f / 10 else tabV (M.1 15) (M.1 16 b).toInt b f) ≤ (if (M.1 16 b).toInt = 0 then f' / 10 else tabV (M.1 15) (M.1 16 b).toInt b f') := by
      by_cases c : (M.1 16 b).toInt = 0
      · rw [if_pos c, if_pos c]
        omega
      · rw [if_neg c, if_neg c]
        exact mono_st2 (F := fun f => tabV (M.1 15) (M.1 16 b).toInt b f) (a := 0) (b := 600) (fun f q1 q2 => (tab_st (g := M.1 15) (t := b) (n := (M.1 16 b).toInt) q1 (by omega)).1 (fun j hj => by
          have := h7 j hj
          rw [if_pos (by omega)] at this
          exact this)) f0 ff f1
    exact Int.ediv_le_ediv (by omega) (Int.mul_le_mul_of_nonneg_right key (by omega))
/-! water through a laying: how the course is laid -/
def prevP (M : oM) (l k : Nat) : Int32 := if k = 0 then M.1 (oLy l) 2 else M.1 (oLy l + 4) (k - 1)
def laE (M : oM) (l : Nat) (but : Int) : Nat → Int
  | 0 => -1
  | k + 1 => if M.1 (oLy l + 1) k = 0 ∧ ¬ (k : Int) = but then k else laE M l but k
def lnV (M : oM) (l : Nat) (but : Int) (k : Nat) : Int := if M.1 (oLy l) 1 = 2 then 2 else if M.1 (oLy l) 1 = 4 then (if (k : Int) ≤ laE M l but (M.1 (oLy l) 7).toInt.toNat then 1 else 2) else 1
def htV (M : oM) (p : Int32) : Int := (M.1 2 (9 + p.toInt.toNat)).toInt
def paV (M : oM) (l : Nat) (ln : Int) (k : Nat) : oStp := if M.1 (oLy l + 1) k = 0 then (0, (M.1 (oLy l + 2) k).toInt.toNat, 0, 0, 0) else if M.1 (oLy l + 1) k = 1 then (1, (M.1 (oLy l + 3) k).toInt.toNat, (M.1 9 (M.1 (oLy l + 2) k).toInt.toNat).toInt, ln, htV M (M.1 (oLy l + 4) k) - htV M (prevP M l k)) else (2, 0, 0, 0, 0)
theorem laE_b (M : oM) (l : Nat) (but : Int) : ∀ k : Nat, -1 ≤ laE M l but k ∧ laE M l but k < k := by
  intro k
  induction k with
  | zero => simp [laE]
  | succ k ih =>
    rw [laE]
    split <;> omega
theorem lnV_b (M : oM) (l : Nat) (but : Int) (k : Nat) : lnV M l but k = 1 ∨ lnV M l but k = 2 := by
  unfold lnV
  split
  · right; rfl
  · split
    · split
      · left; rfl
      · right; rfl
    · left; rfl
theorem nI_inj {a b : Nat} (ha : a < 2147483648) (hb : b < 2147483648) : nI a = nI b ↔ a = b := by
  rw [oEqI, nI_toInt ha, nI_toInt hb]
  omega
theorem nI_n {k : Nat} (h : k < 2147483648) : (nI k).toNatClampNeg = k := by
  have e : (nI k).toNatClampNeg = (nI k).toInt.toNat := rfl
  rw [e, nI_toInt h]
  rfl
theorem iI_nI (k : Nat) : iI (k : Int) = nI k := rfl
theorem las6 {N : Nat} {K : oK} {M : oM} {l : Nat} {but : Int32} : ∀ (j n : Nat), j ≤ 24 → j < n → f_X6_lastEngine_7 N K n (oLy l) but (nI j - 1) M = some (iI (laE M l but.toInt j), M) := by
  intro j
  induction j with
  | zero =>
    intro n h1 h2
    obtain ⟨n, rfl⟩ : ∃ m, n = m + 1 := ⟨n - 1, by omega⟩
    rw [f_X6_lastEngine_7]
    dsimp only
    rw [if_pos (by decide)]
    rfl
  | succ j ih =>
    intro n h1 h2
    obtain ⟨n, rfl⟩ : ∃ m, n = m + 1 := ⟨n - 1, by omega⟩
    have e : nI (j + 1) - 1 = nI j := by rw [← nI_1, addsub1]
    have ek : (nI j).toInt = j := nI_toInt (by omega)
    rw [f_X6_lastEngine_7, e]
    dsimp only
    rw [if_neg (by rw [oLtI, tl_0]; omega), oIx_p (by omega) (by omega), nI_n (by omega)]
    unfold f_X6_lastEngine_27
    rw [show nI j + -1 = nI j - 1 from (Int32.sub_eq_add_neg _ _).symm, ih n (by omega) (by omega), laE]
    by_cases c : M.1 (oLy l + 1) j = 0
    · rw [if_pos c]
      by_cases c2 : nI j = but
      · rw [if_pos c2, if_neg (by rw [← c2, ek]; simp)]
      · rw [if_neg c2, if_pos ⟨c, fun q => c2 (by rw [oEqI, ek, q])⟩]
        rfl
    · rw [if_neg c, if_neg (fun q => c q.1)]
theorem lin6 {N : Nat} (hN : 100 ≤ N) {K : oK} {M : oM} {l k : Nat} (hk : k < 24) (but : Int32) (h0 : 0 ≤ (M.1 (oLy l) 7).toInt) (h1 : (M.1 (oLy l) 7).toInt ≤ 24) : f_X6_lines N K (oLy l) (nI k) but M = some (iI (lnV M l but.toInt k), M) := by
  unfold f_X6_lines f_X6_lastEngine lnV
  by_cases c : M.1 (oLy l) 1 = 2
  · rw [if_pos c, if_pos c]
    rfl
  · rw [if_neg c, if_neg c]
    by_cases c2 : M.1 (oLy l) 1 = 4
    · have e : M.1 (oLy l) 7 = nI (M.1 (oLy l) 7).toInt.toNat := oNI (by omega)
      have hb := laE_b M l but.toInt (M.1 (oLy l) 7).toInt.toNat
      rw [if_pos c2, if_pos c2]
      conv => lhs; rw [e]
      rw [las6 _ _ (by omega) (by omega), oB2_p]
      by_cases c3 : (k : Int) ≤ laE M l but.toInt (M.1 (oLy l) 7).toInt.toNat
      · rw [if_pos c3, if_pos (by rw [oLeI, nI_toInt (by omega), iI_t (by omega) (by omega)]; exact c3)]
        rfl
      · rw [if_neg c3, if_neg (by rw [oLeI, nI_toInt (by omega), iI_t (by omega) (by omega)]; exact c3)]
        rfl
    · rw [if_neg c2, if_neg c2]
      rfl
theorem len4 {N : Nat} {K : oK} {M : oM} {w : Int32} (h0 : 0 ≤ w.toInt) (h1 : w.toInt < (M.1 6 6).toInt) (h2 : (M.1 6 6).toInt ≤ 20) : f_X4_lengthsOf N K w M = some (M.1 9 w.toInt.toNat, M) := by
  unfold f_X4_lengthsOf
  rw [isWy4, oB2_p, decide_eq_true ⟨h0, h1⟩, cond_true, oIx_p h0 (by omega)]
  rfl
theorem pah6 {N : Nat} {K : oK} {M : oM} {l k : Nat} (hk : (k : Int) ≤ (M.1 (oLy l) 7).toInt) (h1 : (M.1 (oLy l) 7).toInt ≤ 24) : f_X6_pointAhead N K (oLy l) (nI k) M = some (prevP M l k, M) := by
  unfold f_X6_pointAhead f_X6_isPart prevP
  cases k with
  | zero =>
    rw [if_pos (by decide), oB2_p, cond_false, if_pos rfl]
  | succ k =>
    have ek : (nI k).toInt = k := nI_toInt (by omega)
    rw [← nI_1, addsub1, if_neg (by rw [oLtI, tl_0]; omega), if_neg (by rw [oLeI]; omega), oB2_p, cond_true, oIx_p (by omega) (by omega), nI_n (by omega), if_neg (by omega)]
    rfl
theorem at8v {N : Nat} {K : oK} {M : oM} {p : Int32} (h0 : 0 ≤ p.toInt) (h1 : p.toInt < 21) : f_X8_at N K p M = some (M.1 2 p.toInt.toNat, M) := by
  unfold f_X8_at
  rw [if_neg (by rw [oLtI, tl_0]; omega), if_neg (by rw [oLeI, show (Int32.ofNat 21).toInt = 21 from rfl]; omega), oIx_p h0 (by omega)]
  rfl
theorem fee4 {N : Nat} {K : oK} {M : oM} {p q : Int32} (p0 : 0 ≤ p.toInt) (p1 : p.toInt < 12) (q0 : 0 ≤ q.toInt) (q1 : q.toInt < 12) : f_X4_feet N K p q M = some (M.1 2 (9 + q.toInt.toNat) - M.1 2 (9 + p.toInt.toNat), M) := by
  unfold f_X4_feet
  have e1 : (9 + q).toInt = 9 + q.toInt := by rw [oAdd (by rw [tl_9]; omega) (by rw [tl_9]; omega), tl_9]
  have e2 : (9 + p).toInt = 9 + p.toInt := by rw [oAdd (by rw [tl_9]; omega) (by rw [tl_9]; omega), tl_9]
  rw [at8v (by omega) (by omega), oB2_p, at8v (by omega) (by omega), oB2_p, e1, e2, show (9 + q.toInt).toNat = 9 + q.toInt.toNat by omega, show (9 + p.toInt).toNat = 9 + p.toInt.toNat by omega]
/-- a step as the class keeps it -/
def isC (M : oM) (i : Nat) (s : oStp) : Prop := (s.1 = 0 ∧ M.1 22 i = 0 ∧ M.1 23 i = nI s.2.1) ∨ (s.1 = 1 ∧ M.1 22 i = 1 ∧ M.1 24 i = nI s.2.1 ∧ (M.1 25 i).toInt = s.2.2.1 ∧ (M.1 26 i).toInt = s.2.2.2.1 ∧ (M.1 27 i).toInt = 43 * s.2.2.2.2) ∨ (s.1 = 2 ∧ M.1 22 i = 2)
theorem isC.eq {M M' : oM} {i : Nat} {s : oStp} (h : isC M i s) (e : M'.1 22 i = M.1 22 i ∧ M'.1 23 i = M.1 23 i ∧ M'.1 24 i = M.1 24 i ∧ M'.1 25 i = M.1 25 i ∧ M'.1 26 i = M.1 26 i ∧ M'.1 27 i = M.1 27 i) : isC M' i s := by
  unfold isC
  rw [e.1, e.2.1, e.2.2.1, e.2.2.2.1, e.2.2.2.2.1, e.2.2.2.2.2]
  exact h
theorem pt_k {M : oM} {l : Nat} (hy : iLay1 M l) {k : Nat} (hk : (k : Int) ≤ (M.1 (oLy l) 7).toInt) : 0 ≤ (prevP M l k).toInt ∧ (prevP M l k).toInt < (M.1 6 5).toInt := by
  unfold prevP
  by_cases c : k = 0
  · rw [if_pos c]
    exact hy.2.1.2
  · rw [if_neg c]
    exact (hy.2.2.2.2 (k - 1) (by omega)).2.1
theorem paV_ok {M : oM} {l : Nat} (hg : iGnd M) (hge : iGear M) (hs : iSet M) (hy : iLay1 M l) {k : Nat} (hk : (k : Int) < (M.1 (oLy l) 7).toInt) {ln : Int} (hln : ln = 1 ∨ ln = 2) : okS (paV M l ln k) := by
  have hp := pt_k hy (k := k) (by omega)
  obtain ⟨-, he, ho⟩ := hy.2.2.2.2 k hk
  have h12 := hg.1.2.2
  unfold paV okS
  rcases ho with ⟨q1, q2, -⟩ | ⟨q1, q2, q3, -⟩ | ⟨q1, -⟩
  · have := hge.1.2.2
    rw [if_pos q1]
    exact Or.inl ⟨rfl, by dsimp only; omega⟩
  · rw [if_neg (by rw [q1]; decide), if_pos q1]
    have w := hg.2.2.2 (M.1 (oLy l + 2) k).toInt.toNat (by omega)
    have v1 := hs.2.2.1 (9 + (M.1 (oLy l + 4) k).toInt.toNat) (by omega)
    have v2 := hs.2.2.1 (9 + (prevP M l k).toInt.toNat) (by omega)
    unfold iVal at v1 v2
    unfold htV
    refine Or.inr (Or.inl ⟨rfl, ?_, ?_, hln, ?_, ?_⟩) <;> dsimp only <;> omega
  · rw [if_neg (by rw [q1]; decide), if_neg (by rw [q1]; decide)]
    exact Or.inr (Or.inr rfl)
theorem add2 {N : Nat} {K : oK} {M : oM} {l k T : Nat} (hg : iGnd M) (hs : iSet M) (hy : iLay1 M l) (hk : (k : Int) < (M.1 (oLy l) 7).toInt) (hT : M.1 21 8 = nI T) (hT2 : T < 25) {ln : Int} (hln : ln = 1 ∨ ln = 2) : ∃ M', f_X2_addStep N K (oLy l) (nI k) (iI ln) M = some ((), M') ∧ oFr [21, 22, 23, 24, 25, 26, 27] [] M M' ∧ M'.1 21 8 = nI (T + 1) ∧ (∀ i, i ≠ T → M'.1 22 i = M.1 22 i ∧ M'.1 23 i = M.1 23 i ∧ M'.1 24 i = M.1 24 i ∧ M'.1 25 i = M.1 25 i ∧ M'.1 26 i = M.1 26 i ∧ M'.1 27 i = M.1 27 i) ∧ isC M' T (paV M l ln k) := by
  have hp := pt_k hy (k := k) (by omega)
  have h24 := hy.2.2.1.2.2
  obtain ⟨-, he, ho⟩ := hy.2.2.2.2 k hk
  have h12 := hg.1.2.2
  have ek : (nI k).toInt = k := nI_toInt (by omega)
  have eT : (nI T).toInt = T := nI_toInt (by omega)
  have hx : ∀ A : Option (Unit × oM), oIx (nI k) 24 A = A := fun A => oIx_p (by omega) (by omega)
  have hxT : ∀ A : Option (Unit × oM), oIx (nI T) 25 A = A := fun A => oIx_p (by omega) (by omega)
  have hr : ∀ (M : oM) (a j v i) (x : Int32), a < 101 → (oUp M a j x).1 (oLy l + v) i = M.1 (oLy l + v) i := fun M a j v i x ha => by rw [oUp_at, if_neg (by unfold oLy; omega)]
  have hr0 : ∀ (M : oM) (a j i) (x : Int32), a < 101 → (oUp M a j x).1 (oLy l) i = M.1 (oLy l) i := fun M a j i x ha => hr M a j 0 i x ha
  unfold f_X2_addStep f_X2_addStep_129
  simp only [hx, hT, hr _ _ _ _ _ _ (show 22 < 101 by omega), nI_n (show k < 2147483648 by omega), nI_n (show T < 2147483648 by omega), hxT]
  have r1 : ∀ (M : oM) a j x, a ≠ 21 → (oUp M a j x).1 21 8 = M.1 21 8 := fun M a j x ha => by rw [oUp_at, if_neg (fun q => ha q.1.symm)]
  unfold paV
  rcases ho with ⟨q1, q2, -⟩ | ⟨q1, q2, q3, -⟩ | ⟨q1, -⟩
  · simp only [q1, r1 _ 22 _ _ (by decide), r1 _ 23 _ _ (by decide), hT, hxT, nI_n (show T < 2147483648 by omega), if_true]
    refine ⟨_, rfl, .up (by decide) (.up (by decide) (.up (by decide) .rf)), ?_, fun i hi => ?_, ?_⟩
    · simp [oUp_at, nI_1]
    · simp [oUp_at, hi]
    · refine Or.inl ⟨rfl, by simp [oUp_at], ?_⟩
      simp [oUp_at]
      exact oNI (by rw [oTnn]; omega)
  · have hw := hg.2.2.2 (M.1 (oLy l + 2) k).toInt.toNat (by omega)
    have z10 : ¬ (1 : Int32) = 0 := by decide
    simp only [q1, if_neg z10, if_true, r1 _ 22 _ _ (by decide), r1 _ 24 _ _ (by decide), hT, hxT, nI_n (show T < 2147483648 by omega), hr _ _ _ _ _ _ (show 22 < 101 by omega)]
    rw [len4 q2.1 (by simpa [oUp_at] using q2.2) (by simpa [oUp_at] using hg.2.1.2.2), oB2_p]
    simp only [r1 _ 25 _ _ (show (25 : Nat) ≠ 21 by decide), r1 _ 26 _ _ (show (26 : Nat) ≠ 21 by decide), r1 _ 24 _ _ (show (24 : Nat) ≠ 21 by decide), r1 _ 22 _ _ (show (22 : Nat) ≠ 21 by decide), hT, hxT, nI_n (show T < 2147483648 by omega)]
    rw [pah6 (by simp only [hr0 _ _ _ _ _ (show 26 < 101 by omega), hr0 _ _ _ _ _ (show 25 < 101 by omega), hr0 _ _ _ _ _ (show 24 < 101 by omega), hr0 _ _ _ _ _ (show 22 < 101 by omega)]; omega) (by simp only [hr0 _ _ _ _ _ (show 26 < 101 by omega), hr0 _ _ _ _ _ (show 25 < 101 by omega), hr0 _ _ _ _ _ (show 24 < 101 by omega), hr0 _ _ _ _ _ (show 22 < 101 by omega)]; omega), oB2_p]
    have hpp : ∀ M' : oM, M'.1 (oLy l) = M.1 (oLy l) → M'.1 (oLy l + 4) = M.1 (oLy l + 4) → prevP M' l k = prevP M l k := fun M' e1 e2 => by unfold prevP; rw [e1, e2]
    generalize hM3 : oUp (oUp (oUp (oUp M 22 T 1) 24 T (M.1 (oLy l + 3) k)) 25 T ((oUp (oUp M 22 T 1) 24 T (M.1 (oLy l + 3) k)).1 9 (M.1 (oLy l + 2) k).toInt.toNat)) 26 T (iI ln) = M3
    have f3 : oFr [21, 22, 23, 24, 25, 26, 27] [] M M3 := by
      rw [← hM3]
      exact .up (by decide) (.up (by decide) (.up (by decide) (.up (by decide) .rf)))
    have y0 : M3.1 (oLy l) = M.1 (oLy l) := f3.1 _ (by unfold oLy; omega) (by unfold oLy; simp; omega)
    have y4 : M3.1 (oLy l + 4) = M.1 (oLy l + 4) := f3.1 _ (by unfold oLy; omega) (by unfold oLy; simp; omega)
    have y2 : M3.1 2 = M.1 2 := f3.1 _ (by decide) (by decide)
    have z8 : M3.1 21 8 = nI T := by rw [← hM3]; simp [oUp_at, hT]
    rw [hpp M3 y0 y4, fee4 hp.1 (by omega) (by rw [y4]; exact he.1) (by rw [y4]; omega), oB2_p, y2, y4]
    have v1 := hs.2.2.1 (9 + (M.1 (oLy l + 4) k).toInt.toNat) (by omega)
    have v2 := hs.2.2.1 (9 + (prevP M l k).toInt.toNat) (by omega)
    unfold iVal at v1 v2
    refine ⟨_, rfl, .up (by decide) (.up (by decide) f3), ?_, fun i hi => ?_, ?_⟩
    · simp [oUp_at, z8, nI_1]
    · rw [← hM3]
      simp [oUp_at, hi]
    · refine Or.inr (Or.inl ⟨rfl, ?_, ?_, ?_, ?_, ?_⟩)
      · rw [← hM3]; simp [oUp_at]
      · rw [← hM3]; simp [oUp_at]
        exact oNI (by rw [oTnn]; omega)
      · rw [← hM3]; simp [oUp_at]
      · rw [← hM3]; simp [oUp_at]
        rw [iI_t (by omega) (by omega)]
      · rw [oUp_at, if_neg (by omega), oUp_at, if_pos ⟨rfl, rfl⟩]
        unfold htV
        have e1 : (M.1 2 (9 + (M.1 (oLy l + 4) k).toInt.toNat) - M.1 2 (9 + (prevP M l k).toInt.toNat)).toInt = (M.1 2 (9 + (M.1 (oLy l + 4) k).toInt.toNat)).toInt - (M.1 2 (9 + (prevP M l k).toInt.toNat)).toInt := oSub (by omega) (by omega)
        have e43 : (43 * (M.1 2 (9 + (M.1 (oLy l + 4) k).toInt.toNat) - M.1 2 (9 + (prevP M l k).toInt.toNat))).toInt = 43 * ((M.1 2 (9 + (M.1 (oLy l + 4) k).toInt.toNat)).toInt - (M.1 2 (9 + (prevP M l k).toInt.toNat)).toInt) := by rw [oMul (by rw [tl_43, e1]; omega) (by rw [tl_43, e1]; omega), tl_43, e1]
        exact e43
  · have z20 : ¬ (2 : Int32) = 0 := by decide
    have z21 : ¬ (2 : Int32) = 1 := by decide
    simp only [q1, if_neg z20, if_neg z21]
    refine ⟨_, rfl, .up (by decide) (.up (by decide) .rf), ?_, fun i hi => ?_, ?_⟩
    · simp [oUp_at, hT, nI_1]
    · simp [oUp_at, hi]
    · refine Or.inr (Or.inr ⟨rfl, by simp [oUp_at]⟩)
