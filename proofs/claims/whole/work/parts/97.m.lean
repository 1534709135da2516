/-! the soonest way: reckoned round by round -/
def rlx (d : Nat → Int) (a b : Nat) (c : Int) : Nat → Int := fun p => if p = b ∧ d a + c < d b then d a + c else d p
def wyS (A B : Nat → Nat) (C : Nat → Int) (d : Nat → Int) (w : Nat) : Nat → Int := rlx (rlx d (A w) (B w) (C w)) (B w) (A w) (C w)
def rdS (A B : Nat → Nat) (C : Nat → Int) (d : Nat → Int) : Nat → Nat → Int
  | 0 => d
  | w + 1 => wyS A B C (rdS A B C d w) w
def itS (A B : Nat → Nat) (C : Nat → Int) (W : Nat) (d : Nat → Int) : Nat → Nat → Int
  | 0 => d
  | k + 1 => rdS A B C (itS A B C W d k) W
theorem rlx_le (d : Nat → Int) (a b : Nat) (c : Int) (p : Nat) : rlx d a b c p ≤ d p := by
  unfold rlx
  by_cases h : p = b ∧ d a + c < d b
  · rw [if_pos h, h.1]
    omega
  · rw [if_neg h]
    exact Int.le_refl _
theorem rlx_b (d : Nat → Int) (a b : Nat) (c : Int) : rlx d a b c b ≤ d a + c := by
  unfold rlx
  by_cases h : d a + c < d b
  · rw [if_pos ⟨rfl, h⟩]
    exact Int.le_refl _
  · rw [if_neg (fun q => h q.2)]
    omega
theorem rlx_n {d : Nat → Int} {a b : Nat} {c : Int} (h : ¬ d a + c < d b) : rlx d a b c = d := by
  funext p
  unfold rlx
  rw [if_neg (fun q => h q.2)]
theorem rlx_p {d : Nat → Int} {a b : Nat} {c : Int} (h : d a + c < d b) : rlx d a b c = fun p => if p = b then d a + c else d p := by
  funext p
  unfold rlx
  by_cases q : p = b
  · rw [if_pos ⟨q, h⟩, if_pos q]
  · rw [if_neg (fun z => q z.1), if_neg q]
theorem wyS_le (A B : Nat → Nat) (C : Nat → Int) (d : Nat → Int) (w p : Nat) : wyS A B C d w p ≤ d p := Int.le_trans (rlx_le _ _ _ _ _) (rlx_le _ _ _ _ _)
theorem wyS_B (A B : Nat → Nat) (C : Nat → Int) (d : Nat → Int) (w : Nat) : wyS A B C d w (B w) ≤ d (A w) + C w := Int.le_trans (rlx_le _ _ _ _ _) (rlx_b _ _ _ _)
theorem wyS_A (A B : Nat → Nat) (C : Nat → Int) (d : Nat → Int) (w : Nat) : wyS A B C d w (A w) ≤ d (B w) + C w := by
  have h1 := rlx_b (rlx d (A w) (B w) (C w)) (B w) (A w) (C w)
  have h2 := rlx_le d (A w) (B w) (C w) (B w)
  unfold wyS
  omega
theorem rdS_le (A B : Nat → Nat) (C : Nat → Int) (d : Nat → Int) (w k : Nat) (p : Nat) : rdS A B C d (w + k) p ≤ rdS A B C d w p := by
  induction k with
  | zero => exact Int.le_refl _
  | succ k ih => exact Int.le_trans (wyS_le A B C _ _ p) ih
def smS (d : Nat → Int) : Nat → Int
  | 0 => 0
  | k + 1 => smS d k + d k
theorem smS_le {d d' : Nat → Int} : ∀ k, (∀ p, p < k → d' p ≤ d p) → smS d' k ≤ smS d k := by
  intro k
  induction k with
  | zero => intro _; exact Int.le_refl _
  | succ k ih =>
    intro h
    have h1 := ih (fun p hp => h p (by omega))
    have h2 := h k (by omega)
    rw [smS, smS]
    omega
theorem smS_lt {d d' : Nat → Int} {q : Nat} : ∀ k, (∀ p, p < k → d' p ≤ d p) → q < k → d' q < d q → smS d' k + 1 ≤ smS d k := by
  intro k
  induction k with
  | zero => intro _ h; omega
  | succ k ih =>
    intro h hq hl
    have h2 := h k (by omega)
    rw [smS, smS]
    by_cases c : q = k
    · subst c
      have h1 := smS_le (d := d) (d' := d') q (fun p hp => h p (by omega))
      omega
    · have h1 := ih (fun p hp => h p (by omega)) (by omega) hl
      omega
theorem smS_0 {d : Nat → Int} : ∀ k, (∀ p, p < k → 0 ≤ d p) → 0 ≤ smS d k := by
  intro k
  induction k with
  | zero => intro _; exact Int.le_refl _
  | succ k ih =>
    intro h
    have h1 := ih (fun p hp => h p (by omega))
    have h2 := h k (by omega)
    rw [smS]
    omega
theorem smS_u {d : Nat → Int} {F : Int} : ∀ k, (∀ p, p < k → d p ≤ F) → smS d k ≤ F * k := by
  intro k
  induction k with
  | zero => intro _; simp [smS]
  | succ k ih =>
    intro h
    have h1 := ih (fun p hp => h p (by omega))
    have h2 := h k (by omega)
    rw [smS, show F * ((k + 1 : Nat) : Int) = F * k + F by rw [show ((k + 1 : Nat) : Int) = (k : Int) + 1 by omega, Int.mul_add, Int.mul_one]]
    omega
/-- ways and points as they must be -/
def okG (A B : Nat → Nat) (C : Nat → Int) (W P : Nat) : Prop := ∀ w, w < W → A w < P ∧ B w < P ∧ 1 ≤ C w ∧ C w ≤ 30
def edS (A B : Nat → Nat) (C : Nat → Int) (W a b : Nat) (c : Int) : Prop := ∃ w, w < W ∧ ((A w = a ∧ B w = b) ∨ (B w = a ∧ A w = b)) ∧ C w = c
theorem edS_b {A B : Nat → Nat} {C : Nat → Int} {W P : Nat} (hG : okG A B C W P) {a b : Nat} {c : Int} (h : edS A B C W a b c) : a < P ∧ b < P ∧ 1 ≤ c ∧ c ≤ 30 := by
  obtain ⟨w, h1, h2, h3⟩ := h
  have := hG w h1
  omega
/-- minutes that come by ways, or not at all (F) -/
def gdS (A B : Nat → Nat) (C : Nat → Int) (W P s : Nat) (F : Int) (d : Nat → Int) : Prop := d s = 0 ∧ ∀ p, p < P → (0 ≤ d p ∧ d p ≤ F) ∧ (d p = F ∨ p = s ∨ ∃ a c, edS A B C W a p c ∧ d a + c ≤ d p)
def fxS (A B : Nat → Nat) (C : Nat → Int) (W : Nat) (d : Nat → Int) : Prop := ∀ a b c, edS A B C W a b c → d b ≤ d a + c
theorem gd_rlx {A B : Nat → Nat} {C : Nat → Int} {W P s : Nat} (hG : okG A B C W P) {F : Int} {d : Nat → Int} (h : gdS A B C W P s F d) {a b : Nat} {c : Int} (he : edS A B C W a b c) : gdS A B C W P s F (rlx d a b c) := by
  have hb := edS_b hG he
  have ha := (h.2 a hb.1).1
  have hbb := (h.2 b hb.2.1).1
  refine ⟨?_, fun p hp => ?_⟩
  · unfold rlx
    by_cases q : s = b ∧ d a + c < d b
    · have := h.1
      rw [q.1] at this
      omega
    · rw [if_neg q]
      exact h.1
  · have hpp := h.2 p hp
    by_cases q : p = b ∧ d a + c < d b
    · have e : rlx d a b c p = d a + c := by
        unfold rlx
        rw [if_pos q]
      rw [e]
      have hle := rlx_le d a b c a
      exact ⟨by omega, Or.inr (Or.inr ⟨a, c, by rw [q.1]; exact he, by omega⟩)⟩
    · have e : rlx d a b c p = d p := by
        unfold rlx
        rw [if_neg q]
      rw [e]
      refine ⟨hpp.1, ?_⟩
      rcases hpp.2 with w | w | ⟨a', c', w1, w2⟩
      · exact Or.inl w
      · exact Or.inr (Or.inl w)
      · have hle := rlx_le d a b c a'
        exact Or.inr (Or.inr ⟨a', c', w1, by omega⟩)
theorem gd_wy {A B : Nat → Nat} {C : Nat → Int} {W P s : Nat} (hG : okG A B C W P) {F : Int} {d : Nat → Int} (h : gdS A B C W P s F d) {w : Nat} (hw : w < W) : gdS A B C W P s F (wyS A B C d w) :=
  gd_rlx hG (gd_rlx hG h ⟨w, hw, Or.inl ⟨rfl, rfl⟩, rfl⟩) ⟨w, hw, Or.inr ⟨rfl, rfl⟩, rfl⟩
/-- how many points are nearer -/
def cnS (D : Nat → Int) (v : Int) : Nat → Nat
  | 0 => 0
  | k + 1 => cnS D v k + if D k < v then 1 else 0
theorem cn_le (D : Nat → Int) (v : Int) : ∀ k, cnS D v k ≤ k := by
  intro k
  induction k with
  | zero => exact Nat.le_refl _
  | succ k ih =>
    rw [cnS]
    split <;> omega
theorem cn_mono (D : Nat → Int) {u v : Int} (h : u ≤ v) : ∀ k, cnS D u k ≤ cnS D v k := by
  intro k
  induction k with
  | zero => exact Nat.le_refl _
  | succ k ih =>
    rw [cnS, cnS]
    by_cases c : D k < u
    · rw [if_pos c, if_pos (by omega)]
      omega
    · rw [if_neg c]
      split <;> omega
theorem cn_lt (D : Nat → Int) {a : Nat} {v : Int} (h : D a < v) : ∀ k, a < k → cnS D (D a) k + 1 ≤ cnS D v k := by
  intro k
  induction k with
  | zero => intro h; omega
  | succ k ih =>
    intro hk
    rw [cnS, cnS]
    by_cases c : a = k
    · subst c
      have := cn_mono D (Int.le_of_lt h) a
      rw [if_neg (by omega), if_pos h]
      omega
    · have := ih (by omega)
      by_cases c2 : D k < D a
      · rw [if_pos c2, if_pos (by omega)]
        omega
      · rw [if_neg c2]
        split <;> omega
theorem far_b {A B : Nat → Nat} {C : Nat → Int} {W P s : Nat} (hG : okG A B C W P) {F : Int} {D : Nat → Int} (h : gdS A B C W P s F D) (hf : fxS A B C W D) : ∀ (n p : Nat), p < P → D p < F → cnS D (D p) P ≤ n → D p ≤ 30 * (n : Int) := by
  intro n
  induction n with
  | zero =>
    intro p hp hF hc
    rcases (h.2 p hp).2 with q | q | ⟨a, c, q1, q2⟩
    · omega
    · rw [q, h.1]
      omega
    · have hb := edS_b hG q1
      have := cn_lt D (a := a) (v := D p) (by omega) P hb.1
      omega
  | succ n ih =>
    intro p hp hF hc
    rcases (h.2 p hp).2 with q | q | ⟨a, c, q1, q2⟩
    · omega
    · rw [q, h.1]
      omega
    · have hb := edS_b hG q1
      have h1 := cn_lt D (a := a) (v := D p) (by omega) P hb.1
      have h2 := ih a hb.1 (by omega) (by omega)
      have h3 := hf a p c q1
      omega
/-- the first half's minutes hold against the other's -/
def lbS (P : Nat) (F G : Int) (D d : Nat → Int) : Prop := ∀ p, p < P → (D p = F → d p = G) ∧ (D p < F → D p ≤ d p ∧ d p ≤ G)
theorem lb_rlx {A B : Nat → Nat} {C : Nat → Int} {W P s : Nat} (hG : okG A B C W P) (hP : P ≤ 12) {F G : Int} (hF : 1000 ≤ F) {D d : Nat → Int} (h : gdS A B C W P s F D) (hf : fxS A B C W D) (hl : lbS P F G D d) {a b : Nat} {c : Int} (he : edS A B C W a b c) : lbS P F G D (rlx d a b c) := by
  have hb := edS_b hG he
  have h3 := hf a b c he
  have la := hl a hb.1
  have lb := hl b hb.2.1
  have ra := (h.2 a hb.1).1
  have rb := (h.2 b hb.2.1).1
  have fa : D a < F → D a ≤ 360 := fun q => by
    have := far_b hG h hf P a hb.1 q (cn_le D _ P)
    omega
  intro p hp
  by_cases q : p = b ∧ d a + c < d b
  · have e : rlx d a b c p = d a + c := by
      unfold rlx
      rw [if_pos q]
    rw [e, q.1]
    by_cases ca : D a = F
    · have := la.1 ca
      by_cases cb : D b = F
      · have := lb.1 cb
        omega
      · have := lb.2 (by omega)
        omega
    · have := la.2 (by omega)
      have := fa (by omega)
      by_cases cb : D b = F
      · omega
      · have := lb.2 (by omega)
        exact ⟨fun z => absurd z cb, fun _ => by omega⟩
  · have e : rlx d a b c p = d p := by
      unfold rlx
      rw [if_neg q]
    rw [e]
    exact hl p hp
theorem lb_rd {A B : Nat → Nat} {C : Nat → Int} {W P s : Nat} (hG : okG A B C W P) (hP : P ≤ 12) {F G : Int} (hF : 1000 ≤ F) {D d : Nat → Int} (h : gdS A B C W P s F D) (hf : fxS A B C W D) (hl : lbS P F G D d) : ∀ w, w ≤ W → lbS P F G D (rdS A B C d w) := by
  intro w
  induction w with
  | zero => intro _; exact hl
  | succ w ih =>
    intro hw
    exact lb_rlx hG hP hF h hf (lb_rlx hG hP hF h hf (ih (by omega)) ⟨w, by omega, Or.inl ⟨rfl, rfl⟩, rfl⟩) ⟨w, by omega, Or.inr ⟨rfl, rfl⟩, rfl⟩
def ubS (P : Nat) (F : Int) (D d : Nat → Int) (k : Nat) : Prop := ∀ p, p < P → D p < F → cnS D (D p) P ≤ k → d p ≤ D p
theorem ub_rd {A B : Nat → Nat} {C : Nat → Int} {W P s : Nat} (hG : okG A B C W P) (hs : s < P) {F : Int} {D d : Nat → Int} (h : gdS A B C W P s F D) {k : Nat} (hu : ubS P F D d k) : ubS P F D (rdS A B C d W) (k + 1) := by
  intro p hp hF hc
  have le0 : rdS A B C d W p ≤ d p := by
    have := rdS_le A B C d 0 W p
    rw [Nat.zero_add] at this
    exact this
  rcases (h.2 p hp).2 with q | q | ⟨a, c, q1, q2⟩
  · omega
  · subst q
    refine Int.le_trans le0 (hu p hp hF ?_)
    by_cases z : cnS D (D p) P ≤ k
    · exact z
    · exfalso
      have : ∀ m, m ≤ P → cnS D (D p) m = 0 := by
        intro m
        induction m with
        | zero => intro _; rfl
        | succ m ih =>
          intro hm
          have := (h.2 m (by omega)).1
          rw [cnS, ih (by omega), h.1, if_neg (by omega)]
      have := this P (Nat.le_refl _)
      omega
  · have hb := edS_b hG q1
    have h1 := cn_lt D (a := a) (v := D p) (by omega) P hb.1
    have h2 := hu a hb.1 (by omega) (by omega)
    obtain ⟨w, w1, w2, w3⟩ := q1
    have le1 : rdS A B C d W p ≤ rdS A B C d (w + 1) p := by
      have := rdS_le A B C d (w + 1) (W - (w + 1)) p
      rw [show w + 1 + (W - (w + 1)) = W by omega] at this
      exact this
    have le2 : rdS A B C d w a ≤ d a := by
      have := rdS_le A B C d 0 w a
      rw [Nat.zero_add] at this
      exact this
    have le3 : rdS A B C d (w + 1) p ≤ rdS A B C d w a + c := by
      rw [rdS]
      rcases w2 with ⟨z1, z2⟩ | ⟨z1, z2⟩
      · have := wyS_B A B C (rdS A B C d w) w
        rw [z1, z2, w3] at this
        exact this
      · have := wyS_A A B C (rdS A B C d w) w
        rw [z1, z2, w3] at this
        exact this
    omega
theorem so_S {A B : Nat → Nat} {C : Nat → Int} {W P s : Nat} (hG : okG A B C W P) (hP : P ≤ 12) (hs : s < P) {F G : Int} (hF : 1000 ≤ F) (hFG : F ≤ G) {D d : Nat → Int} (h : gdS A B C W P s F D) (hf : fxS A B C W D) (d0 : d s = 0) (d1 : ∀ p, p < P → ¬ p = s → d p = G) : ∀ p, p < P → (D p = F → itS A B C W d P p = G) ∧ (D p < F → itS A B C W d P p = D p) := by
  have key : ∀ k, lbS P F G D (itS A B C W d k) ∧ ubS P F D (itS A B C W d k) k := by
    intro k
    induction k with
    | zero =>
      refine ⟨fun p hp => ?_, fun p hp hpF hc => ?_⟩
      · show (D p = F → d p = G) ∧ (D p < F → D p ≤ d p ∧ d p ≤ G)
        by_cases q : p = s
        · rw [q, d0, h.1]
          omega
        · have := (h.2 p hp).1
          rw [d1 p hp q]
          omega
      · show d p ≤ D p
        rcases (h.2 p hp).2 with q | q | ⟨a, c, q1, q2⟩
        · omega
        · rw [q, d0, h.1]
          exact Int.le_refl _
        · have hb := edS_b hG q1
          have := cn_lt D (a := a) (v := D p) (by omega) P hb.1
          omega
    | succ k ih => exact ⟨lb_rd hG hP hF h hf ih.1 W (Nat.le_refl _), ub_rd hG hs h ih.2⟩
  intro p hp
  have k1 := (key P).1 p hp
  have k2 := (key P).2 p hp
  refine ⟨k1.1, fun q => ?_⟩
  have := k1.2 q
  have := k2 q (cn_le D _ P)
  omega
