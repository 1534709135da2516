/-! minutes: the other half -/
def st12 (M : oM) (c : Nat → Int) (b : Int × Int32) : oM := oUp (oUp (oRow M 92 (fun j => iI (c j))) 59 52 (iI b.1)) 59 53 b.2
theorem st12_at (M : oM) (c : Nat → Int) (b : Int × Int32) (a j : Nat) : (st12 M c b).1 a j = if a = 59 ∧ j = 53 then b.2 else if a = 59 ∧ j = 52 then iI b.1 else if a = 92 then iI (c j) else M.1 a j := by
  unfold st12
  rw [oUp_at, oUp_at]
  by_cases h : a = 92
  · rw [h, oRow_row, if_pos (rfl : (92 : Nat) = 92)]
  · rw [oRow_ro _ _ _ h, if_neg h]
theorem st12_up (M : oM) (c : Nat → Int) (b : Int × Int32) (h : Nat) (y : Int) : oUp (st12 M c b) 92 h (iI y) = st12 M (fun j => if j = h then y else c j) b := by
  refine Prod.ext ?_ rfl
  funext a j
  rw [oUp_at, st12_at, st12_at]
  by_cases q : a = 92
  · rw [if_neg (show ¬ (a = 59 ∧ j = 53) by omega), if_neg (show ¬ (a = 59 ∧ j = 52) by omega), if_pos q, if_neg (show ¬ (a = 59 ∧ j = 53) by omega), if_neg (show ¬ (a = 59 ∧ j = 52) by omega), if_pos q]
    by_cases z : j = h
    · rw [if_pos ⟨q, z⟩, if_pos z]
    · rw [if_neg (fun w => z w.2), if_neg z]
  · rw [if_neg (fun w => q w.1), if_neg q, if_neg q]
theorem st12_b (M : oM) (c : Nat → Int) (b : Int × Int32) (v : Int) (y : Int32) : oUp (oUp (st12 M c b) 59 52 (iI v)) 59 53 y = st12 M c (v, y) := by
  refine Prod.ext ?_ rfl
  funext a j
  rw [oUp_at, oUp_at, st12_at, st12_at]
  by_cases q : a = 59 ∧ j = 53
  · rw [if_pos q, if_pos q]
  · rw [if_neg q, if_neg q]
    by_cases w : a = 59 ∧ j = 52
    · simp only [if_neg q, if_pos w]
    · rw [if_neg w, if_neg w, if_neg q, if_neg w]
theorem cy14 {N : Nat} {K : oK} {M : oM} {c : Nat → Int} (rS : Int32 → Int32 → Int32 → oM → Option (Unit × oM)) (dg : Int32) {k : Nat} (hk : k ≤ 4) {b : Int × Int32} (hc : ∀ j, j < 4 → 0 ≤ c j ∧ c j ≤ 1000) (hz : ∀ j, k ≤ j → j < 4 → c j = 0) (b0 : 0 ≤ b.1) (b1 : b.1 ≤ 2147483647) : ∀ (f j : Nat), j ≤ k → k < j + f → f_X12_carry_14 N rS K f (nI k) dg (iI (pmx c j)) (nI j) (st12 M c b) = some ((), st12 M c (if mx4 c < b.1 then (mx4 c, dg) else b)) := by
  have e4 := pmx_4 (c := c) hk (fun j hj => (hc j hj).1) hz
  have ek : (nI k).toInt = k := nI_toInt (by omega)
  intro f
  induction f with
  | zero => intro j h1 h2; omega
  | succ f ih =>
    intro j h1 h2
    have ej : (nI j).toInt = j := nI_toInt (by omega)
    have hb := pmx_b hc (by omega) j (by omega)
    rw [f_X12_carry_14]
    dsimp only
    by_cases q : j = k
    · subst q
      have e3 : (st12 M c b).1 59 52 = iI b.1 := by rw [st12_at, if_neg (by omega), if_pos ⟨rfl, rfl⟩]
      rw [if_pos (by rw [oLeI]; exact Int.le_refl _), e3, e4]
      rw [e4] at hb
      by_cases w : mx4 c < b.1
      · rw [if_neg (by rw [oLeI, iI_t (by omega) (by omega), iI_t (by omega) (by omega)]; omega), if_pos w, st12_b]
      · rw [if_pos (by rw [oLeI, iI_t (by omega) (by omega), iI_t (by omega) (by omega)]; omega), if_neg w]
    · have hcj := hc j (by omega)
      have hx : ∀ A : Option (Unit × oM), oIx (nI j) 4 A = A := fun A => oIx_p (by omega) (by omega)
      have e39 : (st12 M c b).1 92 j = iI (c j) := by rw [st12_at, if_neg (by omega), if_neg (by omega), if_pos rfl]
      rw [if_neg (by rw [oLeI, ej, ek]; omega)]
      simp only [hx, nI_n (show j < 2147483648 by omega), e39, f_X12_carry_44, nI_1]
      have h9 := ih (j + 1) (by omega) (by omega)
      rw [pmx] at h9
      by_cases w : pmx c j < c j
      · rw [if_pos w] at h9
        rw [if_neg (by rw [oLeI, iI_t (by omega) (by omega), iI_t (by omega) (by omega)]; omega)]
        exact h9
      · rw [if_neg w] at h9
        rw [if_pos (by rw [oLeI, iI_t (by omega) (by omega), iI_t (by omega) (by omega)]; omega)]
        exact h9
theorem cy76 {N : Nat} {K : oK} {M : oM} {k n : Nat} (hk : k ≤ 4) {L : Nat → Int} {rS : Int32 → Int32 → Int32 → oM → Option (Unit × oM)} {i dg r : Nat} (hi8 : i < 8) {c : Nat → Int} (hLM : M.1 91 i = iI (L i)) 
    (hrS : ∀ (j : Nat) (b : Int × Int32), j < k → 0 ≤ b.1 → b.1 ≤ 2147483647 → ∃ b', rS (nI (i + 1)) (nI k) (nI (10 * dg + j)) (st12 M (adC c j (L i)) b) = some ((), st12 M (adC c j (L i)) b') ∧ Bs nI (hcm k L r (i + 1) (adC c j (L i)) (10 * dg + j)) b b' ∧ 0 ≤ b'.1) :
    ∀ (f j : Nat) (b bj : Int × Int32), j ≤ k → k < j + f → 0 ≤ b.1 → b.1 ≤ 2147483647 → Bs nI (SJ k L r i c (L i) dg j) b bj → 0 ≤ bj.1 →
    ∃ b', f_X12_carry_76 N rS K f (nI i) (nI k) (nI dg) (nI j) (st12 M c bj) = some ((), st12 M c b') ∧ Bs nI (SJ k L r i c (L i) dg k) b b' ∧ 0 ≤ b'.1 := by
  intro f
  induction f with
  | zero => intro j b bj h1 h2; omega
  | succ f ih =>
    intro j b bj h1 h2 b0 b1 hB hj0
    have hbj := hB.le
    have ej : (nI j).toInt = j := nI_toInt (by omega)
    have ek : (nI k).toInt = k := nI_toInt (by omega)
    have ei : (nI i).toInt = i := nI_toInt (by omega)
    rw [f_X12_carry_76]
    dsimp only
    by_cases q : j = k
    · subst q
      exact ⟨bj, by rw [if_pos (by rw [oLeI]; exact Int.le_refl _)], hB, hj0⟩
    · have hx : ∀ A : Option (Unit × oM), oIx (nI j) 4 A = A := fun A => oIx_p (by omega) (by omega)
      have hy : ∀ A : Option (Unit × oM), oIx (nI i) 8 A = A := fun A => oIx_p (by omega) (by omega)
      have e39 : (st12 M c bj).1 92 j = iI (c j) := by rw [st12_at, if_neg (by omega), if_neg (by omega), if_pos rfl]
      have e91 : ∀ (c : Nat → Int) (b : Int × Int32), (st12 M c b).1 91 i = iI (L i) := fun c b => by rw [st12_at, if_neg (by omega), if_neg (by omega), if_neg (by omega)]; exact hLM
      rw [if_neg (by rw [oLeI, ek, ej]; omega)]
      simp only [hx, hy, nI_n (show j < 2147483648 by omega), nI_n (show i < 2147483648 by omega), e39, e91, iI_add, nI_1, nI_10']
      rw [st12_up]
      have ea : (fun x => if x = j then c j + L i else c x) = adC c j (L i) := by
        funext x
        unfold adC
        by_cases z : x = j
        · rw [if_pos z, if_pos z, z]
        · rw [if_neg z, if_neg z]
      obtain ⟨b', a1, a2, a3⟩ := hrS j bj (by omega) hj0 (by omega)
      rw [ea, a1, oB2_p]
      have e39' : (st12 M (adC c j (L i)) b').1 92 j = iI (c j + L i) := by
        rw [st12_at, if_neg (by omega), if_neg (by omega), if_pos rfl]
        unfold adC
        rw [if_pos rfl]
      have eb : (fun x => if x = j then c j else adC c j (L i) x) = c := by
        funext x
        unfold adC
        by_cases z : x = j
        · rw [if_pos z, z]
        · rw [if_neg z, if_neg z]
      rw [e91, e39', iI_sub, show c j + L i - L i = c j by omega, st12_up, eb]
      exact ih (j + 1) b b' (by omega) (by omega) b0 b1 (SJ_seq hk hB a2) a3
theorem cy12 {N : Nat} (hN : 100 ≤ N) {K : oK} {M : oM} {k n : Nat} (hk : k ≤ 4) (hn : n ≤ 8) (hcnt : M.1 59 49 = nI n) {L : Nat → Int} (hL : ∀ i, i < n → 0 ≤ L i ∧ L i ≤ 99) (hLM : ∀ i, i < n → M.1 91 i = iI (L i)) : ∀ (r f i dg : Nat) (c : Nat → Int) (b : Int × Int32), r < f → i + r = n → (∀ j, k ≤ j → j < 4 → c j = 0) → (∀ j, j < 4 → 0 ≤ c j ∧ c j ≤ 99 * (i : Int)) → 0 ≤ b.1 → b.1 ≤ 2147483647 →
    ∃ b', f_X12_carry N K f (nI i) (nI k) (nI dg) (st12 M c b) = some ((), st12 M c b') ∧ Bs nI (hcm k L r i c dg) b b' ∧ 0 ≤ b'.1 := by
  intro r
  induction r with
  | zero =>
    intro f i dg c b hf hi hz hc b0 b1
    obtain ⟨f, rfl⟩ : ∃ m, f = m + 1 := ⟨f - 1, by omega⟩
    have e2 : (st12 M c b).1 59 49 = nI n := by rw [st12_at, if_neg (by omega), if_neg (by omega), if_neg (by omega)]; exact hcnt
    rw [f_X12_carry]
    dsimp only
    rw [e2, if_pos (by rw [show i = n by omega])]
    have h4 := cy14 (N := N) (K := K) (M := M) (c := c) (f_X12_carry N K f) (nI dg) hk (b := b) (fun j hj => by have := hc j hj; omega) hz b0 b1 N 0 (by omega) (by omega)
    have h4' : f_X12_carry_14 N (f_X12_carry N K f) K N (nI k) (nI dg) 0 0 (st12 M c b) = _ := h4
    have hm0 : 0 ≤ mx4 c := by
      have := (hc 0 (by omega)).1
      unfold mx4
      omega
    rw [h4']
    refine ⟨_, rfl, ?_, ?_⟩
    · by_cases w : mx4 c < b.1
      · rw [if_pos w]
        exact ⟨Or.inr ⟨w, dg, rfl, ⟨rfl, rfl⟩, fun g' h => Nat.le_of_eq h.2.symm⟩, fun v g h => Int.le_of_eq h.1.symm⟩
      · rw [if_neg w]
        exact .skip fun v g h => by have : v = mx4 c := h.1; omega
    · by_cases w : mx4 c < b.1
      · rw [if_pos w]; exact hm0
      · rw [if_neg w]; exact b0
  | succ r ih =>
    intro f i dg c b hf hi hz hc b0 b1
    obtain ⟨f, rfl⟩ : ∃ m, f = m + 1 := ⟨f - 1, by omega⟩
    have e2 : (st12 M c b).1 59 49 = nI n := by rw [st12_at, if_neg (by omega), if_neg (by omega), if_neg (by omega)]; exact hcnt
    have hLi := hL i (by omega)
    rw [f_X12_carry]
    dsimp only
    rw [e2, if_neg (by rw [nI_inj (by omega) (by omega)]; omega)]
    obtain ⟨b', a1, a2, a3⟩ := cy76 (N := N) (K := K) (M := M) (n := n) hk (L := L) (rS := f_X12_carry N K f) (i := i) (dg := dg) (r := r) (by omega) (c := c) (hLM i (by omega)) (fun j b hjk q0 q1 => by
      refine ih f (i + 1) (10 * dg + j) (adC c j (L i)) b (by omega) (by omega) (fun x hx1 hx2 => ?_) (fun x hx => ?_) q0 q1
      · unfold adC
        rw [if_neg (by omega)]
        exact hz x hx1 hx2
      · have := hc x hx
        unfold adC
        split <;> omega) N 0 b b (by omega) (by omega) b0 b1 (.nil (fun v g h => by obtain ⟨h, h1, -⟩ := h; omega) b) b0
    exact ⟨b', a1, a2.wide (fun v g h => h) (fun v g h => ⟨g, Nat.le_refl _, h⟩), a3⟩
theorem mn43 {N : Nat} {K : oK} {M : oM} {b : Int × Int32} (p1 p2 : Int32) : ∀ (f j : Nat) (c : Nat → Int), j ≤ 4 → 4 < j + f → (∀ x, x < j → c x = 0) → f_X12_minutes_43 N K f p1 p2 (nI j) (st12 M c b) = oB2 (f_X12_carry N K 10 0 p1 0 (st12 M (fun x => if x < 4 then 0 else c x) b)) (fun _ M10 => if p2 = 0 then some (M10.1 59 52, M10) else some (M10.1 59 53, M10)) := by
  intro f
  induction f with
  | zero => intro j c h1 h2; omega
  | succ f ih =>
    intro j c h1 h2 hc
    have ej : (nI j).toInt = j := nI_toInt (by omega)
    rw [f_X12_minutes_43]
    dsimp only
    by_cases q : j = 4
    · subst q
      have e : (fun x => if x < 4 then 0 else c x) = c := by
        funext x
        by_cases z : x < 4
        · rw [if_pos z, hc x z]
        · rw [if_neg z]
      rw [if_pos (by decide), e]
    · have h0 : (0 : Int32) = iI 0 := rfl
      rw [if_neg (by rw [oLeI, ej, tl_4]; omega), oIx_p (by omega) (by omega), nI_n (by omega), h0, st12_up, nI_1, ← h0, ih (j + 1) _ (by omega) (by omega) (fun x hx => ?_)]
      · congr 3
        funext x
        by_cases z : x < 4
        · rw [if_pos z, if_pos z]
        · rw [if_neg z, if_neg z, if_neg (by omega)]
      · by_cases z : x = j
        · rw [if_pos z]
        · rw [if_neg z]
          exact hc x (by omega)
theorem hcm_cong {k : Nat} {L : Nat → Int} : ∀ {c c' : Nat → Int} (_ : ∀ j, j < 4 → c j = c' j) (r i : Nat) {dg : Nat} (v : Int) (g : Nat), hcm k L r i c dg v g → hcm k L r i c' dg v g := by
  intro c c' hc r
  induction r generalizing c c' with
  | zero =>
    intro i dg v g h
    refine ⟨?_, h.2⟩
    rw [h.1]
    unfold mx4
    rw [hc 0 (by omega), hc 1 (by omega), hc 2 (by omega), hc 3 (by omega)]
  | succ r ih =>
    intro i dg v g h
    obtain ⟨x, hx, hh⟩ := h
    refine ⟨x, hx, ih (fun j hj => ?_) (i + 1) v g hh⟩
    unfold adC
    rw [hc j hj]
theorem st_self5 (M : oM) : st5 M (fun j => (M.1 39 j).toInt) ((M.1 37 3).toInt, M.1 37 4) = M := by
  refine Prod.ext ?_ rfl
  funext a j
  rw [st5_at]
  by_cases q : a = 37 ∧ j = 4
  · rw [if_pos q, q.1, q.2]
  · rw [if_neg q]
    by_cases w : a = 37 ∧ j = 3
    · rw [if_pos w, w.1, w.2]
      exact iI_self _
    · rw [if_neg w]
      by_cases z : a = 39
      · rw [if_pos z, z]
        exact iI_self _
      · rw [if_neg z]
theorem st_self12 (M : oM) : st12 M (fun j => (M.1 92 j).toInt) ((M.1 59 52).toInt, M.1 59 53) = M := by
  refine Prod.ext ?_ rfl
  funext a j
  rw [st12_at]
  by_cases q : a = 59 ∧ j = 53
  · rw [if_pos q, q.1, q.2]
  · rw [if_neg q]
    by_cases w : a = 59 ∧ j = 52
    · rw [if_pos w, w.1, w.2]
      exact iI_self _
    · rw [if_neg w]
      by_cases z : a = 92
      · rw [if_pos z, z]
        exact iI_self _
      · rw [if_neg z]
theorem ag_minutes {K : oK} {M : oM} (h : oInv K M) {N : Nat} (hN : 3000 ≤ N) (p w : Int32) : oAg K M (f_X11_minutes N K p w M) (f_X12_minutes N K p w) := by
  obtain ⟨⟨e1, b0, b1⟩, hv, hz⟩ := id h.2.2.2.2.2.1
  have mc : ∀ M1, f_X12_minutes N K p w M1 = cond (decide (1 ≤ p.toInt ∧ p.toInt ≤ 4)) (cond (decide (0 ≤ w.toInt ∧ w.toInt ≤ 1)) (if M1.1 59 49 = 0 then some (-5, M1) else f_X12_minutes_43 N K N p w 0 (oUp M1 59 52 1000000)) (some (-1, M1))) (some (-1, M1)) := by
    intro M1
    unfold f_X12_minutes
    rw [w12, oB2_p, w12, oB2_p, oLg, oLg]
    rfl
  unfold f_X11_minutes
  rw [w11, oB2_p, tl_1, tl_4]
  by_cases cp : 1 ≤ p.toInt ∧ p.toInt ≤ 4
  · rw [decide_eq_true cp, cond_true, w11, oB2_p, tl_0, tl_1]
    by_cases cw : 0 ≤ w.toInt ∧ w.toInt ≤ 1
    · rw [decide_eq_true cw, cond_true]
      by_cases z : M.1 37 2 = 0
      · rw [if_pos z]
        refine oAg.mk M rfl ?_ h
        rw [mc, decide_eq_true cp, decide_eq_true cw, cond_true, cond_true, if_pos (by rw [e1]; exact z)]
      · rw [if_neg z]
        have hc : M.1 37 2 = nI (M.1 37 2).toInt.toNat := oNI (by omega)
        generalize hnn : (M.1 37 2).toInt.toNat = n at hc
        have hk : p = nI p.toInt.toNat := oNI (by omega)
        generalize hkk : p.toInt.toNat = k at hk
        have hn8 : n ≤ 8 := by omega
        have hL : ∀ i, i < n → 0 ≤ (M.1 38 i).toInt ∧ (M.1 38 i).toInt ≤ 99 := fun i hi => by have := (hv i (by omega)).2; omega
        -- the first half
        obtain ⟨b', a1, a2, a3⟩ := gv5 (N := N) (by omega) (K := K) (M := M) (k := k) (n := n) (by omega) (by omega) hn8 hc (L := fun i => (M.1 38 i).toInt) hL (fun i hi => (iI_self _).symm) n 10 0 0 0 (fun j => (M.1 39 j).toInt) (1000, 0) (by omega) (by omega) (by omega) (fun j _ hj => by rw [hz j hj]; rfl) (fun j hj => by rw [hz j hj, tl_0]; omega) (by decide) (by decide)
        have es : oUp (oUp M 37 3 (1000 : Int32)) 37 4 (0 : Int32) = st5 M (fun j => (M.1 39 j).toInt) (1000, 0) := by
          have := st5_b M (fun j => (M.1 39 j).toInt) ((M.1 37 3).toInt, M.1 37 4) 1000 0
          rw [st_self5] at this
          exact this
        have ec : f_X5_carry N K p M = some ((), st5 M (fun j => (M.1 39 j).toInt) b') := by
          unfold f_X5_carry
          have a1' : f_X5_give N K 10 (nI k) 0 0 0 (st5 M (fun j => (M.1 39 j).toInt) (1000, 0)) = _ := a1
          rw [es, hk, a1', oB2_p]
        rw [ec, oB2_p]
        generalize hM1 : st5 M (fun j => (M.1 39 j).toInt) b' = M1
        have m1 : ∀ a j, M1.1 a j = if a = 37 ∧ j = 4 then b'.2 else if a = 37 ∧ j = 3 then iI b'.1 else M.1 a j := by
          intro a j
          rw [← hM1, st5_at]
          by_cases q : a = 39
          · rw [if_neg (by omega), if_neg (by omega), if_pos q, if_neg (by omega), if_neg (by omega), q]
            exact iI_self _
          · rw [if_neg q]
        have r1 : ∀ a j, ¬ a = 37 → M1.1 a j = M.1 a j := fun a j q => by rw [m1, if_neg (fun x => q x.1), if_neg (fun x => q x.1)]
        -- the other half
        have hc2 : M1.1 59 49 = nI n := by rw [r1 _ _ (by decide), e1]; exact hc
        obtain ⟨c', d1, d2, d3⟩ := cy12 (N := N) (by omega) (K := K) (M := M1) (k := k) (n := n) (by omega) hn8 hc2 (L := fun i => (M.1 38 i).toInt) hL (fun i hi => by rw [r1 _ _ (by decide), (hv i (by omega)).1]; exact (iI_self _).symm) n 10 0 0 (fun x => if x < 4 then 0 else (M1.1 92 x).toInt) (1000000, M1.1 59 53) (by omega) (by omega) (fun j _ hj => by rw [if_pos hj]) (fun j hj => by rw [if_pos hj]; omega) (show (0 : Int) ≤ 1000000 by decide) (show (1000000 : Int) ≤ 2147483647 by decide)
        have es2 : oUp M1 59 52 (1000000 : Int32) = st12 M1 (fun j => (M1.1 92 j).toInt) (1000000, M1.1 59 53) := by
          have := st12_b M1 (fun j => (M1.1 92 j).toInt) ((M1.1 59 52).toInt, M1.1 59 53) 1000000 (M1.1 59 53)
          rw [st_self12] at this
          rw [← this]
          refine Prod.ext ?_ rfl
          funext a j
          rw [oUp_at _ 59 53]
          by_cases q : a = 59 ∧ j = 53
          · rw [if_pos q, oUp_at, if_neg (by omega), q.1, q.2]
          · rw [if_neg q]
            rfl
        have mod : f_X12_minutes N K p w M1 = if w = 0 then some (iI c'.1, st12 M1 (fun x => if x < 4 then 0 else (M1.1 92 x).toInt) c') else some (c'.2, st12 M1 (fun x => if x < 4 then 0 else (M1.1 92 x).toInt) c') := by
          rw [mc, decide_eq_true cp, decide_eq_true cw, cond_true, cond_true, if_neg (by rw [r1 _ _ (by decide), e1]; exact z), es2]
          have m43 := mn43 (N := N) (K := K) (M := M1) (b := (1000000, M1.1 59 53)) p w N 0 (fun j => (M1.1 92 j).toInt) (by omega) (by omega) (fun x hx => by omega)
          have m43' : f_X12_minutes_43 N K N p w 0 (st12 M1 (fun j => (M1.1 92 j).toInt) (1000000, M1.1 59 53)) = _ := m43
          have d1' : f_X12_carry N K 10 0 p 0 (st12 M1 (fun x => if x < 4 then 0 else (M1.1 92 x).toInt) (1000000, M1.1 59 53)) = some ((), st12 M1 (fun x => if x < 4 then 0 else (M1.1 92 x).toInt) c') := by
            rw [hk]
            exact d1
          have e52 : (st12 M1 (fun x => if x < 4 then 0 else (M1.1 92 x).toInt) c').1 59 52 = iI c'.1 := by rw [st12_at, if_neg (by omega), if_pos ⟨rfl, rfl⟩]
          have e53 : (st12 M1 (fun x => if x < 4 then 0 else (M1.1 92 x).toInt) c').1 59 53 = c'.2 := by rw [st12_at, if_pos ⟨rfl, rfl⟩]
          rw [m43', d1', oB2_p, e52, e53]
        have d2' : Bs nI (hcm k (fun i => (M.1 38 i).toInt) n 0 (fun j => (M.1 39 j).toInt) 0) (1000000, M1.1 59 53) c' := by
          have cg : ∀ j, j < 4 → (if j < 4 then 0 else (M1.1 92 j).toInt) = (M.1 39 j).toInt := fun j hj => by rw [if_pos hj, hz j hj]; rfl
          exact d2.wide (fun v g q => hcm_cong cg n 0 v g q) (fun v g q => ⟨g, Nat.le_refl _, hcm_cong (fun j hj => (cg j hj).symm) n 0 v g q⟩)
        obtain ⟨v, g, hs⟩ := hcm_ex (k := k) (L := fun i => (M.1 38 i).toInt) (by omega) n 0 (fun j => (M.1 39 j).toInt) 0
        have hvu := hcm_up hL n 0 (fun j => (M.1 39 j).toInt) 0 0 v g (by omega) (fun j hj => by rw [hz j hj]; exact Int.le_refl _) hs
        obtain ⟨u1, g2, u2, u3, -⟩ := a2.uniq d2' hs (by show v < 1000; omega) (by show v < 1000000; omega)
        have e34 : M1.1 37 3 = iI b'.1 := by rw [m1, if_neg (by omega), if_pos ⟨rfl, rfl⟩]
        have e44 : M1.1 37 4 = b'.2 := by rw [m1, if_pos ⟨rfl, rfl⟩]
        generalize hM2 : st12 M1 (fun x => if x < 4 then 0 else (M1.1 92 x).toInt) c' = M2 at mod
        have s : ∀ a j, ¬ (a = 59 ∧ j = 53) → ¬ (a = 59 ∧ j = 52) → ¬ a = 92 → ¬ (a = 37 ∧ j = 4) → ¬ (a = 37 ∧ j = 3) → M2.1 a j = M.1 a j := by
          intro a j q1 q2 q3 q4 q5
          rw [← hM2, st12_at, if_neg q1, if_neg q2, if_neg q3, m1, if_neg q4, if_neg q5]
        have F : oFr [37, 38, 39, 91, 92] [49, 52, 53] M M2 := by
          refine ⟨fun a q1 q2 => ?_, fun j q => ?_, ?_⟩
          · simp only [List.mem_cons, List.not_mem_nil, or_false] at q2
            funext j
            exact s a j (by omega) (by omega) (by omega) (by omega) (by omega)
          · simp only [List.mem_cons, List.not_mem_nil, or_false] at q
            exact s 59 j (by omega) (by omega) (by omega) (by omega) (by omega)
          · rw [← hM2, ← hM1]
            rfl
        have inv : oInv K M2 := by
          refine h.load F ?_
          unfold iLoad
          rw [s 59 49 (by omega) (by omega) (by omega) (by omega) (by omega), s 37 2 (by omega) (by omega) (by omega) (by omega) (by omega)]
          refine ⟨⟨e1, b0, b1⟩, fun i hi => ?_, fun i hi => ?_⟩
          · rw [s 91 i (by omega) (by omega) (by omega) (by omega) (by omega), s 38 i (by omega) (by omega) (by omega) (by omega) (by omega)]
            exact hv i hi
          · rw [s 39 i (by omega) (by omega) (by omega) (by omega) (by omega)]
            exact hz i hi
        by_cases q : w = 0
        · rw [if_pos q, e34]
          rw [if_pos q] at mod
          exact oAg.mk M2 rfl (by rw [mod, u1]) inv
        · rw [if_neg q, e44]
          rw [if_neg q] at mod
          exact oAg.mk M2 rfl (by rw [mod, u2, u3]) inv
    · rw [decide_eq_false cw, cond_false]
      refine oAg.mk M rfl ?_ h
      rw [mc, decide_eq_true cp, decide_eq_false cw, cond_true, cond_false]
  · rw [decide_eq_false cp, cond_false]
    refine oAg.mk M rfl ?_ h
    rw [mc, decide_eq_false cp, cond_false]
