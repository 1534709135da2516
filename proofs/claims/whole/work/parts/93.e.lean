/-! part, parts: both answer alike -/
theorem eqC.sy {A B : oM} (h : eqC A B) : eqC B A := fun a c => ⟨(h a c).1.symm, (h a c).2.symm⟩
theorem eqM.sy {A B : oM} (h : eqM A B) : eqM B A := fun a c d => ⟨(h a c d).1.symm, (h a c d).2.symm⟩
theorem eqC_new {A B : oM} (h : eqC A B) (l c : Nat) (s n b e : Int32) : eqC (newC A l c s n b e) (newC B l c s n b e) := by
  intro a ha
  have hr : ∀ a', a' < 59 ∨ 100 < a' → A.1 a' = B.1 a' := fun a' g => (h a' g).1
  refine ⟨?_, by rw [newC_2, newC_2]; exact (h a ha).2⟩
  rw [newC_row, newC_row, hr (oLy l) (by unfold oLy; omega), hr (oLy l + 4) (by unfold oLy; omega), hr (oLy l + 3) (by unfold oLy; omega), hr (oLy l + 2) (by unfold oLy; omega), hr (oLy l + 1) (by unfold oLy; omega), hr 14 (by omega), hr a ha]
theorem eqM_newC (A : oM) (l c : Nat) (s n b e : Int32) : eqM (newC A l c s n b e) A := by
  intro a h1 h2
  refine ⟨?_, by rw [newC_2]⟩
  have lg : 100 < oLy l := by unfold oLy; omega
  rw [newC_row, if_neg (by omega), if_neg (by omega), if_neg (by omega), if_neg (by omega), if_neg (by omega), if_neg (by omega)]
theorem eqM_new {A B : oM} (h : eqM A B) (l c : Nat) (s n b e : Int32) : eqM (newM A l c s n b e) (newM B l c s n b e) := by
  intro a h1 h2
  have hr : ∀ a', 59 ≤ a' → a' ≤ 100 → A.1 a' = B.1 a' := fun a' g1 g2 => (h a' g1 g2).1
  refine ⟨?_, by rw [newM_2, newM_2]; exact (h a h1 h2).2⟩
  rw [newM_row, newM_row, hr 77 (by omega) (by omega), hr 78 (by omega) (by omega), hr 79 (by omega) (by omega), hr 76 (by omega) (by omega), hr 75 (by omega) (by omega), hr 80 (by omega) (by omega), hr a h1 h2]
theorem eqC_newM (A : oM) (l c : Nat) (s n b e : Int32) : eqC (newM A l c s n b e) A := by
  intro a h1
  refine ⟨?_, by rw [newM_2]⟩
  rw [newM_row, if_neg (by omega), if_neg (by omega), if_neg (by omega), if_neg (by omega), if_neg (by omega), if_neg (by omega)]
theorem enP_cong {w g k : Int32} {o o' : Int32 → Int32 → Int32} {E s n b : Int32} (h : 0 ≤ n.toInt → n.toInt < w.toInt → o n E = o' n E) : enP w g k o E s n b = enP w g k o' E s n b := by
  unfold enP
  by_cases c : (0 ≤ b.toInt ∧ b.toInt ≤ 2) ∧ 0 ≤ n.toInt ∧ n.toInt < w.toInt
  · rw [if_pos c, if_pos c, h c.2.1 c.2.2]
  · rw [if_neg c, if_neg c]
theorem pt_step {K : oK} {M : oM} (h : oInv K M) (N : Nat) {l : Nat} (hl : (l : Int) < (M.1 0 11).toInt) (s n b : Int32) : ∃ r Mf, oInv K Mf ∧ Mf.1 0 11 = M.1 0 11 ∧ (∀ a, 46 ≤ a → a ≤ 58 → Mf.1 a = M.1 a) ∧ Mf.1 97 = M.1 97 ∧ Mf.2 = M.2 ∧ (r.toInt < 0 ∨ 0 < r.toInt) ∧
    (∀ Mc, eqC Mc M → ∃ Mc', f_X11_addPart N K (oLy l) s n b Mc = some (r, Mc') ∧ eqC Mc' Mf ∧ eqM Mc' Mc) ∧ (∀ Mm, eqM Mm M → ∃ Mm', f_X12_part N K (nI l) s n b Mm = some (r, Mm') ∧ eqM Mm' Mf ∧ eqC Mm' Mm) := by
  obtain ⟨hSR, hg, hst, hge, hta, hlo, hth, hac, hly, hsh⟩ := id h
  obtain ⟨⟨e20, k0, k1⟩, hK, l1, l2⟩ := id hly
  have hy := (l1 l hl).2
  obtain ⟨⟨y0, y1, y2, y3⟩, ⟨y4, y5, y6⟩, ⟨y7, y8, y9⟩, y10, y11⟩ := id hy
  obtain ⟨⟨g1, g2, g3⟩, ⟨g4, g5, g6⟩, g7, g8⟩ := id hg
  obtain ⟨⟨q1, q2, q3⟩, q4, -⟩ := id hge
  have hc : M.1 (oLy l) 7 = nI (M.1 (oLy l) 7).toInt.toNat := oNI (by omega)
  generalize hcc : (M.1 (oLy l) 7).toInt.toNat = c at hc
  have ec : (M.1 (oLy l) 7).toInt = c := by omega
  have c24 : c ≤ 24 := by omega
  have hp := pt_k hy (k := c) (by omega)
  have lg : 100 < oLy l := by unfold oLy; omega
  have hE75 : M.1 75 l = prevP M l c := by
    rw [y10]
    unfold prevP
    by_cases z : c = 0
    · rw [if_pos (by omega), if_pos z]
    · rw [if_neg (by omega), if_neg z, hcc]
  -- the class, from what is like M for it
  have cl : ∀ Mc, eqC Mc M → f_X11_addPart N K (oLy l) s n b Mc = if 0 ≤ (enP (M.1 6 6) (M.1 11 6) (M.1 (oLy l) 1) (othP M 7 8) (prevP M l c) s n b).toInt then (if s = 0 ∧ ¬ M.1 14 n.toNatClampNeg = 0 then some (-5, Mc) else if c < 24 then some (nI (c + 1), newC Mc l c s n b (enP (M.1 6 6) (M.1 11 6) (M.1 (oLy l) 1) (othP M 7 8) (prevP M l c) s n b)) else some (-3, Mc)) else some (-1, Mc) := by
    intro Mc hM
    have r : ∀ a, a < 59 ∨ 100 < a → Mc.1 a = M.1 a := fun a g => (hM a g).1
    have rp : prevP Mc l c = prevP M l c := by unfold prevP; rw [r _ (Or.inr lg), r (oLy l + 4) (by omega)]
    have ro : othP Mc 7 8 = othP M 7 8 := by unfold othP; rw [r 7 (by omega), r 8 (by omega)]
    rw [c_part (by rw [r _ (Or.inr lg)]; exact hc) c24 (by rw [r 6 (by omega)]; omega) (by rw [r 11 (by omega)]; omega), rp, ro, r 6 (by omega), r 11 (by omega), r 14 (by omega), r _ (Or.inr lg)]
  -- the reference, likewise
  have hen : enP (M.1 59 7) (M.1 59 11) (M.1 73 l) (othP M 64 65) (M.1 75 l) s n b = enP (M.1 6 6) (M.1 11 6) (M.1 (oLy l) 1) (othP M 7 8) (prevP M l c) s n b := by
    rw [g4, q1, y1, hE75]
    refine enP_cong (fun n0 n1 => ?_)
    have w := g7 n.toNatClampNeg (by rw [oTnn]; omega)
    unfold othP
    rw [w.1, w.2.1]
  have h80 : s = 0 → 0 ≤ (enP (M.1 6 6) (M.1 11 6) (M.1 (oLy l) 1) (othP M 7 8) (prevP M l c) s n b).toInt → M.1 80 n.toNatClampNeg = M.1 14 n.toNatClampNeg := by
    intro s0 he
    unfold enP at he
    rw [s0, if_neg (by decide), if_pos rfl] at he
    by_cases z : 0 ≤ n.toInt ∧ n.toInt < (M.1 11 6).toInt
    · exact (q4 n.toNatClampNeg (by rw [oTnn]; omega)).2.2
    · rw [if_neg z, tl_m1] at he
      omega
  have ml : ∀ Mm, eqM Mm M → f_X12_part N K (nI l) s n b Mm = if 0 ≤ (enP (M.1 6 6) (M.1 11 6) (M.1 (oLy l) 1) (othP M 7 8) (prevP M l c) s n b).toInt then (if s = 0 ∧ ¬ M.1 14 n.toNatClampNeg = 0 then some (-5, Mm) else if c < 24 then some (nI (c + 1), newM Mm l c s n b (enP (M.1 6 6) (M.1 11 6) (M.1 (oLy l) 1) (othP M 7 8) (prevP M l c) s n b)) else some (-3, Mm)) else some (-1, Mm) := by
    intro Mm hM
    have r : ∀ a, 59 ≤ a → a ≤ 100 → Mm.1 a = M.1 a := fun a g g' => (hM a g g').1
    have ro : othP Mm 64 65 = othP M 64 65 := by unfold othP; rw [r 64 (by omega) (by omega), r 65 (by omega) (by omega)]
    have r59 := r 59 (by omega) (by omega)
    rw [m_part (c := c) (by rw [r59, e20]; exact hl) (by rw [r59, e20]; exact k1) (by rw [r 76 (by omega) (by omega), y7]; exact hc) c24 (by rw [r59, g4]; exact g5) (by rw [r59, g4]; exact g6) (by rw [r59, q1]; exact q2) (by rw [r59, q1]; exact q3) (by rw [r 75 (by omega) (by omega), hE75]; exact hp.1) (fun i hi => by
      rw [r59, g4] at hi
      have w := g7 i (by omega)
      have v := g8 i hi
      rw [r 64 (by omega) (by omega), r 65 (by omega) (by omega), w.1, w.2.1]
      exact ⟨v.1.1, v.2.1.1⟩), ro, r59, r 73 (by omega) (by omega), r 75 (by omega) (by omega), r 80 (by omega) (by omega), hen]
    by_cases he : 0 ≤ (enP (M.1 6 6) (M.1 11 6) (M.1 (oLy l) 1) (othP M 7 8) (prevP M l c) s n b).toInt
    · rw [if_pos he, if_pos he]
      by_cases s0 : s = 0
      · rw [h80 s0 he]
      · rw [if_neg (fun z => s0 z.1), if_neg (show ¬ (s = 0 ∧ ¬ M.1 14 n.toNatClampNeg = 0) from fun z => s0 z.1)]
    · rw [if_neg he, if_neg he]
  by_cases he : 0 ≤ (enP (M.1 6 6) (M.1 11 6) (M.1 (oLy l) 1) (othP M 7 8) (prevP M l c) s n b).toInt
  · by_cases hs : s = 0 ∧ ¬ M.1 14 n.toNatClampNeg = 0
    · refine ⟨-5, M, h, rfl, fun _ _ _ => rfl, rfl, rfl, Or.inl (by decide), fun Mc hM => ⟨Mc, ?_, hM, .rf _⟩, fun Mm hM => ⟨Mm, ?_, hM, .rf _⟩⟩
      · rw [cl Mc hM, if_pos he, if_pos hs]
      · rw [ml Mm hM, if_pos he, if_pos hs]
    · by_cases c2 : c < 24
      · have hiv := part_inv h hl hc c2 rfl he
        have e1 : (nI (c + 1)).toInt = ((c + 1 : Nat) : Int) := nI_toInt (by omega)
        generalize enP (M.1 6 6) (M.1 11 6) (M.1 (oLy l) 1) (othP M 7 8) (prevP M l c) s n b = e at *
        have hr : ∀ a, a ≠ 14 → a < 75 → (newM (newC M l c s n b e) l c s n b e).1 a = M.1 a := fun a g1 g2 => by
          rw [newM_row, if_neg (by omega), if_neg (by omega), if_neg (by omega), if_neg (by omega), if_neg (by omega), if_neg (by omega), newC_row, if_neg (by omega), if_neg (by omega), if_neg (by omega), if_neg (by omega), if_neg (by omega), if_neg (by omega)]
        refine ⟨nI (c + 1), _, hiv, by rw [hr 0 (by omega) (by omega)], fun a g1 g2 => hr a (by omega) (by omega), ?_, by rw [newM_2, newC_2], Or.inr (by omega), fun Mc hM => ⟨newC Mc l c s n b e, ?_, ?_, eqM_newC _ _ _ _ _ _ _⟩, fun Mm hM => ⟨newM Mm l c s n b e, ?_, ?_, eqC_newM _ _ _ _ _ _ _⟩⟩
        · rw [newM_row, if_neg (by omega), if_neg (by omega), if_neg (by omega), if_neg (by omega), if_neg (by omega), if_neg (by omega), newC_row, if_neg (by omega), if_neg (by omega), if_neg (by omega), if_neg (by omega), if_neg (by omega), if_neg (by omega)]
        · rw [cl Mc hM, if_pos he, if_neg hs, if_pos c2]
        · exact (eqC_new hM l c s n b e).tr (eqC_newM _ l c s n b e).sy
        · rw [ml Mm hM, if_pos he, if_neg hs, if_pos c2]
        · exact eqM_new (hM.tr (eqM_newC M l c s n b e).sy) l c s n b e
      · refine ⟨-3, M, h, rfl, fun _ _ _ => rfl, rfl, rfl, Or.inl (by decide), fun Mc hM => ⟨Mc, ?_, hM, .rf _⟩, fun Mm hM => ⟨Mm, ?_, hM, .rf _⟩⟩
        · rw [cl Mc hM, if_pos he, if_neg hs, if_neg c2]
        · rw [ml Mm hM, if_pos he, if_neg hs, if_neg c2]
  · refine ⟨-1, M, h, rfl, fun _ _ _ => rfl, rfl, rfl, Or.inl (by decide), fun Mc hM => ⟨Mc, ?_, hM, .rf _⟩, fun Mm hM => ⟨Mm, ?_, hM, .rf _⟩⟩
    · rw [cl Mc hM, if_neg he]
    · rw [ml Mm hM, if_neg he]
theorem ag_part {K : oK} {M : oM} (h : oInv K M) (N : Nat) (a s n b : Int32) : oAg K M (f_X11_part N K a s n b M) (f_X12_part N K a s n b) := by
  have hl := h.2.2.2.2.2.2.2.2.1
  have c1 := hl.1.2.2
  unfold f_X11_part
  rw [lyAt hl, oB2_p]
  by_cases c : 0 ≤ a.toInt ∧ a.toInt < (M.1 0 11).toInt
  · have na : a.toNatClampNeg = a.toInt.toNat := rfl
    rw [if_pos c, oCs_s]
    generalize hq : a.toNatClampNeg = l at *
    have la : a = nI l := oNI (by omega)
    obtain ⟨r, Mf, f1, -, -, -, -, -, f2, f3⟩ := pt_step h N (l := l) (by omega) s n b
    obtain ⟨M1, a1, a2, a3⟩ := f2 M (.rf M)
    obtain ⟨M2, b1, b2, b3⟩ := f3 M1 a3
    have e2 : M2 = Mf := eq_CM (b3.tr a2) b2
    rw [a1, oB2_p]
    refine oAg.mk M2 rfl ?_ (by rw [e2]; exact f1)
    rw [la]
    exact b1
  · rw [if_neg c, oCs_n]
    refine oAg.mk M rfl ?_ h
    unfold f_X12_part
    rw [l12 h, oB2_p, decide_eq_false c, cond_false]
theorem pt_loop {K : oK} {N l d : Nat} (hd : d < 6) {p i : Int32} (hp : 0 ≤ p.toInt ∧ p.toInt ≤ 20) (hi : 0 ≤ i.toInt) {dI : Int32} (hdI : dI = nI d) : ∀ (f k : Nat) (M : oM), oInv K M → (l : Int) < (M.1 0 11).toInt → M.1 (47 + 2 * d) 1 = 2 → (k : Int) ≤ p.toInt → i.toInt + 3 * k ≤ 63 ∨ k = 0 → p.toInt < k + f → ∃ r Mf, oInv K Mf ∧
    (∀ Mc, eqC Mc M → ∃ Mc', f_X11_addParts_6 N K (f + 1) (oLy l) (47 + 2 * d) p (nI k) (i + 3 * nI k) Mc = some (r, Mc') ∧ eqC Mc' Mf ∧ eqM Mc' Mc) ∧ (∀ Mm, eqM Mm M → ∃ Mm', f_X12_parts_78 N K (f + 1) (nI l) dI i p (nI k) 1 Mm = some (r, Mm') ∧ eqM Mm' Mf ∧ eqC Mm' Mm) := by
  intro f
  induction f with
  | zero => intro k M h hl h1 h2 h3 h4; omega
  | succ f ih =>
    intro k M h hl h1 h2 h3 h4
    have hsh := h.2.2.2.2.2.2.2.2.2
    have ek : (nI k).toInt = k := nI_toInt (by omega)
    have e3k : (3 * nI k).toInt = 3 * k := by rw [oMul (by rw [tl_3, ek]; omega) (by rw [tl_3, ek]; omega), tl_3, ek]
    obtain ⟨hi0, hi1⟩ := oRng i
    obtain ⟨g2, g3, g4, g5, ⟨g6, g7⟩, g8⟩ : K.2.2.2 (47 + 2 * d) 2 = none ∧ (0 ≤ (M.1 (47 + 2 * d) 3).toInt ∧ (M.1 (47 + 2 * d) 3).toInt ≤ 4) ∧ M.1 97 d = M.1 (47 + 2 * d) 3 + 20 ∧ M.1 98 d = M.1 (47 + 2 * d) 4 ∧ (0 ≤ (M.1 (47 + 2 * d) 4).toInt ∧ (M.1 (47 + 2 * d) 4).toInt ≤ 60) ∧ ∀ i : Nat, (i : Int) < (M.1 (47 + 2 * d) 4).toInt → M.2 99 (60 * d + i) = M.2 (48 + 2 * d) i := by
      rcases hsh d hd with ⟨z, -⟩ | ⟨z, -⟩ | ⟨z, w⟩
      · rw [h1] at z; exact absurd z (by decide)
      · rw [h1] at z; exact absurd z (by decide)
      · exact w
    have ed : dI.toInt = d := by rw [hdI]; exact nI_toInt (by omega)
    have nd : dI.toNatClampNeg = d := by rw [hdI]; exact nI_n (by omega)
    have hxd : ∀ A : Option (Int32 × oM), oIx dI 6 A = A := fun A => oIx_p (by omega) (by omega)
    -- the two, one round
    have cl : ∀ Mc, f_X11_addParts_6 N K (f + 1 + 1) (oLy l) (47 + 2 * d) p (nI k) (i + 3 * nI k) Mc = (if p ≤ nI k then some (nI k, Mc) else (if i + 3 * nI k < 0 then some (nI k, Mc) else (if Mc.1 (47 + 2 * d) 4 - 3 < i + 3 * nI k then some (nI k, Mc) else oIx (i + 3 * nI k) 60 (oIx (i + 3 * nI k + 1) 60 (oIx (i + 3 * nI k + 2) 60 (oB2 (f_X11_addPart N K (oLy l) (Mc.2 (47 + 2 * d + 1) (i + 3 * nI k).toNatClampNeg).toInt32 (Mc.2 (47 + 2 * d + 1) (i + 3 * nI k + 1).toNatClampNeg).toInt32 (Mc.2 (47 + 2 * d + 1) (i + 3 * nI k + 2).toNatClampNeg).toInt32 Mc) (fun v7 M8 => if 0 ≤ v7 then f_X11_addParts_6 N K (f + 1) (oLy l) (47 + 2 * d) p (nI k + 1) (i + 3 * nI k + 3) M8 else some (nI k, M8)))))))) := fun Mc => rfl
    by_cases cp : p.toInt ≤ k
    · refine ⟨nI k, M, h, fun Mc hM => ⟨Mc, ?_, hM, .rf _⟩, fun Mm hM => ⟨Mm, ?_, hM, .rf _⟩⟩
      · rw [cl, if_pos (by rw [oLeI, ek]; exact cp)]
      · rw [f_X12_parts_78]
        dsimp only
        rw [if_neg (by decide), if_pos (by rw [oLeI, ek]; exact cp)]
    · have hcp : ¬ p ≤ nI k := by rw [oLeI, ek]; exact cp
      by_cases big : (M.1 (47 + 2 * d) 4).toInt - 3 - 3 * k < i.toInt
      · -- the row ends
        refine ⟨nI k, M, h, fun Mc hM => ⟨Mc, ?_, hM, .rf _⟩, fun Mm hM => ⟨Mm, ?_, hM, .rf _⟩⟩
        · have e4 : (M.1 (47 + 2 * d) 4 - 3).toInt = (M.1 (47 + 2 * d) 4).toInt - 3 := by rw [oSub (by rw [tl_3]; omega) (by rw [tl_3]; omega), tl_3]
          have e5 : (i + 3 * nI k).toInt = i.toInt + 3 * k := by rw [oAdd (by rw [e3k]; omega) (by rw [e3k]; omega), e3k]
          rw [cl, if_neg hcp, if_neg (by rw [oLtI, tl_0, e5]; omega), (hM _ (by omega)).1, if_pos (by rw [oLtI, e4, e5]; omega)]
        · have e4 : (M.1 (47 + 2 * d) 4 - 3).toInt = (M.1 (47 + 2 * d) 4).toInt - 3 := by rw [oSub (by rw [tl_3]; omega) (by rw [tl_3]; omega), tl_3]
          have e5 : (M.1 (47 + 2 * d) 4 - 3 - 3 * nI k).toInt = (M.1 (47 + 2 * d) 4).toInt - 3 - 3 * k := by rw [oSub (by rw [e4, e3k]; omega) (by rw [e4, e3k]; omega), e4, e3k]
          have r98 : Mm.1 98 d = M.1 (47 + 2 * d) 4 := by rw [(hM 98 (by omega) (by omega)).1, g5]
          rw [f_X12_parts_78]
          dsimp only
          unfold f_X12_parts_160 f_X12_parts_161 f_X12_parts_175
          rw [if_neg (by decide), if_neg hcp, hxd, nd, r98, if_pos (by rw [oLtI, e5]; exact big), if_pos rfl]
          cases f with
          | zero => omega
          | succ f =>
            rw [f_X12_parts_78]
            dsimp only
            rw [if_pos rfl, Int32.add_zero]
      · have h63 : i.toInt + 3 * k ≤ 57 := by omega
        have e4 : (M.1 (47 + 2 * d) 4 - 3).toInt = (M.1 (47 + 2 * d) 4).toInt - 3 := by rw [oSub (by rw [tl_3]; omega) (by rw [tl_3]; omega), tl_3]
        have e5 : (i + 3 * nI k).toInt = i.toInt + 3 * k := by rw [oAdd (by rw [e3k]; omega) (by rw [e3k]; omega), e3k]
        have e51 : (i + 3 * nI k + 1).toInt = i.toInt + 3 * k + 1 := by rw [add1 (by omega), e5]
        have e52 : (i + 3 * nI k + 2).toInt = i.toInt + 3 * k + 2 := by rw [oAdd (by rw [e5, tl_2]; omega) (by rw [e5, tl_2]; omega), e5, tl_2]
        have e53 : (i + 3 * nI k + 3) = i + 3 * nI (k + 1) := by
          rw [oEqI, oAdd (by rw [e5, tl_3]; omega) (by rw [e5, tl_3]; omega), e5, tl_3]
          have ek1 : (nI (k + 1)).toInt = ((k + 1 : Nat) : Int) := nI_toInt (by omega)
          have m3 : (3 * nI (k + 1)).toInt = 3 * ((k + 1 : Nat) : Int) := by rw [oMul (by rw [tl_3, ek1]; omega) (by rw [tl_3, ek1]; omega), tl_3, ek1]
          rw [oAdd (by rw [m3]; omega) (by rw [m3]; omega), m3]
          omega
        obtain ⟨q, hq⟩ : ∃ q : Nat, i.toInt + 3 * k = q := ⟨(i.toInt + 3 * k).toNat, by omega⟩
        have n5 : (i + 3 * nI k).toNatClampNeg = q := by rw [oTnn, e5]; omega
        have n51 : (i + 3 * nI k + 1).toNatClampNeg = q + 1 := by rw [oTnn, e51]; omega
        have n52 : (i + 3 * nI k + 2).toNatClampNeg = q + 2 := by rw [oTnn, e52]; omega
        obtain ⟨r, Mf, f1, f0, fs, f97, fL, fr, f2, f3⟩ := pt_step h N hl (M.2 (48 + 2 * d) q).toInt32 (M.2 (48 + 2 * d) (q + 1)).toInt32 (M.2 (48 + 2 * d) (q + 2)).toInt32
        -- the class's round
        have clr : ∀ Mc, eqC Mc M → ∃ Mc', f_X11_addPart N K (oLy l) (M.2 (48 + 2 * d) q).toInt32 (M.2 (48 + 2 * d) (q + 1)).toInt32 (M.2 (48 + 2 * d) (q + 2)).toInt32 Mc = some (r, Mc') ∧ eqC Mc' Mf ∧ eqM Mc' Mc ∧ f_X11_addParts_6 N K (f + 1 + 1) (oLy l) (47 + 2 * d) p (nI k) (i + 3 * nI k) Mc = if 0 ≤ r then f_X11_addParts_6 N K (f + 1) (oLy l) (47 + 2 * d) p (nI (k + 1)) (i + 3 * nI (k + 1)) Mc' else some (nI k, Mc') := by
          intro Mc hM
          obtain ⟨Mc', a1, a2, a3⟩ := f2 Mc hM
          refine ⟨Mc', a1, a2, a3, ?_⟩
          have rL : Mc.2 (47 + 2 * d + 1) = M.2 (48 + 2 * d) := by
            rw [show 47 + 2 * d + 1 = 48 + 2 * d by omega]
            exact (hM _ (by omega)).2
          rw [cl, if_neg hcp, if_neg (by rw [oLtI, tl_0, e5]; omega), (hM _ (by omega)).1, if_neg (by rw [oLtI, e4, e5]; omega), oIx_p (by omega) (by omega), oIx_p (by omega) (by omega), oIx_p (by omega) (by omega), rL, n5, n51, n52, a1, oB2_p, nI_1, e53]
        -- the reference's
        have mlr : ∀ Mm, eqM Mm M → ∃ Mm', eqM Mm' Mf ∧ eqC Mm' Mm ∧ f_X12_parts_78 N K (f + 1 + 1) (nI l) dI i p (nI k) 1 Mm = if r ≤ 0 then f_X12_parts_78 N K (f + 1) (nI l) dI i p (nI k + 0) 0 Mm' else f_X12_parts_78 N K (f + 1) (nI l) dI i p (nI (k + 1)) 1 Mm' := by
          intro Mm hM
          obtain ⟨Mm', a1, a2, a3⟩ := f3 Mm hM
          refine ⟨Mm', a2, a3, ?_⟩
          have e5' : (M.1 (47 + 2 * d) 4 - 3 - 3 * nI k).toInt = (M.1 (47 + 2 * d) 4).toInt - 3 - 3 * k := by rw [oSub (by rw [e4, e3k]; omega) (by rw [e4, e3k]; omega), e4, e3k]
          have r98 : Mm.1 98 d = M.1 (47 + 2 * d) 4 := by rw [(hM 98 (by omega) (by omega)).1, g5]
          have m60 : (60 * dI).toInt = 60 * d := by rw [oMul (by rw [tl_60]; omega) (by rw [tl_60]; omega), tl_60, ed]
          have a60 : (60 * dI + i).toInt = 60 * d + i.toInt := by rw [oAdd (by omega) (by omega), m60]
          have x0 : (60 * dI + i + 3 * nI k).toInt = 60 * d + q := by rw [oAdd (by omega) (by omega), a60, e3k]; omega
          have x1 : (60 * dI + i + 3 * nI k + 1).toInt = 60 * d + q + 1 := by rw [add1 (by omega), x0]
          have x2 : (60 * dI + i + 3 * nI k + 2).toInt = 60 * d + q + 2 := by rw [oAdd (by rw [x0, tl_2]; omega) (by rw [x0, tl_2]; omega), x0, tl_2]
          have y0 : (60 * dI + i + 3 * nI k).toNatClampNeg = 60 * d + q := by rw [oTnn, x0]; omega
          have y1 : (60 * dI + i + 3 * nI k + 1).toNatClampNeg = 60 * d + (q + 1) := by rw [oTnn, x1]; omega
          have y2 : (60 * dI + i + 3 * nI k + 2).toNatClampNeg = 60 * d + (q + 2) := by rw [oTnn, x2]; omega
          have r99 : Mm.2 99 = M.2 99 := (hM 99 (by omega) (by omega)).2
          rw [f_X12_parts_78]
          dsimp only
          unfold f_X12_parts_160 f_X12_parts_161 f_X12_parts_175
          rw [if_neg (by decide), if_neg hcp, hxd, nd, r98, if_neg (by rw [oLtI, e5']; exact big), oIx_p (by omega) (by omega), oIx_p (by omega) (by omega), oIx_p (by omega) (by omega), y0, y1, y2, r99, g8 _ (by omega), g8 _ (by omega), g8 _ (by omega), a1, oB2_p, if_pos rfl, if_neg (show ¬ (1 : Int32) = 0 by decide), nI_1]
        by_cases cr : 0 < r.toInt
        · obtain ⟨r', M', b1, b2, b3⟩ := ih (k + 1) Mf f1 (by rw [f0]; exact hl) (by rw [fs _ (by omega) (by omega)]; exact h1) (by omega) (Or.inl (by omega)) (by omega)
          refine ⟨r', M', b1, fun Mc hM => ?_, fun Mm hM => ?_⟩
          · obtain ⟨Mc', -, a2, a3, a4⟩ := clr Mc hM
            obtain ⟨Mc2, d1, d2, d3⟩ := b2 Mc' a2
            exact ⟨Mc2, by rw [a4, if_pos (by rw [oLeI, tl_0]; omega), d1], d2, d3.tr a3⟩
          · obtain ⟨Mm', a2, a3, a4⟩ := mlr Mm hM
            obtain ⟨Mm2, d1, d2, d3⟩ := b3 Mm' a2
            exact ⟨Mm2, by rw [a4, if_neg (by rw [oLeI, tl_0]; omega), d1], d2, d3.tr a3⟩
        · refine ⟨nI k, Mf, f1, fun Mc hM => ?_, fun Mm hM => ?_⟩
          · obtain ⟨Mc', -, a2, a3, a4⟩ := clr Mc hM
            exact ⟨Mc', by rw [a4, if_neg (by rw [oLeI, tl_0]; omega)], a2, a3⟩
          · obtain ⟨Mm', a2, a3, a4⟩ := mlr Mm hM
            refine ⟨Mm', ?_, a2, a3⟩
            rw [a4, if_pos (by rw [oLeI, tl_0]; omega), f_X12_parts_78]
            dsimp only
            rw [if_pos rfl, Int32.add_zero]
