/-! what stays: rows and fields that a call may change -/
/-- but for the rows R, and the fields F of the reference's object, all ints are as they were -/
def oFr (R F : List Nat) (M M' : oM) : Prop := (∀ a : Nat, a ≠ 59 → a ∉ R → M'.1 a = M.1 a) ∧ (∀ j : Nat, j ∉ F → M'.1 59 j = M.1 59 j) ∧ M'.2 = M.2
theorem oFr.rf {R F : List Nat} {M : oM} : oFr R F M M := ⟨fun _ _ _ => rfl, fun _ _ => rfl, rfl⟩
theorem oFr.tr {R F : List Nat} {M M1 M2 : oM} (h : oFr R F M M1) (h2 : oFr R F M1 M2) : oFr R F M M2 := ⟨fun a g1 g2 => (h2.1 a g1 g2).trans (h.1 a g1 g2), fun j g => (h2.2.1 j g).trans (h.2.1 j g), h2.2.2.trans h.2.2⟩
theorem oFr.up {R F : List Nat} {M M' : oM} {a k : Nat} {x : Int32} (ha : a ≠ 59 ∧ a ∈ R) (h : oFr R F M M') : oFr R F M (oUp M' a k x) := by
  refine ⟨fun b g1 g2 => ?_, fun j g => ?_, h.2.2⟩
  · have hne : b ≠ a := fun q => g2 (by rw [q]; exact ha.2)
    rw [← h.1 b g1 g2]
    unfold oUp
    simp [hne]
  · rw [← h.2.1 j g, oUp_at, if_neg (fun q => ha.1 q.1.symm)]
theorem oFr.up59 {R F : List Nat} {M M' : oM} {k : Nat} {x : Int32} (ha : k ∈ F) (h : oFr R F M M') : oFr R F M (oUp M' 59 k x) := by
  refine ⟨fun b g1 g2 => ?_, fun j g => ?_, h.2.2⟩
  · rw [← h.1 b g1 g2]
    unfold oUp
    simp [g1]
  · rw [← h.2.1 j g, oUp_at, if_neg (fun q => g (by rw [q.2]; exact ha))]
theorem oFr.row {R F : List Nat} {M M' : oM} {a : Nat} {f : Nat → Int32} (ha : a ≠ 59 ∧ a ∈ R) (h : oFr R F M M') : oFr R F M (oRow M' a f) := by
  refine ⟨fun b g1 g2 => ?_, fun j g => ?_, h.2.2⟩
  · have hne : b ≠ a := fun q => g2 (by rw [q]; exact ha.2)
    rw [← h.1 b g1 g2]
    unfold oRow
    simp [hne]
  · rw [← h.2.1 j g]
    unfold oRow
    simp [Ne.symm ha.1]
theorem oFr.weak {R F R' F' : List Nat} {M M' : oM} (h : oFr R F M M') (hR : ∀ a ∈ R, a ∈ R') (hF : ∀ a ∈ F, a ∈ F') : oFr R' F' M M' := ⟨fun a g1 g2 => h.1 a g1 (fun q => g2 (hR a q)), fun j g => h.2.1 j (fun q => g (hF j q)), h.2.2⟩
theorem iGnd.fr {R F : List Nat} {M M' : oM} (h : iGnd M) (f : oFr R F M M') (hR : ∀ a ∈ [6, 7, 8, 9, 64, 65, 66], a ∉ R) (hF : ∀ j ∈ [6, 7], j ∉ F) : iGnd M' := by
  unfold iGnd
  rw [f.1 6 (by decide) (hR 6 (by decide)), f.1 7 (by decide) (hR 7 (by decide)), f.1 8 (by decide) (hR 8 (by decide)), f.1 9 (by decide) (hR 9 (by decide)), f.1 64 (by decide) (hR 64 (by decide)), f.1 65 (by decide) (hR 65 (by decide)), f.1 66 (by decide) (hR 66 (by decide)), f.2.1 6 (hF 6 (by decide)), f.2.1 7 (hF 7 (by decide))]
  exact h
theorem iSet.fr {R F : List Nat} {M M' : oM} (h : iSet M) (f : oFr R F M M') (hR : ∀ a ∈ [1, 2, 3, 4, 5, 60, 61, 62, 63], a ∉ R) (hF : ∀ j ∈ [4, 5], j ∉ F) : iSet M' := by
  unfold iSet
  rw [f.1 1 (by decide) (hR 1 (by decide)), f.1 2 (by decide) (hR 2 (by decide)), f.1 3 (by decide) (hR 3 (by decide)), f.1 4 (by decide) (hR 4 (by decide)), f.1 5 (by decide) (hR 5 (by decide)), f.1 60 (by decide) (hR 60 (by decide)), f.1 61 (by decide) (hR 61 (by decide)), f.1 62 (by decide) (hR 62 (by decide)), f.1 63 (by decide) (hR 63 (by decide)), f.2.1 4 (hF 4 (by decide)), f.2.1 5 (hF 5 (by decide))]
  exact h
theorem iGear.fr {R F : List Nat} {M M' : oM} (h : iGear M) (f : oFr R F M M') (hR : ∀ a ∈ [11, 12, 13, 14, 15, 16, 67, 68, 70, 71, 80], a ∉ R) (hF : ∀ j ∈ [11], j ∉ F) : iGear M' := by
  unfold iGear
  rw [f.1 11 (by decide) (hR 11 (by decide)), f.1 12 (by decide) (hR 12 (by decide)), f.1 13 (by decide) (hR 13 (by decide)), f.1 14 (by decide) (hR 14 (by decide)), f.1 15 (by decide) (hR 15 (by decide)), f.1 16 (by decide) (hR 16 (by decide)), f.1 67 (by decide) (hR 67 (by decide)), f.1 68 (by decide) (hR 68 (by decide)), f.1 70 (by decide) (hR 70 (by decide)), f.1 71 (by decide) (hR 71 (by decide)), f.1 80 (by decide) (hR 80 (by decide)), f.2.1 11 (hF 11 (by decide))]
  exact h
theorem iTape.fr {R F : List Nat} {M M' : oM} (h : iTape M) (f : oFr R F M M') (hR : ∀ a ∈ [17, 18, 69], a ∉ R) (hF : ∀ j ∈ [15], j ∉ F) : iTape M' := by
  unfold iTape
  rw [f.1 17 (by decide) (hR 17 (by decide)), f.1 18 (by decide) (hR 18 (by decide)), f.1 69 (by decide) (hR 69 (by decide)), f.2.1 15 (hF 15 (by decide))]
  exact h
theorem iLoad.fr {R F : List Nat} {M M' : oM} (h : iLoad M) (f : oFr R F M M') (hR : ∀ a ∈ [37, 38, 39, 91], a ∉ R) (hF : ∀ j ∈ [49], j ∉ F) : iLoad M' := by
  unfold iLoad
  rw [f.1 37 (by decide) (hR 37 (by decide)), f.1 38 (by decide) (hR 38 (by decide)), f.1 39 (by decide) (hR 39 (by decide)), f.1 91 (by decide) (hR 91 (by decide)), f.2.1 49 (hF 49 (by decide))]
  exact h
theorem iThing.fr {R F : List Nat} {M M' : oM} (h : iThing M) (f : oFr R F M M') (hR : ∀ a ∈ [41, 42, 94, 95], a ∉ R) (h40 : M'.1 40 3 = M.1 40 3) (hF : ∀ j ∈ [55], j ∉ F) : iThing M' := by
  unfold iThing
  rw [h40, f.1 41 (by decide) (hR 41 (by decide)), f.1 42 (by decide) (hR 42 (by decide)), f.1 94 (by decide) (hR 94 (by decide)), f.1 95 (by decide) (hR 95 (by decide)), f.2.1 55 (hF 55 (by decide))]
  exact h
theorem iAct.fr {R F : List Nat} {M M' : oM} (h : iAct M) (f : oFr R F M M') (hR : ∀ a ∈ [44, 45, 96], a ∉ R) (hF : ∀ j ∈ [59], j ∉ F) : iAct M' := by
  unfold iAct
  rw [f.1 44 (by decide) (hR 44 (by decide)), f.1 45 (by decide) (hR 45 (by decide)), f.1 96 (by decide) (hR 96 (by decide)), f.2.1 59 (hF 59 (by decide))]
  exact h
theorem iLay1.fr {M M' : oM} {l : Nat} (h : iLay1 M l) (h0 : M'.1 (oLy l) = M.1 (oLy l)) (h1 : M'.1 (oLy l + 1) = M.1 (oLy l + 1)) (h2 : M'.1 (oLy l + 2) = M.1 (oLy l + 2)) (h3 : M'.1 (oLy l + 3) = M.1 (oLy l + 3)) (h4 : M'.1 (oLy l + 4) = M.1 (oLy l + 4))
    (g6 : M'.1 6 5 = M.1 6 5 ∧ M'.1 6 6 = M.1 6 6) (g11 : M'.1 11 6 = M.1 11 6) (g7 : M'.1 7 = M.1 7) (g8 : M'.1 8 = M.1 8) (g73 : M'.1 73 l = M.1 73 l) (g74 : M'.1 74 l = M.1 74 l) (g75 : M'.1 75 l = M.1 75 l) (g76 : M'.1 76 l = M.1 76 l)
    (g77 : ∀ k, k < 24 → M'.1 77 (24 * l + k) = M.1 77 (24 * l + k)) (g78 : ∀ k, k < 24 → M'.1 78 (24 * l + k) = M.1 78 (24 * l + k)) (g79 : ∀ k, k < 24 → M'.1 79 (24 * l + k) = M.1 79 (24 * l + k)) : iLay1 M' l := by
  unfold iLay1 at h ⊢
  rw [h0, h1, h2, h3, h4, g6.1, g6.2, g11, g7, g8, g73, g74, g75, g76]
  refine ⟨h.1, h.2.1, h.2.2.1, h.2.2.2.1, fun k hk => ?_⟩
  have h24 : k < 24 := by have := h.2.2.1.2.2; omega
  rw [g77 k h24, g78 k h24, g79 k h24]
  exact h.2.2.2.2 k hk
theorem iLay.fr {R F : List Nat} {K : oK} {M M' : oM} (h : iLay K M) (f : oFr R F M M') (hR : ∀ a ∈ [0, 6, 11, 7, 8, 73, 74, 75, 76, 77, 78, 79], a ∉ R) (hR2 : ∀ a ∈ R, a < 101) (hF : ∀ j ∈ [20], j ∉ F) : iLay K M' := by
  have hb : ∀ a, 101 ≤ a → M'.1 a = M.1 a := fun a ha => f.1 a (by omega) (fun q => by have := hR2 a q; omega)
  unfold iLay at h ⊢
  rw [f.1 0 (by decide) (hR 0 (by decide)), f.2.1 20 (hF 20 (by decide)), f.1 76 (by decide) (hR 76 (by decide))]
  refine ⟨h.1, h.2.1, fun l hl => ⟨(h.2.2.1 l hl).1, ?_⟩, h.2.2.2⟩
  refine (h.2.2.1 l hl).2.fr (hb _ (by unfold oLy; omega)) (hb _ (by unfold oLy; omega)) (hb _ (by unfold oLy; omega)) (hb _ (by unfold oLy; omega)) (hb _ (by unfold oLy; omega)) ⟨?_, ?_⟩ ?_ ?_ ?_ ?_ ?_ ?_ ?_ ?_ ?_ ?_
  · rw [f.1 6 (by decide) (hR 6 (by decide))]
  · rw [f.1 6 (by decide) (hR 6 (by decide))]
  · rw [f.1 11 (by decide) (hR 11 (by decide))]
  · rw [f.1 7 (by decide) (hR 7 (by decide))]
  · rw [f.1 8 (by decide) (hR 8 (by decide))]
  · rw [f.1 73 (by decide) (hR 73 (by decide))]
  · rw [f.1 74 (by decide) (hR 74 (by decide))]
  · rw [f.1 75 (by decide) (hR 75 (by decide))]
  · rw [f.1 76 (by decide) (hR 76 (by decide))]
  · intro k _; rw [f.1 77 (by decide) (hR 77 (by decide))]
  · intro k _; rw [f.1 78 (by decide) (hR 78 (by decide))]
  · intro k _; rw [f.1 79 (by decide) (hR 79 (by decide))]
theorem iShelf.fr {R F : List Nat} {K : oK} {M M' : oM} (h : iShelf K M) (f : oFr R F M M') (hR : ∀ a ∈ R, a ≠ 0 ∧ a ≠ 97 ∧ a ≠ 98 ∧ ¬ (47 ≤ a ∧ a ≤ 58)) : iShelf K M' := by
  intro d hd
  have h1 := h d hd
  unfold iShelf1 at h1 ⊢
  rw [f.1 (47 + 2 * d) (by omega) (fun q => (hR _ q).2.2.2 (by omega)), f.1 97 (by decide) (fun q => (hR _ q).2.1 rfl), f.1 98 (by decide) (fun q => (hR _ q).2.2.1 rfl), f.1 0 (by decide) (fun q => (hR _ q).1 rfl), f.2.2]
  exact h1
/-- rows and fields that no call's state rests on -/
def rScr : List Nat := [10, 19, 21, 22, 23, 24, 25, 26, 27, 28, 29, 30, 31, 32, 33, 34, 35, 36, 43, 72, 81, 82, 83, 84, 85, 86, 87, 88, 89, 90, 92, 93]
def fScr : List Nat := [19, 29, 30, 31, 38, 39, 44, 45, 46, 47, 48, 52, 53, 60, 61]
/-- a call that asks alone -/
theorem oInv.scr {K : oK} {M M' : oM} (h : oInv K M) (f : oFr rScr fScr M M') : oInv K M' := by
  obtain ⟨hs, hg, hst, hge, ht, hlo, hth, hac, hl, hsh⟩ := h
  exact ⟨hs, hg.fr f (by decide) (by decide), hst.fr f (by decide) (by decide), hge.fr f (by decide) (by decide), ht.fr f (by decide) (by decide), hlo.fr f (by decide) (by decide), hth.fr f (by decide) (by rw [f.1 40 (by decide) (by decide)]) (by decide), hac.fr f (by decide) (by decide), hl.fr f (by decide) (by decide) (by decide), hsh.fr f (by decide)⟩
theorem oInv.load {K : oK} {M M' : oM} (h : oInv K M) (f : oFr [37, 38, 39, 91, 92] [49, 52, 53] M M') (hx : iLoad M') : oInv K M' := by
  obtain ⟨hs, hg, hst, hge, ht, hlo, hth, hac, hl, hsh⟩ := h
  exact ⟨hs, hg.fr f (by decide) (by decide), hst.fr f (by decide) (by decide), hge.fr f (by decide) (by decide), ht.fr f (by decide) (by decide), hx, hth.fr f (by decide) (by rw [f.1 40 (by decide) (by decide)]) (by decide), hac.fr f (by decide) (by decide), hl.fr f (by decide) (by decide) (by decide), hsh.fr f (by decide)⟩
theorem oInv.thing {K : oK} {M M' : oM} (h : oInv K M) (f : oFr [40, 41, 42, 43, 94, 95] [55] M M') (hx : iThing M') : oInv K M' := by
  obtain ⟨hs, hg, hst, hge, ht, hlo, hth, hac, hl, hsh⟩ := h
  exact ⟨hs, hg.fr f (by decide) (by decide), hst.fr f (by decide) (by decide), hge.fr f (by decide) (by decide), ht.fr f (by decide) (by decide), hlo.fr f (by decide) (by decide), hx, hac.fr f (by decide) (by decide), hl.fr f (by decide) (by decide) (by decide), hsh.fr f (by decide)⟩
theorem oInv.act {K : oK} {M M' : oM} (h : oInv K M) (f : oFr [44, 45, 96] [59, 60, 61] M M') (hx : iAct M') : oInv K M' := by
  obtain ⟨hs, hg, hst, hge, ht, hlo, hth, hac, hl, hsh⟩ := h
  exact ⟨hs, hg.fr f (by decide) (by decide), hst.fr f (by decide) (by decide), hge.fr f (by decide) (by decide), ht.fr f (by decide) (by decide), hlo.fr f (by decide) (by decide), hth.fr f (by decide) (by rw [f.1 40 (by decide) (by decide)]) (by decide), hx, hl.fr f (by decide) (by decide) (by decide), hsh.fr f (by decide)⟩
theorem oInv.tape {K : oK} {M M' : oM} (h : oInv K M) (f : oFr [17, 18, 19, 69, 72] [15, 19] M M') (hx : iTape M') : oInv K M' := by
  obtain ⟨hs, hg, hst, hge, ht, hlo, hth, hac, hl, hsh⟩ := h
  exact ⟨hs, hg.fr f (by decide) (by decide), hst.fr f (by decide) (by decide), hge.fr f (by decide) (by decide), hx, hlo.fr f (by decide) (by decide), hth.fr f (by decide) (by rw [f.1 40 (by decide) (by decide)]) (by decide), hac.fr f (by decide) (by decide), hl.fr f (by decide) (by decide) (by decide), hsh.fr f (by decide)⟩
theorem oInv.set {K : oK} {M M' : oM} (h : oInv K M) (f : oFr [1, 2, 3, 4, 5, 60, 61, 62, 63] [4, 5] M M') (hx : iSet M') : oInv K M' := by
  obtain ⟨hs, hg, hst, hge, ht, hlo, hth, hac, hl, hsh⟩ := h
  exact ⟨hs, hg.fr f (by decide) (by decide), hx, hge.fr f (by decide) (by decide), ht.fr f (by decide) (by decide), hlo.fr f (by decide) (by decide), hth.fr f (by decide) (by rw [f.1 40 (by decide) (by decide)]) (by decide), hac.fr f (by decide) (by decide), hl.fr f (by decide) (by decide) (by decide), hsh.fr f (by decide)⟩
