/-! arrays, new cells, tables, the script, copies -/
section ARR
variable {X : oX} {d : Nat} {J : oJ} {pc : Nat} {L : List (Option Value)} {S : List Value} {K K' : oK} {M M' : oM} {r : Option Value}
theorem oe_iald {a n : Nat} {i : Int32} (hd : decode J.2.1 pc = .ok (.iaload, 1)) (ha : a < K.1) (hs : K.2.2.1 a = (0, n)) (hin : vp_in i n)
    (kk : oEv X d J (pc + 1) L (.int (M.1 a i.toNatClampNeg) :: S) K M r K' M') : oEv X d J pc L (.int i :: .ref a :: S) K M r K' M' := by
  intro p l e R s m args below meth c H locs ls Θ n0 ns0 Q hC hD hL h1 h2 hR h3 h4 hQ
  have ea := oAd_lt (Θ := Θ) (Nat.lt_of_lt_of_le ha hD.2.1)
  show W p l e R s m args below meth c H locs _ _ Q (F0 m pc ls (.int i :: .ref (oAd Θ a) :: S.map (oTr Θ)))
  rw [ea]
  exact va_iald hC.1 hC.2.1 hC.2.2.2.2.2.2.2.2.2.1.1 hD.2.2.1 a 0 (by rw [oW_at ha, oE_int hs (by decide)]) rfl hin hd (kk p l e R s m args below meth c H locs ls Θ n0 ns0 Q hC hD hL h1 h2 hR h3 h4 hQ)
theorem oe_bald {a n : Nat} {i : Int32} (hd : decode J.2.1 pc = .ok (.baload, 1)) (ha : a < K.1) (hs : K.2.2.1 a = (1, n)) (hin : vp_in i n)
    (kk : oEv X d J (pc + 1) L (.int (M.1 a i.toNatClampNeg) :: S) K M r K' M') : oEv X d J pc L (.int i :: .ref a :: S) K M r K' M' := by
  intro p l e R s m args below meth c H locs ls Θ n0 ns0 Q hC hD hL h1 h2 hR h3 h4 hQ
  have ea := oAd_lt (Θ := Θ) (Nat.lt_of_lt_of_le ha hD.2.1)
  show W p l e R s m args below meth c H locs _ _ Q (F0 m pc ls (.int i :: .ref (oAd Θ a) :: S.map (oTr Θ)))
  rw [ea]
  exact va_bald hC.1 hC.2.1 hC.2.2.2.2.2.2.2.2.2.1.1 hD.2.2.1 a 1 (by rw [oW_at ha, oE_int hs (by decide)]) rfl hin hd (kk p l e R s m args below meth c H locs ls Θ n0 ns0 Q hC hD hL h1 h2 hR h3 h4 hQ)
theorem oe_zald {a n : Nat} {i : Int32} (hd : decode J.2.1 pc = .ok (.baload, 1)) (ha : a < K.1) (hs : K.2.2.1 a = (2, n)) (hin : vp_in i n)
    (kk : oEv X d J (pc + 1) L (.int (M.1 a i.toNatClampNeg) :: S) K M r K' M') : oEv X d J pc L (.int i :: .ref a :: S) K M r K' M' := by
  intro p l e R s m args below meth c H locs ls Θ n0 ns0 Q hC hD hL h1 h2 hR h3 h4 hQ
  have ea := oAd_lt (Θ := Θ) (Nat.lt_of_lt_of_le ha hD.2.1)
  show W p l e R s m args below meth c H locs _ _ Q (F0 m pc ls (.int i :: .ref (oAd Θ a) :: S.map (oTr Θ)))
  rw [ea]
  exact va_zald hC.1 hC.2.1 hC.2.2.2.2.2.2.2.2.2.1.1 hD.2.2.1 a 2 (by rw [oW_at ha, oE_int hs (by decide)]) rfl hin hd (kk p l e R s m args below meth c H locs ls Θ n0 ns0 Q hC hD hL h1 h2 hR h3 h4 hQ)
theorem oe_lald {a n : Nat} {i : Int32} (hd : decode J.2.1 pc = .ok (.laload, 1)) (ha : a < K.1) (hs : K.2.2.1 a = (3, n)) (hin : vp_in i n)
    (kk : oEv X d J (pc + 1) L (.long (M.2 a i.toNatClampNeg) :: S) K M r K' M') : oEv X d J pc L (.int i :: .ref a :: S) K M r K' M' := by
  intro p l e R s m args below meth c H locs ls Θ n0 ns0 Q hC hD hL h1 h2 hR h3 h4 hQ
  have ea := oAd_lt (Θ := Θ) (Nat.lt_of_lt_of_le ha hD.2.1)
  show W p l e R s m args below meth c H locs _ _ Q (F0 m pc ls (.int i :: .ref (oAd Θ a) :: S.map (oTr Θ)))
  rw [ea]
  exact va_lald hC.1 hC.2.1 hC.2.2.2.2.2.2.2.2.2.1.1 hD.2.2.1 a 3 (by rw [oW_at ha, oE_long hs]) rfl hin hd (kk p l e R s m args below meth c H locs ls Θ n0 ns0 Q hC hD hL h1 h2 hR h3 h4 hQ)
theorem oe_aald4r {a n : Nat} {b : Nat} {i : Int32} (hd : decode J.2.1 pc = .ok (.aaload, 1)) (ha : a < K.1) (hs : K.2.2.1 a = (4, n)) (hin : vp_in i n) (hb : K.2.2.2 a i.toNatClampNeg = some b)
    (kk : oEv X d J (pc + 1) L (.ref b :: S) K M r K' M') : oEv X d J pc L (.int i :: .ref a :: S) K M r K' M' := by
  intro p l e R s m args below meth c H locs ls Θ n0 ns0 Q hC hD hL h1 h2 hR h3 h4 hQ
  have ea := oAd_lt (Θ := Θ) (Nat.lt_of_lt_of_le ha hD.2.1)
  show W p l e R s m args below meth c H locs _ _ Q (F0 m pc ls (.int i :: .ref (oAd Θ a) :: S.map (oTr Θ)))
  rw [ea]
  refine va_aldq (C := "OverHill$Laying") hC.1 hC.2.1 hC.2.2.2.2.2.2.2.2.2.1.1 hD.2.2.1 a 4 (by rw [oW_at ha, oE_ref hs (by decide)]) rfl hin hd ?_
  simp only [hb, Option.map, va_rf]
  exact kk p l e R s m args below meth c H locs ls Θ n0 ns0 Q hC hD hL h1 h2 hR h3 h4 hQ
theorem oe_aald4N {a n : Nat} {i : Int32} (hd : decode J.2.1 pc = .ok (.aaload, 1)) (ha : a < K.1) (hs : K.2.2.1 a = (4, n)) (hin : vp_in i n) (hb : K.2.2.2 a i.toNatClampNeg = none)
    (kk : oEv X d J (pc + 1) L (.null :: S) K M r K' M') : oEv X d J pc L (.int i :: .ref a :: S) K M r K' M' := by
  intro p l e R s m args below meth c H locs ls Θ n0 ns0 Q hC hD hL h1 h2 hR h3 h4 hQ
  have ea := oAd_lt (Θ := Θ) (Nat.lt_of_lt_of_le ha hD.2.1)
  show W p l e R s m args below meth c H locs _ _ Q (F0 m pc ls (.int i :: .ref (oAd Θ a) :: S.map (oTr Θ)))
  rw [ea]
  refine va_aldq (C := "OverHill$Laying") hC.1 hC.2.1 hC.2.2.2.2.2.2.2.2.2.1.1 hD.2.2.1 a 4 (by rw [oW_at ha, oE_ref hs (by decide)]) rfl hin hd ?_
  simp only [hb, Option.map, va_rf]
  exact kk p l e R s m args below meth c H locs ls Θ n0 ns0 Q hC hD hL h1 h2 hR h3 h4 hQ
theorem oe_aald5r {a n : Nat} {b : Nat} {i : Int32} (hd : decode J.2.1 pc = .ok (.aaload, 1)) (ha : a < K.1) (hs : K.2.2.1 a = (5, n)) (hin : vp_in i n) (hb : K.2.2.2 a i.toNatClampNeg = some b)
    (kk : oEv X d J (pc + 1) L (.ref b :: S) K M r K' M') : oEv X d J pc L (.int i :: .ref a :: S) K M r K' M' := by
  intro p l e R s m args below meth c H locs ls Θ n0 ns0 Q hC hD hL h1 h2 hR h3 h4 hQ
  have ea := oAd_lt (Θ := Θ) (Nat.lt_of_lt_of_le ha hD.2.1)
  show W p l e R s m args below meth c H locs _ _ Q (F0 m pc ls (.int i :: .ref (oAd Θ a) :: S.map (oTr Θ)))
  rw [ea]
  refine va_aldq (C := "OverHill$Shelf") hC.1 hC.2.1 hC.2.2.2.2.2.2.2.2.2.1.1 hD.2.2.1 a 5 (by rw [oW_at ha, oE_ref hs (by decide)]) rfl hin hd ?_
  simp only [hb, Option.map, va_rf]
  exact kk p l e R s m args below meth c H locs ls Θ n0 ns0 Q hC hD hL h1 h2 hR h3 h4 hQ
theorem oe_aald5N {a n : Nat} {i : Int32} (hd : decode J.2.1 pc = .ok (.aaload, 1)) (ha : a < K.1) (hs : K.2.2.1 a = (5, n)) (hin : vp_in i n) (hb : K.2.2.2 a i.toNatClampNeg = none)
    (kk : oEv X d J (pc + 1) L (.null :: S) K M r K' M') : oEv X d J pc L (.int i :: .ref a :: S) K M r K' M' := by
  intro p l e R s m args below meth c H locs ls Θ n0 ns0 Q hC hD hL h1 h2 hR h3 h4 hQ
  have ea := oAd_lt (Θ := Θ) (Nat.lt_of_lt_of_le ha hD.2.1)
  show W p l e R s m args below meth c H locs _ _ Q (F0 m pc ls (.int i :: .ref (oAd Θ a) :: S.map (oTr Θ)))
  rw [ea]
  refine va_aldq (C := "OverHill$Shelf") hC.1 hC.2.1 hC.2.2.2.2.2.2.2.2.2.1.1 hD.2.2.1 a 5 (by rw [oW_at ha, oE_ref hs (by decide)]) rfl hin hd ?_
  simp only [hb, Option.map, va_rf]
  exact kk p l e R s m args below meth c H locs ls Θ n0 ns0 Q hC hD hL h1 h2 hR h3 h4 hQ
theorem oe_iast {a n : Nat} {i x : Int32} (hd : decode J.2.1 pc = .ok (.iastore, 1)) (ha : a < K.1) (hs : K.2.2.1 a = (0, n)) (hin : vp_in i n)
    (kk : oEv X d J (pc + 1) L S K (oUp M a i.toNatClampNeg x) r K' M') : oEv X d J pc L (.int x :: .int i :: .ref a :: S) K M r K' M' := by
  intro p l e R s m args below meth c H locs ls Θ n0 ns0 Q hC hD hL h1 h2 hR h3 h4 hQ
  have ea := oAd_lt (Θ := Θ) (Nat.lt_of_lt_of_le ha hD.2.1)
  show W p l e R s m args below meth c H locs _ _ Q (F0 m pc ls (.int x :: .int i :: .ref (oAd Θ a) :: S.map (oTr Θ)))
  rw [ea]
  have hat : H[Θ.2.2.1 + a]? = some (vp_cell (Θ.2.1 0) (n, .inl (M.1 a))) := hD.2.2.1 a (Θ.2.2.1 + a, .inl (Θ.2.1 0, n, .inl (M.1 a))) (by rw [oW_at ha, oE_int hs (by decide)])
  refine W.iast hC.1 hC.2.1 hat ((hC.2.2.2.2.2.2.2.2.2.1.1.2 0 _ rfl).1 n (fun j => .int (M.1 a j))) (fun q => by cases q) (by show ¬ (i < 0 ∨ (arrV _ _ _).slots.size ≤ _); rw [arrV_size]; exact hin) rfl rfl hd fun H1 e1 z oq => ?_
  refine kk p l e R s m args below meth c H1 _ ls Θ n0 ns0 Q hC (hD.set rfl ha ?_ z oq oUp_ne oLl) hL h1 h2 hR h3 h4 hQ
  rw [oE_int hs (by decide)]
  show H1[_]? = some (vp_cell _ _)
  rw [e1, vp_cell_i]
  rw [vp_cell_i, arrV_store]
  congr 2
  funext q
  by_cases hq : q = i.toNatClampNeg
  · subst hq
    simp [updV, oUp, upd, vp_nar]
    try rfl
  · simp [updV, oUp, upd, hq]

theorem oe_bast {a n : Nat} {i x : Int32} (hd : decode J.2.1 pc = .ok (.bastore, 1)) (ha : a < K.1) (hs : K.2.2.1 a = (1, n)) (hin : vp_in i n)
    (kk : oEv X d J (pc + 1) L S K (oUp M a i.toNatClampNeg (vp_nar .byte x)) r K' M') : oEv X d J pc L (.int x :: .int i :: .ref a :: S) K M r K' M' := by
  intro p l e R s m args below meth c H locs ls Θ n0 ns0 Q hC hD hL h1 h2 hR h3 h4 hQ
  have ea := oAd_lt (Θ := Θ) (Nat.lt_of_lt_of_le ha hD.2.1)
  show W p l e R s m args below meth c H locs _ _ Q (F0 m pc ls (.int x :: .int i :: .ref (oAd Θ a) :: S.map (oTr Θ)))
  rw [ea]
  have hat : H[Θ.2.2.1 + a]? = some (vp_cell (Θ.2.1 1) (n, .inl (M.1 a))) := hD.2.2.1 a (Θ.2.2.1 + a, .inl (Θ.2.1 1, n, .inl (M.1 a))) (by rw [oW_at ha, oE_int hs (by decide)])
  refine W.bast hC.1 hC.2.1 hat ((hC.2.2.2.2.2.2.2.2.2.1.1.2 1 _ rfl).1 n (fun j => .int (M.1 a j))) (fun q => by cases q) (by show ¬ (i < 0 ∨ (arrV _ _ _).slots.size ≤ _); rw [arrV_size]; exact hin) rfl rfl hd fun H1 e1 z oq => ?_
  refine kk p l e R s m args below meth c H1 _ ls Θ n0 ns0 Q hC (hD.set rfl ha ?_ z oq oUp_ne oLl) hL h1 h2 hR h3 h4 hQ
  rw [oE_int hs (by decide)]
  show H1[_]? = some (vp_cell _ _)
  rw [e1, vp_cell_i]
  rw [vp_cell_i, arrV_store]
  congr 2
  funext q
  by_cases hq : q = i.toNatClampNeg
  · subst hq
    simp [updV, oUp, upd, vp_nar]
    try rfl
  · simp [updV, oUp, upd, hq]

theorem oe_zast {a n : Nat} {i x : Int32} (hd : decode J.2.1 pc = .ok (.bastore, 1)) (ha : a < K.1) (hs : K.2.2.1 a = (2, n)) (hin : vp_in i n)
    (kk : oEv X d J (pc + 1) L S K (oUp M a i.toNatClampNeg (vp_nar .boolean x)) r K' M') : oEv X d J pc L (.int x :: .int i :: .ref a :: S) K M r K' M' := by
  intro p l e R s m args below meth c H locs ls Θ n0 ns0 Q hC hD hL h1 h2 hR h3 h4 hQ
  have ea := oAd_lt (Θ := Θ) (Nat.lt_of_lt_of_le ha hD.2.1)
  show W p l e R s m args below meth c H locs _ _ Q (F0 m pc ls (.int x :: .int i :: .ref (oAd Θ a) :: S.map (oTr Θ)))
  rw [ea]
  have hat : H[Θ.2.2.1 + a]? = some (vp_cell (Θ.2.1 2) (n, .inl (M.1 a))) := hD.2.2.1 a (Θ.2.2.1 + a, .inl (Θ.2.1 2, n, .inl (M.1 a))) (by rw [oW_at ha, oE_int hs (by decide)])
  refine W.zast hC.1 hC.2.1 hat ((hC.2.2.2.2.2.2.2.2.2.1.1.2 2 _ rfl).1 n (fun j => .int (M.1 a j))) (fun q => by cases q) (by show ¬ (i < 0 ∨ (arrV _ _ _).slots.size ≤ _); rw [arrV_size]; exact hin) rfl rfl hd fun H1 e1 z oq => ?_
  refine kk p l e R s m args below meth c H1 _ ls Θ n0 ns0 Q hC (hD.set rfl ha ?_ z oq oUp_ne oLl) hL h1 h2 hR h3 h4 hQ
  rw [oE_int hs (by decide)]
  show H1[_]? = some (vp_cell _ _)
  rw [e1, vp_cell_i]
  rw [vp_cell_i, arrV_store]
  congr 2
  funext q
  by_cases hq : q = i.toNatClampNeg
  · subst hq
    simp [updV, oUp, upd, vp_nar]
    try rfl
  · simp [updV, oUp, upd, hq]

theorem oe_last {a n : Nat} {i : Int32} {x : Int64} (hd : decode J.2.1 pc = .ok (.lastore, 1)) (ha : a < K.1) (hs : K.2.2.1 a = (3, n)) (hin : vp_in i n)
    (kk : oEv X d J (pc + 1) L S K (oUpL M a i.toNatClampNeg x) r K' M') : oEv X d J pc L (.long x :: .int i :: .ref a :: S) K M r K' M' := by
  intro p l e R s m args below meth c H locs ls Θ n0 ns0 Q hC hD hL h1 h2 hR h3 h4 hQ
  have ea := oAd_lt (Θ := Θ) (Nat.lt_of_lt_of_le ha hD.2.1)
  show W p l e R s m args below meth c H locs _ _ Q (F0 m pc ls (.long x :: .int i :: .ref (oAd Θ a) :: S.map (oTr Θ)))
  rw [ea]
  have hat : H[Θ.2.2.1 + a]? = some (vp_cell (Θ.2.1 3) (n, .inr (.inl (M.2 a)))) := hD.2.2.1 a (Θ.2.2.1 + a, .inl (Θ.2.1 3, n, .inr (.inl (M.2 a)))) (by rw [oW_at ha, oE_long hs])
  refine W.last hC.1 hC.2.1 hat ((hC.2.2.2.2.2.2.2.2.2.1.1.2 3 _ rfl).1 n (fun j => .long (M.2 a j))) (fun q => by cases q) (by show ¬ (i < 0 ∨ (arrV _ _ _).slots.size ≤ _); rw [arrV_size]; exact hin) rfl rfl hd fun H1 e1 z oq => ?_
  refine kk p l e R s m args below meth c H1 _ ls Θ n0 ns0 Q hC (hD.set rfl ha ?_ z oq oUpL_ne oLl) hL h1 h2 hR h3 h4 hQ
  rw [oE_long hs]
  show H1[_]? = some (vp_cell _ _)
  rw [e1, vp_cell_l]
  rw [vp_cell_l, arrV_store]
  congr 2
  funext q
  by_cases hq : q = i.toNatClampNeg
  · subst hq
    simp [updV, oUpL, vp_updL]
  · simp [updV, oUpL, vp_updL, hq]

theorem oe_aast4 {a n b : Nat} {i : Int32} (hd : decode J.2.1 pc = .ok (.aastore, 1)) (ha : a < K.1) (hs : K.2.2.1 a = (4, n)) (hin : vp_in i n) (hb : b < K.1) (hsb : (K.2.2.1 b).1 = 6 + 6)
    (kk : oEv X d J (pc + 1) L S (oUpR K a i.toNatClampNeg (some b)) M r K' M') : oEv X d J pc L (.ref b :: .int i :: .ref a :: S) K M r K' M' := by
  intro p l e R s m args below meth c H locs ls Θ n0 ns0 Q hC hD hL h1 h2 hR h3 h4 hQ
  have ea := oAd_lt (Θ := Θ) (Nat.lt_of_lt_of_le ha hD.2.1)
  have eb := oAd_lt (Θ := Θ) (Nat.lt_of_lt_of_le hb hD.2.1)
  show W p l e R s m args below meth c H locs _ _ Q (F0 m pc ls (.ref (oAd Θ b) :: .int i :: .ref (oAd Θ a) :: S.map (oTr Θ)))
  rw [ea, eb]
  have hlt : i.toNatClampNeg < n := Nat.not_le.mp fun q => hin (Or.inr q)
  have h0 : ¬ i < 0 := fun q => hin (Or.inl q)
  have hK := hC.2.2.2.2.2.2.2.2.2.1.1
  have hat : H[Θ.2.2.1 + a]? = some (vp_cell (Θ.2.1 4) (n, .inr (.inr (.inr (.inr (fun j => (K.2.2.2 a j).map (oAd Θ))))))) := hD.2.2.1 a (Θ.2.2.1 + a, .inl (Θ.2.1 4, n, .inr (.inr (.inr (.inr (fun j => (K.2.2.2 a j).map (oAd Θ))))))) (by rw [oW_at ha, oE_ref hs (by decide)])
  obtain ⟨r', hr', cellV, g1, g2, g3, -⟩ := hD.2.2.1 b _ (by rw [oW_at hb, oE_obj hsb])
  have hcls := (hK.1 6 _ rfl).2
  obtain ⟨kA, comp, k1, k2, k3, -⟩ := (hK.2 4 _ rfl).2
  have hcomp : comp = Θ.1.1 6 := Option.some.inj (k3.symm.trans hcls.1)
  subst hcomp
  obtain ⟨kC, hkC, -⟩ := hcls.2
  refine W.aast hC.1 hC.2.1 hat (fun q h => by cases h) (fun h => by cases h) k1 k2 rfl hkC ⟨h0, by show _ < (arrV _ _ _).slots.size; rw [arrV_size]; exact hlt⟩ g1 (fun q h => by rw [g3] at h; cases h) (by rw [g2]; exact hkC) (by rw [g2]; exact va_assign hcls) rfl rfl hd fun H1 e1 z oq => ?_
  refine kk p l e R s m args below meth c H1 _ ls Θ n0 ns0 Q hC (hD.set rfl ha ?_ z oq oUpR_ne oLl) hL h1 h2 hR h3 h4 hQ
  rw [oE_ref (K := oUpR K a i.toNatClampNeg (some b)) hs (by decide)]
  show H1[_]? = some (vp_cell _ _)
  rw [e1, vp_cell_q]
  rw [vp_cell_q, arrV_store]
  congr 2
  funext q
  by_cases hq : q = i.toNatClampNeg
  · subst hq
    simp [updV, va_up, va_rf, oUpR, eb]
  · simp [updV, va_up, hq, oUpR]

theorem oe_aast5 {a n b : Nat} {i : Int32} (hd : decode J.2.1 pc = .ok (.aastore, 1)) (ha : a < K.1) (hs : K.2.2.1 a = (5, n)) (hin : vp_in i n) (hb : b < K.1) (hsb : (K.2.2.1 b).1 = 9 + 6)
    (kk : oEv X d J (pc + 1) L S (oUpR K a i.toNatClampNeg (some b)) M r K' M') : oEv X d J pc L (.ref b :: .int i :: .ref a :: S) K M r K' M' := by
  intro p l e R s m args below meth c H locs ls Θ n0 ns0 Q hC hD hL h1 h2 hR h3 h4 hQ
  have ea := oAd_lt (Θ := Θ) (Nat.lt_of_lt_of_le ha hD.2.1)
  have eb := oAd_lt (Θ := Θ) (Nat.lt_of_lt_of_le hb hD.2.1)
  show W p l e R s m args below meth c H locs _ _ Q (F0 m pc ls (.ref (oAd Θ b) :: .int i :: .ref (oAd Θ a) :: S.map (oTr Θ)))
  rw [ea, eb]
  have hlt : i.toNatClampNeg < n := Nat.not_le.mp fun q => hin (Or.inr q)
  have h0 : ¬ i < 0 := fun q => hin (Or.inl q)
  have hK := hC.2.2.2.2.2.2.2.2.2.1.1
  have hat : H[Θ.2.2.1 + a]? = some (vp_cell (Θ.2.1 5) (n, .inr (.inr (.inr (.inr (fun j => (K.2.2.2 a j).map (oAd Θ))))))) := hD.2.2.1 a (Θ.2.2.1 + a, .inl (Θ.2.1 5, n, .inr (.inr (.inr (.inr (fun j => (K.2.2.2 a j).map (oAd Θ))))))) (by rw [oW_at ha, oE_ref hs (by decide)])
  obtain ⟨r', hr', cellV, g1, g2, g3, -⟩ := hD.2.2.1 b _ (by rw [oW_at hb, oE_obj hsb])
  have hcls := (hK.1 9 _ rfl).2
  obtain ⟨kA, comp, k1, k2, k3, -⟩ := (hK.2 5 _ rfl).2
  have hcomp : comp = Θ.1.1 9 := Option.some.inj (k3.symm.trans hcls.1)
  subst hcomp
  obtain ⟨kC, hkC, -⟩ := hcls.2
  refine W.aast hC.1 hC.2.1 hat (fun q h => by cases h) (fun h => by cases h) k1 k2 rfl hkC ⟨h0, by show _ < (arrV _ _ _).slots.size; rw [arrV_size]; exact hlt⟩ g1 (fun q h => by rw [g3] at h; cases h) (by rw [g2]; exact hkC) (by rw [g2]; exact va_assign hcls) rfl rfl hd fun H1 e1 z oq => ?_
  refine kk p l e R s m args below meth c H1 _ ls Θ n0 ns0 Q hC (hD.set rfl ha ?_ z oq oUpR_ne oLl) hL h1 h2 hR h3 h4 hQ
  rw [oE_ref (K := oUpR K a i.toNatClampNeg (some b)) hs (by decide)]
  show H1[_]? = some (vp_cell _ _)
  rw [e1, vp_cell_q]
  rw [vp_cell_q, arrV_store]
  congr 2
  funext q
  by_cases hq : q = i.toNatClampNeg
  · subst hq
    simp [updV, va_up, va_rf, oUpR, eb]
  · simp [updV, va_up, hq, oUpR]

theorem oe_alenI {a n : Nat} (hd : decode J.2.1 pc = .ok (.arraylength, 1)) (ha : a < K.1) {t : Nat} (hs : K.2.2.1 a = (t, n)) (ht : t = 0)
    (kk : oEv X d J (pc + 1) L (.int (Int32.ofNat n) :: S) K M r K' M') : oEv X d J pc L (.ref a :: S) K M r K' M' := by
  intro p l e R s m args below meth c H locs ls Θ n0 ns0 Q hC hD hL h1 h2 hR h3 h4 hQ
  have ea := oAd_lt (Θ := Θ) (Nat.lt_of_lt_of_le ha hD.2.1)
  show W p l e R s m args below meth c H locs _ _ Q (F0 m pc ls (.ref (oAd Θ a) :: S.map (oTr Θ)))
  rw [ea]
  subst ht
  exact va_alen hC.1 hC.2.1 hC.2.2.2.2.2.2.2.2.2.1.1 hD.2.2.1 a 0 (x := (n, .inl (M.1 a))) (v := Int32.ofNat n) (by rw [oW_at ha, oE_int hs (by decide)]) rfl rfl hd (kk p l e R s m args below meth c H locs ls Θ n0 ns0 Q hC hD hL h1 h2 hR h3 h4 hQ)
theorem oe_alen4 {a n : Nat} (hd : decode J.2.1 pc = .ok (.arraylength, 1)) (ha : a < K.1) (hs : K.2.2.1 a = (4, n))
    (kk : oEv X d J (pc + 1) L (.int (Int32.ofNat n) :: S) K M r K' M') : oEv X d J pc L (.ref a :: S) K M r K' M' := by
  intro p l e R s m args below meth c H locs ls Θ n0 ns0 Q hC hD hL h1 h2 hR h3 h4 hQ
  have ea := oAd_lt (Θ := Θ) (Nat.lt_of_lt_of_le ha hD.2.1)
  show W p l e R s m args below meth c H locs _ _ Q (F0 m pc ls (.ref (oAd Θ a) :: S.map (oTr Θ)))
  rw [ea]
  exact va_alen hC.1 hC.2.1 hC.2.2.2.2.2.2.2.2.2.1.1 hD.2.2.1 a 4 (x := (n, .inr (.inr (.inr (.inr (fun j => (K.2.2.2 a j).map (oAd Θ))))))) (v := Int32.ofNat n) (by rw [oW_at ha, oE_ref hs (by decide)]) rfl rfl hd (kk p l e R s m args below meth c H locs ls Θ n0 ns0 Q hC hD hL h1 h2 hR h3 h4 hQ)
theorem oe_alen5 {a n : Nat} (hd : decode J.2.1 pc = .ok (.arraylength, 1)) (ha : a < K.1) (hs : K.2.2.1 a = (5, n))
    (kk : oEv X d J (pc + 1) L (.int (Int32.ofNat n) :: S) K M r K' M') : oEv X d J pc L (.ref a :: S) K M r K' M' := by
  intro p l e R s m args below meth c H locs ls Θ n0 ns0 Q hC hD hL h1 h2 hR h3 h4 hQ
  have ea := oAd_lt (Θ := Θ) (Nat.lt_of_lt_of_le ha hD.2.1)
  show W p l e R s m args below meth c H locs _ _ Q (F0 m pc ls (.ref (oAd Θ a) :: S.map (oTr Θ)))
  rw [ea]
  exact va_alen hC.1 hC.2.1 hC.2.2.2.2.2.2.2.2.2.1.1 hD.2.2.1 a 5 (x := (n, .inr (.inr (.inr (.inr (fun j => (K.2.2.2 a j).map (oAd Θ))))))) (v := Int32.ofNat n) (by rw [oW_at ha, oE_ref hs (by decide)]) rfl rfl hd (kk p l e R s m args below meth c H locs ls Θ n0 ns0 Q hC hD hL h1 h2 hR h3 h4 hQ)
theorem oe_gets {t idx : Nat} (hd : decode J.2.1 pc = .ok (.getstatic idx, 3)) (g1 : 1 ≤ t) (g2 : t < 4) (hF : Cond.fieldLink J.2.2.2.2 idx (oTs t).1 (oTs t).2 "[I" ∈ oGood)
    (kk : oEv X d J (pc + 3) L (.ref (1000000 + t) :: S) K M r K' M') : oEv X d J pc L S K M r K' M' := by
  intro p l e R s m args below meth c H locs ls Θ n0 ns0 Q hC hD hL h1 h2 hR h3 h4 hQ
  have e1 : oAd Θ (1000000 + t) = Θ.2.2.2 t := by unfold oAd; rw [if_neg (by omega), Nat.add_sub_cancel_left]
  have k9 := kk p l e R s m args below meth c H locs ls Θ n0 ns0 Q hC hD hL h1 h2 hR h3 h4 hQ
  rw [List.map_cons, show oTr Θ (.ref (1000000 + t)) = .ref (Θ.2.2.2 t) by show Value.ref (oAd Θ (1000000 + t)) = _; rw [e1]] at k9
  exact va_gets hC.1 hC.2.1 (hC.2.2.2.2.2.2.2.2.2.2.2 t g1 g2).2 hD.2.2.2 hC.2.2.2.2.1 (hC.2.2.2.2.2.1 _ hF) (fun _ h => h) hd k9
theorem oe_getsN {idx : Nat} (hd : decode J.2.1 pc = .ok (.getstatic idx, 3)) (hi : idx = 46) (hJ : J.2.2.2.2 = "OverHill$Acts")
    (kk : oEv X d J (pc + 3) L (.ref (1000000 + 2) :: S) K M r K' M') : oEv X d J pc L S K M r K' M' := by
  intro p l e R s m args below meth c H locs ls Θ n0 ns0 Q hC hD hL h1 h2 hR h3 h4 hQ
  subst hi
  have e1 : oAd Θ (1000000 + 2) = Θ.2.2.2 2 := by unfold oAd; rw [if_neg (by omega), Nat.add_sub_cancel_left]
  have k9 := kk p l e R s m args below meth c H locs ls Θ n0 ns0 Q hC hD hL h1 h2 hR h3 h4 hQ
  rw [List.map_cons, show oTr Θ (.ref (1000000 + 2)) = .ref (Θ.2.2.2 2) by show Value.ref (oAd Θ (1000000 + 2)) = _; rw [e1]] at k9
  have hown := hC.2.2.2.2.1
  rw [hJ] at hown
  exact va_getsN hC.1 hC.2.1 (hC.2.2.2.2.2.2.2.2.2.2.2 2 (by decide) (by decide)).2 hD.2.2.2 hown (va_Nw.use rfl hC.2.2.2.2.2.2.2.2.2.1.2.2.2.2.2.2.2.2) (fun _ h => h) hd k9
theorem oe_tald {t : Nat} {i : Int32} (hd : decode J.2.1 pc = .ok (.iaload, 1)) (g1 : 1 ≤ t) (g2 : t < 4) (hin : vp_in i (oTn1 t))
    (kk : oEv X d J (pc + 1) L (.int (oTb t i.toNatClampNeg) :: S) K M r K' M') : oEv X d J pc L (.int i :: .ref (1000000 + t) :: S) K M r K' M' := by
  intro p l e R s m args below meth c H locs ls Θ n0 ns0 Q hC hD hL h1 h2 hR h3 h4 hQ
  have e1 : oAd Θ (1000000 + t) = Θ.2.2.2 t := by unfold oAd; rw [if_neg (by omega), Nat.add_sub_cancel_left]
  show W p l e R s m args below meth c H locs _ _ Q (F0 m pc ls (.int i :: .ref (oAd Θ (1000000 + t)) :: S.map (oTr Θ)))
  rw [e1]
  exact va_ti hC.1 hC.2.1 (hC.2.2.2.2.2.2.2.2.2.2.2 t g1 g2).1 hD.2.2.2 hin rfl hd (kk p l e R s m args below meth c H locs ls Θ n0 ns0 Q hC hD hL h1 h2 hR h3 h4 hQ)
theorem oe_sld {i : Int32} (hd : decode J.2.1 pc = .ok (.iaload, 1)) (hin : vp_in i X.1)
    (kk : oEv X d J (pc + 1) L (.int (X.2 i.toNatClampNeg) :: S) K M r K' M') : oEv X d J pc L (.int i :: .ref 1000000 :: S) K M r K' M' := by
  intro p l e R s m args below meth c H locs ls Θ n0 ns0 Q hC hD hL h1 h2 hR h3 h4 hQ
  have e1 : oAd Θ 1000000 = Θ.2.2.2 0 := by unfold oAd; rw [if_neg (by omega)]
  show W p l e R s m args below meth c H locs _ _ Q (F0 m pc ls (.int i :: .ref (oAd Θ 1000000) :: S.map (oTr Θ)))
  rw [e1]
  have hb := hC.2.2.2.2.2.2.2.2.2.2.1.2
  exact va_sld hC.1 hC.2.1 hC.2.2.2.2.2.2.2.2.2.2.1.1 (Nat.lt_of_lt_of_le hb hC.2.2.2.2.2.2.2.2.1) (Nat.not_le.mpr hb) hD.2.2.2 hin hd (kk p l e R s m args below meth c H locs ls Θ n0 ns0 Q hC hD hL h1 h2 hR h3 h4 hQ)
theorem oe_slen (hd : decode J.2.1 pc = .ok (.arraylength, 1))
    (kk : oEv X d J (pc + 1) L (.int (Int32.ofNat X.1) :: S) K M r K' M') : oEv X d J pc L (.ref 1000000 :: S) K M r K' M' := by
  intro p l e R s m args below meth c H locs ls Θ n0 ns0 Q hC hD hL h1 h2 hR h3 h4 hQ
  have e1 : oAd Θ 1000000 = Θ.2.2.2 0 := by unfold oAd; rw [if_neg (by omega)]
  show W p l e R s m args below meth c H locs _ _ Q (F0 m pc ls (.ref (oAd Θ 1000000) :: S.map (oTr Θ)))
  rw [e1]
  have hb := hC.2.2.2.2.2.2.2.2.2.2.1.2
  exact va_slen hC.1 hC.2.1 hC.2.2.2.2.2.2.2.2.2.2.1.1 (Nat.lt_of_lt_of_le hb hC.2.2.2.2.2.2.2.2.1) (Nat.not_le.mpr hb) hD.2.2.2 hd (kk p l e R s m args below meth c H locs ls Θ n0 ns0 Q hC hD hL h1 h2 hR h3 h4 hQ)
def oNewK (K : oK) (t n : Nat) : oK := (K.1 + 1, K.2.1 + n, fun b => if b = K.1 then (t, n) else K.2.2.1 b, fun b => if b = K.1 then fun _ => none else K.2.2.2 b)
def oNewM (K : oK) (M : oM) : oM := (fun b => if b = K.1 then fun _ => 0 else M.1 b, fun b => if b = K.1 then fun _ => 0 else M.2 b)
theorem oNew_ne {Θ : oT} {t n : Nat} : ∀ b, b < K.1 → oE Θ (oNewK K t n) (oNewM K M) b = oE Θ K M b := by
  intro b hb
  have hne : b ≠ K.1 := Nat.ne_of_lt hb
  have e : ∀ ci k, oV Θ (oNewK K t n) (oNewM K M) ci b k = oV Θ K M ci b k := fun ci k => by unfold oV; simp [oNewK, oNewM, hne]
  unfold oE oArr
  rw [show (oNewK K t n).2.2.1 b = K.2.2.1 b by simp [oNewK, hne], show (oNewM K M).1 b = M.1 b by simp [oNewM, hne], show (oNewM K M).2 b = M.2 b by simp [oNewM, hne], show (oNewK K t n).2.2.2 b = K.2.2.2 b by simp [oNewK, hne]]
  rw [show oV Θ (oNewK K t n) (oNewM K M) ((K.2.2.1 b).1 - 6) b = oV Θ K M ((K.2.2.1 b).1 - 6) b from funext (e _)]
theorem oDyn.push {Θ : oT} {s : State} {H H1 : Heap} {locs : List Loc} {t n : Nat} (hD : oDyn Θ K M s H locs) (hn : K.1 + 1 ≤ 1000000) (hb : Θ.2.2.1 ≤ s.heap.size) (hat : va_at Θ.1 oCl (Θ.2.2.1 + K.1, oE Θ (oNewK K t n) (oNewM K M) K.1) H1) (z : H1.size = H.size + 1) (oq : ∀ q : Nat, q < H.size → H1[q]? = H[q]?) : oDyn Θ (oNewK K t n) (oNewM K M) s H1 locs := by
  refine ⟨by rw [z, hD.1]; rfl, hn, ?_, ?_⟩
  · rw [← oW_push (K := K) (M := M) rfl oNew_ne]
    refine va_P.app (hD.2.2.1.kept (fun k q hk => oq q.1 (hD.2.2.1 k q hk).lt)) (fun k q hk => ?_)
    have hz : k < 1 := (List.getElem?_eq_some_iff.mp hk).1
    rw [show k = 0 by omega] at hk
    cases hk
    exact hat
  · refine ⟨Nat.le_trans hD.2.2.2.1 (by omega), fun q g1 g2 => ?_, hD.2.2.2.2.2⟩
    rw [oq q (Nat.lt_of_lt_of_le g1 hD.2.2.2.1)]
    exact hD.2.2.2.2.1 q g1 g2
theorem oe_newaI {n : Int32} {N : Nat} (hd : decode J.2.1 pc = .ok (.newarray .int, 2)) (hn : ¬ n < 0) (hN : n.toNatClampNeg = N) (hby : N ≤ 1000) (hk : K.1 + 1 ≤ K'.1) (hk2 : K.2.1 + N ≤ K'.2.1) (hk3 : K.1 + 1 ≤ 1000000)
    (kk : oEv X d J (pc + 2) L (.ref K.1 :: S) (oNewK K 0 N) (oNewM K M) r K' M') : oEv X d J pc L (.int n :: S) K M r K' M' := by
  intro p l e R s m args below meth c H locs ls Θ n0 ns0 Q hC hD hL h1 h2 hR h3 h4 hQ
  refine va_newaK hC.1 hC.2.1 (atype := .int) (hC.2.2.2.2.2.1 _ oarI) rfl hd rfl hn hN (Nat.le_trans (Nat.mul_le_mul_right _ hby) (by decide)) (by omega) (by omega) rfl fun H1 cA e1 z oq hAr hNm => ?_
  have hcA : Θ.2.1 0 = cA := Option.some.inj (((hC.2.2.2.2.2.2.2.2.2.1.1.2 0 _ rfl).2 : s.vm.findClass _ = some _).symm.trans hNm)
  subst hcA
  have k9 := kk p l e R s m args below meth c H1 locs ls Θ n0 ns0 Q hC (hD.push hk3 hC.2.2.2.2.2.2.2.2.1 ?_ z oq) hL (by show n0 ≤ K.1 + 1; omega) (by show ns0 ≤ K.2.1 + N; omega) hR hk hk2 hQ
  · have ea := oAd_lt (Θ := Θ) (a := K.1) (by omega)
    rw [show (oNewK K 0 N).1 - n0 = K.1 - n0 + 1 by show K.1 + 1 - n0 = _; omega, show (oNewK K 0 N).2.1 - ns0 = K.2.1 - ns0 + N by show K.2.1 + N - ns0 = _; omega, List.map_cons, show oTr Θ (.ref K.1) = .ref H.size by show Value.ref (oAd Θ K.1) = _; rw [ea, hD.1]] at k9
    exact k9
  · rw [oE_int (K := oNewK K 0 N) (a := K.1) (n := N) (by simp [oNewK] : (oNewK K 0 N).2.2.1 K.1 = (0, N)) (by decide)]
    show H1[_]? = some (vp_cell _ _)
    rw [← hD.1, e1]
    simp [vp_cell_i, oNewM]
    try rfl
theorem oe_newaB {n : Int32} {N : Nat} (hd : decode J.2.1 pc = .ok (.newarray .byte, 2)) (hn : ¬ n < 0) (hN : n.toNatClampNeg = N) (hby : N ≤ 1000) (hk : K.1 + 1 ≤ K'.1) (hk2 : K.2.1 + N ≤ K'.2.1) (hk3 : K.1 + 1 ≤ 1000000)
    (kk : oEv X d J (pc + 2) L (.ref K.1 :: S) (oNewK K 1 N) (oNewM K M) r K' M') : oEv X d J pc L (.int n :: S) K M r K' M' := by
  intro p l e R s m args below meth c H locs ls Θ n0 ns0 Q hC hD hL h1 h2 hR h3 h4 hQ
  refine va_newaK hC.1 hC.2.1 (atype := .byte) (hC.2.2.2.2.2.1 _ oarB) rfl hd rfl hn hN (Nat.le_trans (Nat.mul_le_mul_right _ hby) (by decide)) (by omega) (by omega) rfl fun H1 cA e1 z oq hAr hNm => ?_
  have hcA : Θ.2.1 1 = cA := Option.some.inj (((hC.2.2.2.2.2.2.2.2.2.1.1.2 1 _ rfl).2 : s.vm.findClass _ = some _).symm.trans hNm)
  subst hcA
  have k9 := kk p l e R s m args below meth c H1 locs ls Θ n0 ns0 Q hC (hD.push hk3 hC.2.2.2.2.2.2.2.2.1 ?_ z oq) hL (by show n0 ≤ K.1 + 1; omega) (by show ns0 ≤ K.2.1 + N; omega) hR hk hk2 hQ
  · have ea := oAd_lt (Θ := Θ) (a := K.1) (by omega)
    rw [show (oNewK K 1 N).1 - n0 = K.1 - n0 + 1 by show K.1 + 1 - n0 = _; omega, show (oNewK K 1 N).2.1 - ns0 = K.2.1 - ns0 + N by show K.2.1 + N - ns0 = _; omega, List.map_cons, show oTr Θ (.ref K.1) = .ref H.size by show Value.ref (oAd Θ K.1) = _; rw [ea, hD.1]] at k9
    exact k9
  · rw [oE_int (K := oNewK K 1 N) (a := K.1) (n := N) (by simp [oNewK] : (oNewK K 1 N).2.2.1 K.1 = (1, N)) (by decide)]
    show H1[_]? = some (vp_cell _ _)
    rw [← hD.1, e1]
    simp [vp_cell_i, oNewM]
    try rfl
theorem oe_newaZ {n : Int32} {N : Nat} (hd : decode J.2.1 pc = .ok (.newarray .boolean, 2)) (hn : ¬ n < 0) (hN : n.toNatClampNeg = N) (hby : N ≤ 1000) (hk : K.1 + 1 ≤ K'.1) (hk2 : K.2.1 + N ≤ K'.2.1) (hk3 : K.1 + 1 ≤ 1000000)
    (kk : oEv X d J (pc + 2) L (.ref K.1 :: S) (oNewK K 2 N) (oNewM K M) r K' M') : oEv X d J pc L (.int n :: S) K M r K' M' := by
  intro p l e R s m args below meth c H locs ls Θ n0 ns0 Q hC hD hL h1 h2 hR h3 h4 hQ
  refine va_newaK hC.1 hC.2.1 (atype := .boolean) (hC.2.2.2.2.2.1 _ oarZ) rfl hd rfl hn hN (Nat.le_trans (Nat.mul_le_mul_right _ hby) (by decide)) (by omega) (by omega) rfl fun H1 cA e1 z oq hAr hNm => ?_
  have hcA : Θ.2.1 2 = cA := Option.some.inj (((hC.2.2.2.2.2.2.2.2.2.1.1.2 2 _ rfl).2 : s.vm.findClass _ = some _).symm.trans hNm)
  subst hcA
  have k9 := kk p l e R s m args below meth c H1 locs ls Θ n0 ns0 Q hC (hD.push hk3 hC.2.2.2.2.2.2.2.2.1 ?_ z oq) hL (by show n0 ≤ K.1 + 1; omega) (by show ns0 ≤ K.2.1 + N; omega) hR hk hk2 hQ
  · have ea := oAd_lt (Θ := Θ) (a := K.1) (by omega)
    rw [show (oNewK K 2 N).1 - n0 = K.1 - n0 + 1 by show K.1 + 1 - n0 = _; omega, show (oNewK K 2 N).2.1 - ns0 = K.2.1 - ns0 + N by show K.2.1 + N - ns0 = _; omega, List.map_cons, show oTr Θ (.ref K.1) = .ref H.size by show Value.ref (oAd Θ K.1) = _; rw [ea, hD.1]] at k9
    exact k9
  · rw [oE_int (K := oNewK K 2 N) (a := K.1) (n := N) (by simp [oNewK] : (oNewK K 2 N).2.2.1 K.1 = (2, N)) (by decide)]
    show H1[_]? = some (vp_cell _ _)
    rw [← hD.1, e1]
    simp [vp_cell_i, oNewM]
    try rfl
theorem oe_newaL {n : Int32} {N : Nat} (hd : decode J.2.1 pc = .ok (.newarray .long, 2)) (hn : ¬ n < 0) (hN : n.toNatClampNeg = N) (hby : N ≤ 1000) (hk : K.1 + 1 ≤ K'.1) (hk2 : K.2.1 + N ≤ K'.2.1) (hk3 : K.1 + 1 ≤ 1000000)
    (kk : oEv X d J (pc + 2) L (.ref K.1 :: S) (oNewK K 3 N) (oNewM K M) r K' M') : oEv X d J pc L (.int n :: S) K M r K' M' := by
  intro p l e R s m args below meth c H locs ls Θ n0 ns0 Q hC hD hL h1 h2 hR h3 h4 hQ
  refine va_newaK hC.1 hC.2.1 (atype := .long) (hC.2.2.2.2.2.1 _ oarL) rfl hd rfl hn hN (Nat.le_trans (Nat.mul_le_mul_right _ hby) (by decide)) (by omega) (by omega) rfl fun H1 cA e1 z oq hAr hNm => ?_
  have hcA : Θ.2.1 3 = cA := Option.some.inj (((hC.2.2.2.2.2.2.2.2.2.1.1.2 3 _ rfl).2 : s.vm.findClass _ = some _).symm.trans hNm)
  subst hcA
  have k9 := kk p l e R s m args below meth c H1 locs ls Θ n0 ns0 Q hC (hD.push hk3 hC.2.2.2.2.2.2.2.2.1 ?_ z oq) hL (by show n0 ≤ K.1 + 1; omega) (by show ns0 ≤ K.2.1 + N; omega) hR hk hk2 hQ
  · have ea := oAd_lt (Θ := Θ) (a := K.1) (by omega)
    rw [show (oNewK K 3 N).1 - n0 = K.1 - n0 + 1 by show K.1 + 1 - n0 = _; omega, show (oNewK K 3 N).2.1 - ns0 = K.2.1 - ns0 + N by show K.2.1 + N - ns0 = _; omega, List.map_cons, show oTr Θ (.ref K.1) = .ref H.size by show Value.ref (oAd Θ K.1) = _; rw [ea, hD.1]] at k9
    exact k9
  · rw [oE_long (K := oNewK K 3 N) (a := K.1) (n := N) (by simp [oNewK] : (oNewK K 3 N).2.2.1 K.1 = (3, N)) ]
    show H1[_]? = some (vp_cell _ _)
    rw [← hD.1, e1]
    simp [vp_cell_l, oNewM]
    try rfl
theorem oe_new {ci idx : Nat} (hd : decode J.2.1 pc = .ok (.new idx, 3)) (hw : Cond.classLink J.2.2.2.2 idx (oRn ci) ∈ oGood) (hc : oCK ci) (hi : Cond.instantiable (oRn ci) (oNn ci) ∈ oGood) (hi2 : Cond.initialized (oRn ci) ∈ oGood) (hdv : ∀ k, k < oNn ci → defaultValue (oTy ci k) = if oTy ci k = .int then .int 0 else .null) (hk : K.1 + 1 ≤ K'.1) (hk2 : K.2.1 + oNn ci ≤ K'.2.1) (hk3 : K.1 + 1 ≤ 1000000)
    (kk : oEv X d J (pc + 3) L (.ref K.1 :: S) (oNewK K (ci + 6) (oNn ci)) (oNewM K M) r K' M') : oEv X d J pc L S K M r K' M' := by
  intro p l e R s m args below meth c H locs ls Θ n0 ns0 Q hC hD hL h1 h2 hR h3 h4 hQ
  have hts := hC.2.2.2.2.2.1
  have hKn := hC.2.2.2.2.2.2.2.2.2.1.1.1 ci _ hc.1
  refine W.newcK hC.1 hC.2.1 hC.2.2.2.2.1 (hts _ hw) (hts _ hi) (hts _ hi2) rfl hd (by omega) (by omega) hKn.2.1 rfl fun H1 kC hkC e1 z oq => ?_
  have k9 := kk p l e R s m args below meth c H1 locs ls Θ n0 ns0 Q hC (hD.push hk3 hC.2.2.2.2.2.2.2.2.1 ?_ z oq) hL (by show n0 ≤ K.1 + 1; omega) (by show ns0 ≤ K.2.1 + oNn ci; omega) hR hk hk2 hQ
  · have ea := oAd_lt (Θ := Θ) (a := K.1) (by omega)
    rw [show (oNewK K (ci + 6) (oNn ci)).1 - n0 = K.1 - n0 + 1 by show K.1 + 1 - n0 = _; omega, show (oNewK K (ci + 6) (oNn ci)).2.1 - ns0 = K.2.1 - ns0 + oNn ci by show K.2.1 + oNn ci - ns0 = _; omega, List.map_cons, show oTr Θ (.ref K.1) = .ref H.size by show Value.ref (oAd Θ K.1) = _; rw [ea, hD.1]] at k9
    exact k9
  · rw [oE_obj (K := oNewK K (ci + 6) (oNn ci)) (a := K.1) (ci := ci) (by simp [oNewK]), ← hD.1]
    refine ⟨_, hc.1, (u_born (oTy ci) hts hc.2.1 hKn hkC e1 hc.2.2.1).to (fun k hk => ?_)⟩
    rw [hdv k hk]
    simp [vp_V, List.getD, hk, oV, oNewK, oNewM, va_rf]
theorem oe_anew4 {n : Int32} {N idx : Nat} (hd : decode J.2.1 pc = .ok (.anewarray idx, 3)) (hw : Cond.classLink J.2.2.2.2 idx "OverHill$Laying" ∈ oGood) (hn : ¬ n < 0) (hN : n.toNatClampNeg = N) (hby : N ≤ 1000) (hk : K.1 + 1 ≤ K'.1) (hk2 : K.2.1 + N ≤ K'.2.1) (hk3 : K.1 + 1 ≤ 1000000)
    (kk : oEv X d J (pc + 3) L (.ref K.1 :: S) (oNewK K 4 N) (oNewM K M) r K' M') : oEv X d J pc L (.int n :: S) K M r K' M' := by
  intro p l e R s m args below meth c H locs ls Θ n0 ns0 Q hC hD hL h1 h2 hR h3 h4 hQ
  subst hN
  refine W.anew hC.1 hC.2.1 hC.2.2.2.2.1 (hC.2.2.2.2.2.1 _ hw) (va_AO.use hC.2.2.2.2.2.2.2.2.2.1.2.1) rfl hd rfl hn (Nat.le_trans (Nat.mul_le_mul_right _ hby) (by decide)) (by omega) (by omega) fun cA kA comp f1 f2 f3 f4 => ?_
  generalize hH1 : H.push ({ cls := cA, slots := Array.replicate n.toNatClampNeg .null, vm := .none } : Cell) = H1
  have z1 : H1.size = H.size + 1 := by rw [← hH1, Array.size_push]
  have e1 : H1[H.size]? = some (arrV cA n.toNatClampNeg (fun _ => .null)) := by rw [← hH1, Array.getElem?_push_size, ← arrV_new]
  have oq : ∀ q, q < H.size → H1[q]? = H[q]? := fun q hq => by rw [← hH1, Array.getElem?_push, if_neg (Nat.ne_of_lt hq)]
  have hcA : Θ.2.1 4 = cA := by
    obtain ⟨kA', comp', k1, k2, k3, k4⟩ := (hC.2.2.2.2.2.2.2.2.2.1.1.2 4 _ rfl).2
    exact Option.some.inj (k4.symm.trans f1)
  subst hcA
  have k9 := kk p l e R s m args below meth c H1 locs ls Θ n0 ns0 Q hC (hD.push hk3 hC.2.2.2.2.2.2.2.2.1 ?_ z1 oq) hL (by show n0 ≤ K.1 + 1; omega) (by show ns0 ≤ K.2.1 + _; omega) hR hk hk2 hQ
  · have ea := oAd_lt (Θ := Θ) (a := K.1) (by omega)
    rw [show (oNewK K 4 n.toNatClampNeg).1 - n0 = K.1 - n0 + 1 by show K.1 + 1 - n0 = _; omega, show (oNewK K 4 n.toNatClampNeg).2.1 - ns0 = K.2.1 - ns0 + n.toNatClampNeg by show K.2.1 + n.toNatClampNeg - ns0 = _; omega, List.map_cons, show oTr Θ (.ref K.1) = .ref H.size by show Value.ref (oAd Θ K.1) = _; rw [ea, hD.1]] at k9
    exact k9
  · rw [oE_ref (K := oNewK K 4 n.toNatClampNeg) (a := K.1) (n := n.toNatClampNeg) (by simp [oNewK] : (oNewK K 4 n.toNatClampNeg).2.2.1 K.1 = (4, n.toNatClampNeg)) (by decide)]
    show H1[_]? = some (vp_cell _ _)
    rw [← hD.1, e1, vp_cell_q]
    simp [oNewK, va_rf]
theorem oe_anew5 {n : Int32} {N idx : Nat} (hd : decode J.2.1 pc = .ok (.anewarray idx, 3)) (hw : Cond.classLink J.2.2.2.2 idx "OverHill$Shelf" ∈ oGood) (hn : ¬ n < 0) (hN : n.toNatClampNeg = N) (hby : N ≤ 1000) (hk : K.1 + 1 ≤ K'.1) (hk2 : K.2.1 + N ≤ K'.2.1) (hk3 : K.1 + 1 ≤ 1000000)
    (kk : oEv X d J (pc + 3) L (.ref K.1 :: S) (oNewK K 5 N) (oNewM K M) r K' M') : oEv X d J pc L (.int n :: S) K M r K' M' := by
  intro p l e R s m args below meth c H locs ls Θ n0 ns0 Q hC hD hL h1 h2 hR h3 h4 hQ
  subst hN
  refine W.anew hC.1 hC.2.1 hC.2.2.2.2.1 (hC.2.2.2.2.2.1 _ hw) (va_AO.use hC.2.2.2.2.2.2.2.2.2.1.2.2.1) rfl hd rfl hn (Nat.le_trans (Nat.mul_le_mul_right _ hby) (by decide)) (by omega) (by omega) fun cA kA comp f1 f2 f3 f4 => ?_
  generalize hH1 : H.push ({ cls := cA, slots := Array.replicate n.toNatClampNeg .null, vm := .none } : Cell) = H1
  have z1 : H1.size = H.size + 1 := by rw [← hH1, Array.size_push]
  have e1 : H1[H.size]? = some (arrV cA n.toNatClampNeg (fun _ => .null)) := by rw [← hH1, Array.getElem?_push_size, ← arrV_new]
  have oq : ∀ q, q < H.size → H1[q]? = H[q]? := fun q hq => by rw [← hH1, Array.getElem?_push, if_neg (Nat.ne_of_lt hq)]
  have hcA : Θ.2.1 5 = cA := by
    obtain ⟨kA', comp', k1, k2, k3, k4⟩ := (hC.2.2.2.2.2.2.2.2.2.1.1.2 5 _ rfl).2
    exact Option.some.inj (k4.symm.trans f1)
  subst hcA
  have k9 := kk p l e R s m args below meth c H1 locs ls Θ n0 ns0 Q hC (hD.push hk3 hC.2.2.2.2.2.2.2.2.1 ?_ z1 oq) hL (by show n0 ≤ K.1 + 1; omega) (by show ns0 ≤ K.2.1 + _; omega) hR hk hk2 hQ
  · have ea := oAd_lt (Θ := Θ) (a := K.1) (by omega)
    rw [show (oNewK K 5 n.toNatClampNeg).1 - n0 = K.1 - n0 + 1 by show K.1 + 1 - n0 = _; omega, show (oNewK K 5 n.toNatClampNeg).2.1 - ns0 = K.2.1 - ns0 + n.toNatClampNeg by show K.2.1 + n.toNatClampNeg - ns0 = _; omega, List.map_cons, show oTr Θ (.ref K.1) = .ref H.size by show Value.ref (oAd Θ K.1) = _; rw [ea, hD.1]] at k9
    exact k9
  · rw [oE_ref (K := oNewK K 5 n.toNatClampNeg) (a := K.1) (n := n.toNatClampNeg) (by simp [oNewK] : (oNewK K 5 n.toNatClampNeg).2.2.1 K.1 = (5, n.toNatClampNeg)) (by decide)]
    show H1[_]? = some (vp_cell _ _)
    rw [← hD.1, e1, vp_cell_q]
    simp [oNewK, va_rf]
end ARR
