/-! cells: fields, arrays, what is made new -/
theorem oK_ne {Θ : oT} {K : oK} {M M' : oM} {a : Nat} (h1 : ∀ b, b ≠ a → M'.1 b = M.1 b) (h2 : ∀ b, b ≠ a → M'.2 b = M.2 b) : ∀ b, b ≠ a → oE Θ K M' b = oE Θ K M b := by
  intro b hb
  have e : ∀ ci k, oV Θ K M' ci b k = oV Θ K M ci b k := fun ci k => by unfold oV; rw [h1 b hb]
  unfold oE oArr
  rw [h1 b hb, h2 b hb]
  rw [show oV Θ K M' ((K.2.2.1 b).1 - 6) b = oV Θ K M ((K.2.2.1 b).1 - 6) b from funext (e _)]
theorem oK_neR {Θ : oT} {K K' : oK} {M : oM} {a : Nat} (hs : K'.2.2.1 = K.2.2.1) (h1 : ∀ b, b ≠ a → K'.2.2.2 b = K.2.2.2 b) : ∀ b, b ≠ a → oE Θ K' M b = oE Θ K M b := by
  intro b hb
  have e : ∀ ci k, oV Θ K' M ci b k = oV Θ K M ci b k := fun ci k => by unfold oV; rw [h1 b hb]
  unfold oE oArr
  rw [hs, h1 b hb]
  rw [show oV Θ K' M ((K.2.2.1 b).1 - 6) b = oV Θ K M ((K.2.2.1 b).1 - 6) b from funext (e _)]
theorem oUp_ne {Θ : oT} {K : oK} {M : oM} {a k : Nat} {x : Int32} : ∀ b, b ≠ a → oE Θ K (oUp M a k x) b = oE Θ K M b := oK_ne (fun b hb => by simp [oUp, hb]) (fun _ _ => rfl)
theorem oUpL_ne {Θ : oT} {K : oK} {M : oM} {a k : Nat} {x : Int64} : ∀ b, b ≠ a → oE Θ K (oUpL M a k x) b = oE Θ K M b := oK_ne (fun _ _ => rfl) (fun b hb => by simp [oUpL, hb])
theorem oRow_ne {Θ : oT} {K : oK} {M : oM} {a : Nat} {f : Nat → Int32} : ∀ b, b ≠ a → oE Θ K (oRow M a f) b = oE Θ K M b := oK_ne (fun b hb => by simp [oRow, hb]) (fun _ _ => rfl)
theorem oRowL_ne {Θ : oT} {K : oK} {M : oM} {a : Nat} {f : Nat → Int64} : ∀ b, b ≠ a → oE Θ K (oRowL M a f) b = oE Θ K M b := oK_ne (fun _ _ => rfl) (fun b hb => by simp [oRowL, hb])
theorem oUpR_ne {Θ : oT} {K : oK} {M : oM} {a k : Nat} {x : Option Nat} : ∀ b, b ≠ a → oE Θ (oUpR K a k x) M b = oE Θ K M b := oK_neR rfl (fun b hb => by simp [oUpR, hb])
/-- a cell by its kind -/
theorem oE_obj {Θ : oT} {K : oK} {M : oM} {a ci : Nat} (h : (K.2.2.1 a).1 = ci + 6) : oE Θ K M a = .inr (ci, (List.range (oNn ci)).map (oV Θ K M ci a)) := by
  unfold oE
  rw [if_neg (by omega), h, show ci + 6 - 6 = ci by omega]
theorem oE_int {Θ : oT} {K : oK} {M : oM} {a t n : Nat} (h : K.2.2.1 a = (t, n)) (ht : t < 3) : oE Θ K M a = .inl (Θ.2.1 t, n, .inl (M.1 a)) := by
  unfold oE oArr
  rw [h]
  simp only []
  rw [if_pos (by omega), if_pos ht]
theorem oE_long {Θ : oT} {K : oK} {M : oM} {a n : Nat} (h : K.2.2.1 a = (3, n)) : oE Θ K M a = .inl (Θ.2.1 3, n, .inr (.inl (M.2 a))) := by
  unfold oE oArr
  rw [h]
  simp
theorem oE_ref {Θ : oT} {K : oK} {M : oM} {a t n : Nat} (h : K.2.2.1 a = (t, n)) (ht : t = 4 ∨ t = 5) : oE Θ K M a = .inl (Θ.2.1 t, n, .inr (.inr (.inr (.inr (fun j => (K.2.2.2 a j).map (oAd Θ)))))) := by
  unfold oE oArr
  rw [h]
  simp only []
  rw [if_pos (by omega), if_neg (by omega), if_neg (by omega)]
theorem oF_at {Θ : oT} {K : oK} {M : oM} {ci a k : Nat} (hk : k < oNn ci) : ((List.range (oNn ci)).map (oV Θ K M ci a))[k]? = some (oV Θ K M ci a k) := by
  simp [hk]
theorem oF_set {Θ : oT} {K K' : oK} {M M' : oM} {ci a k : Nat} {v : Value} (h : ∀ j, j < oNn ci → j ≠ k → oV Θ K' M' ci a j = oV Θ K M ci a j) (hk : oV Θ K' M' ci a k = v) : ((List.range (oNn ci)).map (oV Θ K M ci a)).set k v = (List.range (oNn ci)).map (oV Θ K' M' ci a) := by
  apply List.ext_getElem?
  intro j
  rw [List.getElem?_set]
  by_cases hj : j < oNn ci
  · by_cases hkj : k = j
    · subst hkj
      simp [hj, hk]
    · rw [if_neg hkj]
      simp [hj, h j hj (Ne.symm hkj)]
  · by_cases hkj : k = j
    · subst hkj
      simp [hj]
    · rw [if_neg hkj]
      simp [hj]
theorem oAd_lt {Θ : oT} {a : Nat} (h : a < 1000000) : oAd Θ a = Θ.2.2.1 + a := if_pos h
theorem oDyn_A {Θ : oT} {s : State} (h : Θ.2.2.1 ≤ s.heap.size) : ∀ q : Nat, s.heap.size ≤ q → (fun q : Nat => Θ.2.2.1 ≤ q) q := fun _ hq => Nat.le_trans h hq
section MEM
variable {X : oX} {d : Nat} {J : oJ} {pc : Nat} {L : List (Option Value)} {S : List Value} {K K' : oK} {M M' : oM} {r : Option Value}
theorem oe_getf {a ci k idx : Nat} (hd : decode J.2.1 pc = .ok (.getfield idx, 3)) (hF : Cond.fieldLink J.2.2.2.2 idx (oTn ci k).1 (oTn ci k).2.1 (oTn ci k).2.2.1 ∈ oGood) (hc : oCK ci) (hk : k < oNn ci) (ht : oTy ci k = .int) (ha : a < K.1) (hs : (K.2.2.1 a).1 = ci + 6)
    (kk : oEv X d J (pc + 3) L (.int (M.1 a k) :: S) K M r K' M') : oEv X d J pc L (.ref a :: S) K M r K' M' := by
  intro p l e R s m args below meth c H locs ls Θ n0 ns0 Q hC hD hL h1 h2 hR h3 h4 hQ
  have e1 := oAd_lt (Θ := Θ) (Nat.lt_of_lt_of_le ha hD.2.1)
  show W p l e R s m args below meth c H locs _ _ Q (F0 m pc ls (.ref (oAd Θ a) :: S.map (oTr Θ)))
  rw [e1]
  exact va_get hC.1 hC.2.1 hC.2.2.2.2.2.1 hc.2.1 hC.2.2.2.2.1 hC.2.2.2.2.2.2.2.2.2.1.1 hD.2.2.1 a (by rw [oW_at ha, oE_obj hs]) hc.1 k hk (hC.2.2.2.2.2.1 _ hF) (fun _ h => h) (v := .int (M.1 a k)) (by rw [oF_at hk]; simp [oV, ht]) hd (kk p l e R s m args below meth c H locs ls Θ n0 ns0 Q hC hD hL h1 h2 hR h3 h4 hQ)
theorem oe_getr {a ci k idx b : Nat} (hd : decode J.2.1 pc = .ok (.getfield idx, 3)) (hF : Cond.fieldLink J.2.2.2.2 idx (oTn ci k).1 (oTn ci k).2.1 (oTn ci k).2.2.1 ∈ oGood) (hc : oCK ci) (hk : k < oNn ci) (ht : ¬ oTy ci k = .int) (ha : a < K.1) (hs : (K.2.2.1 a).1 = ci + 6) (hb : K.2.2.2 a k = some b)
    (kk : oEv X d J (pc + 3) L (.ref b :: S) K M r K' M') : oEv X d J pc L (.ref a :: S) K M r K' M' := by
  intro p l e R s m args below meth c H locs ls Θ n0 ns0 Q hC hD hL h1 h2 hR h3 h4 hQ
  have e1 := oAd_lt (Θ := Θ) (Nat.lt_of_lt_of_le ha hD.2.1)
  show W p l e R s m args below meth c H locs _ _ Q (F0 m pc ls (.ref (oAd Θ a) :: S.map (oTr Θ)))
  rw [e1]
  exact va_get hC.1 hC.2.1 hC.2.2.2.2.2.1 hc.2.1 hC.2.2.2.2.1 hC.2.2.2.2.2.2.2.2.2.1.1 hD.2.2.1 a (by rw [oW_at ha, oE_obj hs]) hc.1 k hk (hC.2.2.2.2.2.1 _ hF) (fun _ h => h) (v := .ref (oAd Θ b)) (by rw [oF_at hk]; simp [oV, ht, hb, va_rf]) hd (kk p l e R s m args below meth c H locs ls Θ n0 ns0 Q hC hD hL h1 h2 hR h3 h4 hQ)
theorem oe_getN {a ci k idx : Nat} (hd : decode J.2.1 pc = .ok (.getfield idx, 3)) (hF : Cond.fieldLink J.2.2.2.2 idx (oTn ci k).1 (oTn ci k).2.1 (oTn ci k).2.2.1 ∈ oGood) (hc : oCK ci) (hk : k < oNn ci) (ht : ¬ oTy ci k = .int) (ha : a < K.1) (hs : (K.2.2.1 a).1 = ci + 6) (hb : K.2.2.2 a k = none)
    (kk : oEv X d J (pc + 3) L (.null :: S) K M r K' M') : oEv X d J pc L (.ref a :: S) K M r K' M' := by
  intro p l e R s m args below meth c H locs ls Θ n0 ns0 Q hC hD hL h1 h2 hR h3 h4 hQ
  have e1 := oAd_lt (Θ := Θ) (Nat.lt_of_lt_of_le ha hD.2.1)
  show W p l e R s m args below meth c H locs _ _ Q (F0 m pc ls (.ref (oAd Θ a) :: S.map (oTr Θ)))
  rw [e1]
  exact va_get hC.1 hC.2.1 hC.2.2.2.2.2.1 hc.2.1 hC.2.2.2.2.1 hC.2.2.2.2.2.2.2.2.2.1.1 hD.2.2.1 a (by rw [oW_at ha, oE_obj hs]) hc.1 k hk (hC.2.2.2.2.2.1 _ hF) (fun _ h => h) (v := .null) (by rw [oF_at hk]; simp [oV, ht, hb, va_rf]) hd (kk p l e R s m args below meth c H locs ls Θ n0 ns0 Q hC hD hL h1 h2 hR h3 h4 hQ)
theorem oDyn.set {Θ : oT} {K K' : oK} {M M' : oM} {s : State} {H H1 : Heap} {locs locs1 : List Loc} {a : Nat} (hD : oDyn Θ K M s H locs) (hn : K'.1 = K.1) (ha : a < K.1) (hat : va_at Θ.1 oCl (Θ.2.2.1 + a, oE Θ K' M' a) H1) (z : H1.size = H.size) (oq : ∀ q : Nat, q ≠ Θ.2.2.1 + a → H1[q]? = H[q]?)
    (ne : ∀ b, b ≠ a → oE Θ K' M' b = oE Θ K M b) (hl : ∀ q ∈ locs1, q ∈ locs ∨ q.base = Θ.2.2.1 + a) : oDyn Θ K' M' s H1 locs1 := by
  refine ⟨by rw [z, hn]; exact hD.1, by rw [hn]; exact hD.2.1, ?_, ?_⟩
  · rw [← oW_set hn ne]
    exact hD.2.2.1.set oW_D (oW_at ha) hat oq
  · refine ⟨by rw [z]; exact hD.2.2.2.1, fun q g1 g2 => ?_, fun q hq => ?_⟩
    · rw [oq q (fun h => g2 (by rw [h]; exact Nat.le_add_right _ _))]
      exact hD.2.2.2.2.1 q g1 g2
    · rcases hl q hq with h | h
      · exact hD.2.2.2.2.2 q h
      · rw [h]
        exact Nat.le_add_right _ _
theorem oLl {locs : List Loc} {a i : Nat} : ∀ q ∈ locs ++ [(⟨a, i⟩ : Loc)], q ∈ locs ∨ q.base = a := by
  intro q hq
  rcases List.mem_append.mp hq with h | h
  · exact Or.inl h
  · rw [List.mem_singleton.mp h]
    exact Or.inr rfl
theorem oV_up {Θ : oT} {K : oK} {M : oM} {ci a k : Nat} {x : Int32} (ht : oTy ci k = .int) : (∀ j, j < oNn ci → j ≠ k → oV Θ K (oUp M a k x) ci a j = oV Θ K M ci a j) ∧ oV Θ K (oUp M a k x) ci a k = .int x := by
  refine ⟨fun j _ hj => ?_, ?_⟩
  · unfold oV
    simp [oUp, upd, hj]
  · simp [oV, ht, oUp, upd]
theorem oV_upR {Θ : oT} {K : oK} {M : oM} {ci a k : Nat} {x : Option Nat} (ht : ¬ oTy ci k = .int) : (∀ j, j < oNn ci → j ≠ k → oV Θ (oUpR K a k x) M ci a j = oV Θ K M ci a j) ∧ oV Θ (oUpR K a k x) M ci a k = va_rf (x.map (oAd Θ)) := by
  refine ⟨fun j _ hj => ?_, ?_⟩
  · unfold oV
    simp [oUpR, va_up, hj]
  · simp [oV, ht, oUpR, va_up]
/-- a field's cell behind a store -/
theorem oFset {Θ : oT} {K K' : oK} {M M' : oM} {H1 : Heap} {a ci k : Nat} {v : Value} {cell : Cell} (hs : (K.2.2.1 a).1 = ci + 6) (hs' : K'.2.2.1 = K.2.2.1) (hc : oCl[ci]? = some (oRn ci, oTn ci, oNn ci)) (hk : k < oNn ci)
    (q2 : cell.cls = Θ.1.1 ci) (q3 : cell.vm = .none) (q4 : ∀ j, j < oNn ci → cell.slots[Θ.1.2 ci j]? = some (vp_V ((List.range (oNn ci)).map (oV Θ K M ci a)) j)) (hap : ∀ x y, x < oNn ci → y < oNn ci → x ≠ y → Θ.1.2 ci x ≠ Θ.1.2 ci y)
    (e1 : H1[Θ.2.2.1 + a]? = some (cell.setSlot (Θ.1.2 ci k) v)) (hv : ∀ j, j < oNn ci → j ≠ k → oV Θ K' M' ci a j = oV Θ K M ci a j) (hvk : oV Θ K' M' ci a k = v) : va_at Θ.1 oCl (Θ.2.2.1 + a, oE Θ K' M' a) H1 := by
  rw [oE_obj (by rw [hs']; exact hs), ← oF_set hv hvk]
  exact ⟨_, hc, t_OB.to (V := updV (vp_V ((List.range (oNn ci)).map (oV Θ K M ci a))) k v) ⟨_, e1, q2, q3, t_set q4 hap hk v⟩ (fun j _ => vp_updV_set (by simpa using hk) v j)⟩

theorem oe_putf {a ci k idx : Nat} {x : Int32} (hd : decode J.2.1 pc = .ok (.putfield idx, 3)) (hF : Cond.fieldLink J.2.2.2.2 idx (oTn ci k).1 (oTn ci k).2.1 (oTn ci k).2.2.1 ∈ oGood) (hc : oCK ci) (hk : k < oNn ci) (ht : oTy ci k = .int) (hf : (oTn ci k).2.2.2 = false) (ha : a < K.1) (hs : (K.2.2.1 a).1 = ci + 6)
    (kk : oEv X d J (pc + 3) L S (K) (oUp M a k x) r K' M') : oEv X d J pc L (.int x :: .ref a :: S) K M r K' M' := by
  intro p l e R s m args below meth c H locs ls Θ n0 ns0 Q hC hD hL h1 h2 hR h3 h4 hQ
  have ea := oAd_lt (Θ := Θ) (Nat.lt_of_lt_of_le ha hD.2.1)
  show W p l e R s m args below meth c H locs _ _ Q (F0 m pc ls (.int x :: .ref (oAd Θ a) :: S.map (oTr Θ)))
  rw [ea]
  have hK := hC.2.2.2.2.2.2.2.2.2.1.1
  have hts := hC.2.2.2.2.2.1
  have hown := hC.2.2.2.2.1
  have hap := va_apart (own := J.2.2.2.2) hts hc.2.1 (oTy ci) hc.2.2.1 hc.2.2.2 hK hc.1
  obtain ⟨r0, g1, cell, q1, q2, q3, q4⟩ := hD.2.2.1 a _ (by rw [oW_at ha, oE_obj hs])
  have hr : r0 = (oRn ci, oTn ci, oNn ci) := Option.some.inj (g1.symm.trans hc.1)
  subst hr
  obtain ⟨hSl, hfc, kC, hkC, hkind⟩ := hK.1 ci _ hc.1
  obtain ⟨cf, kf, fi, f, hi, hsl⟩ := hSl k hk
  have hlay := hts _ (hc.2.1 _ (u_in_lay hk))
  unfold u_lay at hlay
  rw [if_neg (by rw [hf]; decide)] at hlay
  have hst := (u_facts hfc hkC (u_lays hts hc.2.1 hk) hi).1
  have h6 := u_store hfc hkC hkind hlay hi (v := (.int x)) (by rw [hc.2.2.1 k hk, ht] : parseFieldDescriptor (oTn ci k).2.2.1 = some .int) rfl rfl
  refine W.putK hC.1 hC.2.1 (f := f) ⟨hown, hts _ hF, ⟨_, _, _, hi⟩, hst⟩ (by rw [q2]; exact h6) q1 q3 (by rw [hsl]; exact k2_hasslot (q4 k hk)) rfl rfl hd fun H1 e1 z oq => ?_
  rw [hsl] at e1 ⊢
  exact kk p l e R s m args below meth c H1 _ ls Θ n0 ns0 Q hC (hD.set rfl ha (oFset (K := K) (M := M) hs rfl hc.1 hk q2 q3 q4 hap e1 (oV_up ht).1 (oV_up ht).2) z oq oUp_ne oLl) hL h1 h2 hR h3 h4 hQ

theorem oe_putff {a ci k idx : Nat} {x : Int32} (hd : decode J.2.1 pc = .ok (.putfield idx, 3)) (hF : Cond.fieldLink J.2.2.2.2 idx (oTn ci k).1 (oTn ci k).2.1 (oTn ci k).2.2.1 ∈ oGood) (hc : oCK ci) (hk : k < oNn ci) (ht : oTy ci k = .int) (hf : (oTn ci k).2.2.2 = true) (hin : J.1.name = "<init>") (hdecl : (oTn ci k).1 = J.2.2.2.2) (ha : a < K.1) (hs : (K.2.2.1 a).1 = ci + 6)
    (kk : oEv X d J (pc + 3) L S (K) (oUp M a k x) r K' M') : oEv X d J pc L (.int x :: .ref a :: S) K M r K' M' := by
  intro p l e R s m args below meth c H locs ls Θ n0 ns0 Q hC hD hL h1 h2 hR h3 h4 hQ
  have ea := oAd_lt (Θ := Θ) (Nat.lt_of_lt_of_le ha hD.2.1)
  show W p l e R s m args below meth c H locs _ _ Q (F0 m pc ls (.int x :: .ref (oAd Θ a) :: S.map (oTr Θ)))
  rw [ea]
  have hK := hC.2.2.2.2.2.2.2.2.2.1.1
  have hts := hC.2.2.2.2.2.1
  have hown := hC.2.2.2.2.1
  have hap := va_apart (own := J.2.2.2.2) hts hc.2.1 (oTy ci) hc.2.2.1 hc.2.2.2 hK hc.1
  obtain ⟨r0, g1, cell, q1, q2, q3, q4⟩ := hD.2.2.1 a _ (by rw [oW_at ha, oE_obj hs])
  have hr : r0 = (oRn ci, oTn ci, oNn ci) := Option.some.inj (g1.symm.trans hc.1)
  subst hr
  obtain ⟨hSl, hfc, kC, hkC, hkind⟩ := hK.1 ci _ hc.1
  obtain ⟨cf, kf, fi, f, hi, hsl⟩ := hSl k hk
  have hlay := hts _ (hc.2.1 _ (u_in_lay hk))
  unfold u_lay at hlay
  rw [if_pos hf] at hlay
  have hst := (u_facts hfc hkC (u_lays hts hc.2.1 hk) hi).1
  have hcf : m.cls = cf := by
    obtain ⟨_, _, c', _, _, _, -, -, hf', -, -, -, hown2, -⟩ := Cond.laysFinal_spec hlay
    have e1 : c' = cf := by have := hi.symm.trans hf'; simp at this; exact this.1.symm
    rw [hdecl] at hown2
    rw [← e1]; exact Option.some.inj (hown.symm.trans hown2)
  have h6 := u_fits hfc hkC hkind (Or.inr hlay) hi (v := (.int x)) (by rw [hc.2.2.1 k hk, ht] : parseFieldDescriptor (oTn ci k).2.2.1 = some .int) rfl rfl
  refine W.putFinK hC.1 hC.2.1 hown (hts _ hF) hi hst hcf (hC.2.2.2.2.2.2.2.1 hin) (by rw [q2]; exact h6) q1 q3 (by rw [hsl]; exact k2_hasslot (q4 k hk)) rfl rfl hd fun H1 e1 z oq => ?_
  rw [hsl] at e1 ⊢
  exact kk p l e R s m args below meth c H1 _ ls Θ n0 ns0 Q hC (hD.set rfl ha (oFset (K := K) (M := M) hs rfl hc.1 hk q2 q3 q4 hap e1 (oV_up ht).1 (oV_up ht).2) z oq oUp_ne oLl) hL h1 h2 hR h3 h4 hQ

theorem oe_putr {a ci k idx : Nat} {x : Option Nat} (hd : decode J.2.1 pc = .ok (.putfield idx, 3)) (hF : Cond.fieldLink J.2.2.2.2 idx (oTn ci k).1 (oTn ci k).2.1 (oTn ci k).2.2.1 ∈ oGood) (hc : oCK ci) (hk : k < oNn ci) (ht : ¬ oTy ci k = .int) {ty : FieldType} (hty : oTy ci k = ty) (hfit : fits ty .null = true ∧ ∀ w : Nat, narrow ty (.ref w) = .ref w ∧ fits ty (.ref w) = true) (hf : (oTn ci k).2.2.2 = false) (ha : a < K.1) (hs : (K.2.2.1 a).1 = ci + 6)
    (kk : oEv X d J (pc + 3) L S (oUpR K a k x) (M) r K' M') : oEv X d J pc L (va_rf x :: .ref a :: S) K M r K' M' := by
  intro p l e R s m args below meth c H locs ls Θ n0 ns0 Q hC hD hL h1 h2 hR h3 h4 hQ
  have ea := oAd_lt (Θ := Θ) (Nat.lt_of_lt_of_le ha hD.2.1)
  show W p l e R s m args below meth c H locs _ _ Q (F0 m pc ls (oTr Θ (va_rf x) :: .ref (oAd Θ a) :: S.map (oTr Θ)))
  rw [show oTr Θ (va_rf x) = va_rf (x.map (oAd Θ)) by cases x <;> rfl]
  rw [ea]
  have hK := hC.2.2.2.2.2.2.2.2.2.1.1
  have hts := hC.2.2.2.2.2.1
  have hown := hC.2.2.2.2.1
  have hap := va_apart (own := J.2.2.2.2) hts hc.2.1 (oTy ci) hc.2.2.1 hc.2.2.2 hK hc.1
  obtain ⟨r0, g1, cell, q1, q2, q3, q4⟩ := hD.2.2.1 a _ (by rw [oW_at ha, oE_obj hs])
  have hr : r0 = (oRn ci, oTn ci, oNn ci) := Option.some.inj (g1.symm.trans hc.1)
  subst hr
  obtain ⟨hSl, hfc, kC, hkC, hkind⟩ := hK.1 ci _ hc.1
  obtain ⟨cf, kf, fi, f, hi, hsl⟩ := hSl k hk
  have hlay := hts _ (hc.2.1 _ (u_in_lay hk))
  unfold u_lay at hlay
  rw [if_neg (by rw [hf]; decide)] at hlay
  have hst := (u_facts hfc hkC (u_lays hts hc.2.1 hk) hi).1
  have h6 := u_store hfc hkC hkind hlay hi (v := (va_rf (x.map (oAd Θ)))) (by rw [hc.2.2.1 k hk, hty] : parseFieldDescriptor (oTn ci k).2.2.1 = some ty) (by cases x with | none => cases ty <;> rfl | some w => exact (hfit.2 _).1) (by cases x with | none => exact hfit.1 | some w => exact (hfit.2 _).2)
  refine W.putK hC.1 hC.2.1 (f := f) ⟨hown, hts _ hF, ⟨_, _, _, hi⟩, hst⟩ (by rw [q2]; exact h6) q1 q3 (by rw [hsl]; exact k2_hasslot (q4 k hk)) rfl rfl hd fun H1 e1 z oq => ?_
  rw [hsl] at e1 ⊢
  exact kk p l e R s m args below meth c H1 _ ls Θ n0 ns0 Q hC (hD.set rfl ha (oFset (K := K) (M := M) hs rfl hc.1 hk q2 q3 q4 hap e1 (oV_upR ht).1 (oV_upR ht).2) z oq oUpR_ne oLl) hL h1 h2 hR h3 h4 hQ

theorem oe_putrf {a ci k idx : Nat} {x : Option Nat} (hd : decode J.2.1 pc = .ok (.putfield idx, 3)) (hF : Cond.fieldLink J.2.2.2.2 idx (oTn ci k).1 (oTn ci k).2.1 (oTn ci k).2.2.1 ∈ oGood) (hc : oCK ci) (hk : k < oNn ci) (ht : ¬ oTy ci k = .int) {ty : FieldType} (hty : oTy ci k = ty) (hfit : fits ty .null = true ∧ ∀ w : Nat, narrow ty (.ref w) = .ref w ∧ fits ty (.ref w) = true) (hf : (oTn ci k).2.2.2 = true) (hin : J.1.name = "<init>") (hdecl : (oTn ci k).1 = J.2.2.2.2) (ha : a < K.1) (hs : (K.2.2.1 a).1 = ci + 6)
    (kk : oEv X d J (pc + 3) L S (oUpR K a k x) (M) r K' M') : oEv X d J pc L (va_rf x :: .ref a :: S) K M r K' M' := by
  intro p l e R s m args below meth c H locs ls Θ n0 ns0 Q hC hD hL h1 h2 hR h3 h4 hQ
  have ea := oAd_lt (Θ := Θ) (Nat.lt_of_lt_of_le ha hD.2.1)
  show W p l e R s m args below meth c H locs _ _ Q (F0 m pc ls (oTr Θ (va_rf x) :: .ref (oAd Θ a) :: S.map (oTr Θ)))
  rw [show oTr Θ (va_rf x) = va_rf (x.map (oAd Θ)) by cases x <;> rfl]
  rw [ea]
  have hK := hC.2.2.2.2.2.2.2.2.2.1.1
  have hts := hC.2.2.2.2.2.1
  have hown := hC.2.2.2.2.1
  have hap := va_apart (own := J.2.2.2.2) hts hc.2.1 (oTy ci) hc.2.2.1 hc.2.2.2 hK hc.1
  obtain ⟨r0, g1, cell, q1, q2, q3, q4⟩ := hD.2.2.1 a _ (by rw [oW_at ha, oE_obj hs])
  have hr : r0 = (oRn ci, oTn ci, oNn ci) := Option.some.inj (g1.symm.trans hc.1)
  subst hr
  obtain ⟨hSl, hfc, kC, hkC, hkind⟩ := hK.1 ci _ hc.1
  obtain ⟨cf, kf, fi, f, hi, hsl⟩ := hSl k hk
  have hlay := hts _ (hc.2.1 _ (u_in_lay hk))
  unfold u_lay at hlay
  rw [if_pos hf] at hlay
  have hst := (u_facts hfc hkC (u_lays hts hc.2.1 hk) hi).1
  have hcf : m.cls = cf := by
    obtain ⟨_, _, c', _, _, _, -, -, hf', -, -, -, hown2, -⟩ := Cond.laysFinal_spec hlay
    have e1 : c' = cf := by have := hi.symm.trans hf'; simp at this; exact this.1.symm
    rw [hdecl] at hown2
    rw [← e1]; exact Option.some.inj (hown.symm.trans hown2)
  have h6 := u_fits hfc hkC hkind (Or.inr hlay) hi (v := (va_rf (x.map (oAd Θ)))) (by rw [hc.2.2.1 k hk, hty] : parseFieldDescriptor (oTn ci k).2.2.1 = some ty) (by cases x with | none => cases ty <;> rfl | some w => exact (hfit.2 _).1) (by cases x with | none => exact hfit.1 | some w => exact (hfit.2 _).2)
  refine W.putFinK hC.1 hC.2.1 hown (hts _ hF) hi hst hcf (hC.2.2.2.2.2.2.2.1 hin) (by rw [q2]; exact h6) q1 q3 (by rw [hsl]; exact k2_hasslot (q4 k hk)) rfl rfl hd fun H1 e1 z oq => ?_
  rw [hsl] at e1 ⊢
  exact kk p l e R s m args below meth c H1 _ ls Θ n0 ns0 Q hC (hD.set rfl ha (oFset (K := K) (M := M) hs rfl hc.1 hk q2 q3 q4 hap e1 (oV_upR ht).1 (oV_upR ht).2) z oq oUpR_ne oLl) hL h1 h2 hR h3 h4 hQ

end MEM
