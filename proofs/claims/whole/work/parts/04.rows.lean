/-! one row an instruction, over the picture -/
section ROWS
variable {X : oX} {d : Nat} {J : oJ} {pc : Nat} {L : List (Option Value)} {S : List Value} {K K' : oK} {M M' : oM} {r : Option Value}
theorem oe_iconst {n : Int} {v : Int32} (hd : decode J.2.1 pc = .ok (.iconst n, 1)) (hv : Int32.ofInt n = v)
    (k : oEv X d J (pc + 1) L (.int v :: S) K M r K' M') : oEv X d J pc L (S) K M r K' M' := by
  intro p l e R s m args below meth c H locs ls Θ n0 ns0 Q hC hD hL h1 h2 hR h3 h4 hQ
  exact lv_iconst hC.1 hC.2.1 hd hv (k p l e R s m args below meth c H locs ls Θ n0 ns0 Q hC hD hL h1 h2 hR h3 h4 hQ)
theorem oe_bipush {n : Int} {v : Int32} (hd : decode J.2.1 pc = .ok (.bipush n, 2)) (hv : (Int8.ofInt n).toInt32 = v)
    (k : oEv X d J (pc + 2) L (.int v :: S) K M r K' M') : oEv X d J pc L (S) K M r K' M' := by
  intro p l e R s m args below meth c H locs ls Θ n0 ns0 Q hC hD hL h1 h2 hR h3 h4 hQ
  exact lv_bipush hC.1 hC.2.1 hd hv (k p l e R s m args below meth c H locs ls Θ n0 ns0 Q hC hD hL h1 h2 hR h3 h4 hQ)
theorem oe_sipush {n : Int} {v : Int32} (hd : decode J.2.1 pc = .ok (.sipush n, 3)) (hv : (Int16.ofInt n).toInt32 = v)
    (k : oEv X d J (pc + 3) L (.int v :: S) K M r K' M') : oEv X d J pc L (S) K M r K' M' := by
  intro p l e R s m args below meth c H locs ls Θ n0 ns0 Q hC hD hL h1 h2 hR h3 h4 hQ
  exact lv_sipush hC.1 hC.2.1 hd hv (k p l e R s m args below meth c H locs ls Θ n0 ns0 Q hC hD hL h1 h2 hR h3 h4 hQ)
theorem oe_lconst {n : Fin 2} {v : Int64} (hd : decode J.2.1 pc = .ok (.lconst n, 1)) (hv : Int64.ofNat (n : Nat) = v)
    (k : oEv X d J (pc + 1) L (.long v :: S) K M r K' M') : oEv X d J pc L (S) K M r K' M' := by
  intro p l e R s m args below meth c H locs ls Θ n0 ns0 Q hC hD hL h1 h2 hR h3 h4 hQ
  exact lv_lconst hC.1 hC.2.1 hd hv (k p l e R s m args below meth c H locs ls Θ n0 ns0 Q hC hD hL h1 h2 hR h3 h4 hQ)
theorem oe_null  (hd : decode J.2.1 pc = .ok (.aconst_null, 1)) 
    (k : oEv X d J (pc + 1) L (.null :: S) K M r K' M') : oEv X d J pc L (S) K M r K' M' := by
  intro p l e R s m args below meth c H locs ls Θ n0 ns0 Q hC hD hL h1 h2 hR h3 h4 hQ
  exact lv_null hC.1 hC.2.1 hd  (k p l e R s m args below meth c H locs ls Θ n0 ns0 Q hC hD hL h1 h2 hR h3 h4 hQ)
theorem oe_ldc {i : Nat} {v : Int32} (hd : decode J.2.1 pc = .ok (.ldc i, 2)) (hw : Cond.constant J.2.2.2.2 i v ∈ oGood)
    (k : oEv X d J (pc + 2) L (.int v :: S) K M r K' M') : oEv X d J pc L S K M r K' M' := by
  intro p l e R s m args below meth c H locs ls Θ n0 ns0 Q hC hD hL h1 h2 hR h3 h4 hQ
  exact lv_ldc hC.1 hC.2.1 hC.2.2.2.2.1 (hC.2.2.2.2.2.1 _ hw) hd (k p l e R s m args below meth c H locs ls Θ n0 ns0 Q hC hD hL h1 h2 hR h3 h4 hQ)
theorem oe_ldcw {i : Nat} {v : Int32} (hd : decode J.2.1 pc = .ok (.ldc_w i, 3)) (hw : Cond.constant J.2.2.2.2 i v ∈ oGood)
    (k : oEv X d J (pc + 3) L (.int v :: S) K M r K' M') : oEv X d J pc L S K M r K' M' := by
  intro p l e R s m args below meth c H locs ls Θ n0 ns0 Q hC hD hL h1 h2 hR h3 h4 hQ
  exact lv_ldcw hC.1 hC.2.1 hC.2.2.2.2.1 (hC.2.2.2.2.2.1 _ hw) hd (k p l e R s m args below meth c H locs ls Θ n0 ns0 Q hC hD hL h1 h2 hR h3 h4 hQ)
theorem oe_ldc2 {i : Nat} {v : Int64} (hd : decode J.2.1 pc = .ok (.ldc2_w i, 3)) (hw : Cond.constantLong J.2.2.2.2 i v ∈ oGood)
    (k : oEv X d J (pc + 3) L (.long v :: S) K M r K' M') : oEv X d J pc L S K M r K' M' := by
  intro p l e R s m args below meth c H locs ls Θ n0 ns0 Q hC hD hL h1 h2 hR h3 h4 hQ
  exact lv_ldc2 hC.1 hC.2.1 hC.2.2.2.2.1 (hC.2.2.2.2.2.1 _ hw) hd (k p l e R s m args below meth c H locs ls Θ n0 ns0 Q hC hD hL h1 h2 hR h3 h4 hQ)
theorem oe_iload_n {i : Fin 4} {x : Int32} (hd : decode J.2.1 pc = .ok (.iload_n i, 1)) (hl : L[(i : Nat)]? = some (some (.int x)))
    (k : oEv X d J (pc + 1) L (.int x :: S) K M r K' M') : oEv X d J pc L S K M r K' M' := by
  intro p l e R s m args below meth c H locs ls Θ n0 ns0 Q hC hD hL h1 h2 hR h3 h4 hQ
  exact lv_iload_n hC.1 hC.2.1 hd rfl (hL.2.2 _ _ hl) (k p l e R s m args below meth c H locs ls Θ n0 ns0 Q hC hD hL h1 h2 hR h3 h4 hQ)
theorem oe_iload {i : Nat} {x : Int32} (hd : decode J.2.1 pc = .ok (.iload i, 2)) (hl : L[i]? = some (some (.int x)))
    (k : oEv X d J (pc + 2) L (.int x :: S) K M r K' M') : oEv X d J pc L S K M r K' M' := by
  intro p l e R s m args below meth c H locs ls Θ n0 ns0 Q hC hD hL h1 h2 hR h3 h4 hQ
  exact lv_iload hC.1 hC.2.1 hd (hL.2.2 _ _ hl) (k p l e R s m args below meth c H locs ls Θ n0 ns0 Q hC hD hL h1 h2 hR h3 h4 hQ)
theorem oe_lload_n {i : Fin 4} {x : Int64} (hd : decode J.2.1 pc = .ok (.lload_n i, 1)) (hl : L[(i : Nat)]? = some (some (.long x)))
    (k : oEv X d J (pc + 1) L (.long x :: S) K M r K' M') : oEv X d J pc L S K M r K' M' := by
  intro p l e R s m args below meth c H locs ls Θ n0 ns0 Q hC hD hL h1 h2 hR h3 h4 hQ
  exact lv_lload_n hC.1 hC.2.1 hd rfl (hL.2.2 _ _ hl) (k p l e R s m args below meth c H locs ls Θ n0 ns0 Q hC hD hL h1 h2 hR h3 h4 hQ)
theorem oe_lload {i : Nat} {x : Int64} (hd : decode J.2.1 pc = .ok (.lload i, 2)) (hl : L[i]? = some (some (.long x)))
    (k : oEv X d J (pc + 2) L (.long x :: S) K M r K' M') : oEv X d J pc L S K M r K' M' := by
  intro p l e R s m args below meth c H locs ls Θ n0 ns0 Q hC hD hL h1 h2 hR h3 h4 hQ
  exact lv_lload hC.1 hC.2.1 hd (hL.2.2 _ _ hl) (k p l e R s m args below meth c H locs ls Θ n0 ns0 Q hC hD hL h1 h2 hR h3 h4 hQ)
theorem oe_aload_n {i : Fin 4} {x : Nat} (hd : decode J.2.1 pc = .ok (.aload_n i, 1)) (hl : L[(i : Nat)]? = some (some (.ref x)))
    (k : oEv X d J (pc + 1) L (.ref x :: S) K M r K' M') : oEv X d J pc L S K M r K' M' := by
  intro p l e R s m args below meth c H locs ls Θ n0 ns0 Q hC hD hL h1 h2 hR h3 h4 hQ
  exact lv_aload_n hC.1 hC.2.1 hd rfl (hL.2.2 _ _ hl) (k p l e R s m args below meth c H locs ls Θ n0 ns0 Q hC hD hL h1 h2 hR h3 h4 hQ)
theorem oe_aload {i : Nat} {x : Nat} (hd : decode J.2.1 pc = .ok (.aload i, 2)) (hl : L[i]? = some (some (.ref x)))
    (k : oEv X d J (pc + 2) L (.ref x :: S) K M r K' M') : oEv X d J pc L S K M r K' M' := by
  intro p l e R s m args below meth c H locs ls Θ n0 ns0 Q hC hD hL h1 h2 hR h3 h4 hQ
  exact lv_aload hC.1 hC.2.1 hd (hL.2.2 _ _ hl) (k p l e R s m args below meth c H locs ls Θ n0 ns0 Q hC hD hL h1 h2 hR h3 h4 hQ)
theorem oe_aload_nN {i : Fin 4} (hd : decode J.2.1 pc = .ok (.aload_n i, 1)) (hl : L[(i : Nat)]? = some (some .null))
    (k : oEv X d J (pc + 1) L (.null :: S) K M r K' M') : oEv X d J pc L S K M r K' M' := by
  intro p l e R s m args below meth c H locs ls Θ n0 ns0 Q hC hD hL h1 h2 hR h3 h4 hQ
  exact lv_aload_nN hC.1 hC.2.1 hd rfl (hL.2.2 _ _ hl) (k p l e R s m args below meth c H locs ls Θ n0 ns0 Q hC hD hL h1 h2 hR h3 h4 hQ)
theorem oe_aloadN {i : Nat} (hd : decode J.2.1 pc = .ok (.aload i, 2)) (hl : L[i]? = some (some .null))
    (k : oEv X d J (pc + 2) L (.null :: S) K M r K' M') : oEv X d J pc L S K M r K' M' := by
  intro p l e R s m args below meth c H locs ls Θ n0 ns0 Q hC hD hL h1 h2 hR h3 h4 hQ
  exact lv_aloadN hC.1 hC.2.1 hd (hL.2.2 _ _ hl) (k p l e R s m args below meth c H locs ls Θ n0 ns0 Q hC hD hL h1 h2 hR h3 h4 hQ)
theorem oTr_cat (Θ : oT) (v : Value) : (oTr Θ v).category = v.category := by cases v <;> rfl
def oAs (Θ : oT) (L : List (Option Value)) : List (Nat × Value) := (List.range L.length).filterMap (fun j => (L.getD j none).map (fun v => (j, oTr Θ v)))
theorem oAs_mem {Θ : oT} {L : List (Option Value)} {j : Nat} {v : Value} (h : L[j]? = some (some v)) : (j, oTr Θ v) ∈ oAs Θ L := by
  refine List.mem_filterMap.mpr ⟨j, List.mem_range.mpr (List.getElem?_eq_some_iff.mp h).1, ?_⟩
  simp [List.getD, h]
theorem oLoc_has {Θ : oT} {nl : Nat} {ls : Array Slot} {L : List (Option Value)} (h : oLoc Θ nl ls L) : lv_has ls nl (oAs Θ L) := by
  refine ⟨h.1, h.2.1, fun q hq => ?_⟩
  obtain ⟨j, -, hj⟩ := List.mem_filterMap.mp hq
  cases hv : L.getD j none with
  | none => rw [hv] at hj; cases hj
  | some v =>
    rw [hv] at hj
    cases hj
    refine h.2.2 j v ?_
    cases hg : L[j]? with
    | none => simp [List.getD, hg] at hv
    | some w => simp [List.getD, hg] at hv; rw [hv]
def oStOk (L : List (Option Value)) : Nat → Bool
  | 0 => true
  | i + 1 => match L[i]? with
    | some (some w) => !(w.category == 2)
    | _ => true
theorem oLoc_st1 {Θ : oT} {nl i : Nat} {ls : Array Slot} {L L2 : List (Option Value)} {v : Value} (h2 : L.set i (some v) = L2) (hok : oStOk L i = true)
    (h : lv_has ls nl ((i, oTr Θ v) :: (oAs Θ L).filter (fun q => !(q.1 == i) && !(q.1 + 1 == i && q.2.category == 2)))) : oLoc Θ nl ls L2 := by
  refine ⟨h.1, h.2.1, fun j w hj => ?_⟩
  subst h2
  by_cases hji : j = i
  · subst hji
    have hlt : j < L.length := by have := (List.getElem?_eq_some_iff.mp hj).1; simpa using this
    rw [List.getElem?_set_self hlt] at hj
    cases hj
    exact h.2.2 _ List.mem_cons_self
  · rw [List.getElem?_set_ne (Ne.symm hji)] at hj
    refine h.2.2 (j, oTr Θ w) (List.mem_cons_of_mem _ (List.mem_filter.mpr ⟨oAs_mem hj, ?_⟩))
    by_cases hj1 : j + 1 = i
    · subst hj1
      simp only [oStOk, hj] at hok
      simp [oTr_cat]
      simpa using hok
    · simp [hji, hj1]
theorem oLoc_st2 {Θ : oT} {nl i : Nat} {ls : Array Slot} {L L2 : List (Option Value)} {v : Value} (h2 : (L.set i (some v)).set (i + 1) none = L2) (hok : oStOk L i = true)
    (h : lv_has ls nl ((i, oTr Θ v) :: (oAs Θ L).filter (fun q => !(q.1 == i) && (!(q.1 == i + 1) && !(q.1 + 1 == i && q.2.category == 2))))) : oLoc Θ nl ls L2 := by
  refine ⟨h.1, h.2.1, fun j w hj => ?_⟩
  subst h2
  by_cases hj2 : j = i + 1
  · subst hj2
    have hlt : i + 1 < ((L.set i (some v)).set (i + 1) none).length := (List.getElem?_eq_some_iff.mp hj).1
    rw [List.getElem?_set_self (by simpa using hlt)] at hj
    cases hj
  · rw [List.getElem?_set_ne (Ne.symm hj2)] at hj
    by_cases hji : j = i
    · subst hji
      have hlt : j < L.length := by have := (List.getElem?_eq_some_iff.mp hj).1; simpa using this
      rw [List.getElem?_set_self hlt] at hj
      cases hj
      exact h.2.2 _ List.mem_cons_self
    · rw [List.getElem?_set_ne (Ne.symm hji)] at hj
      refine h.2.2 (j, oTr Θ w) (List.mem_cons_of_mem _ (List.mem_filter.mpr ⟨oAs_mem hj, ?_⟩))
      by_cases hj1 : j + 1 = i
      · subst hj1
        simp only [oStOk, hj] at hok
        simp [oTr_cat]
        exact ⟨by omega, by simpa using hok⟩
      · simp [hji, hj1, hj2]
theorem oe_istore {i : Nat} {x : Int32} {L2 : List (Option Value)} (hd : decode J.2.1 pc = .ok (.istore i, 2)) (h5 : L.set i (some (.int x)) = L2) (hi : i < J.2.2.1) (hok : oStOk L i = true)
    (k : oEv X d J (pc + 2) L2 S K M r K' M') : oEv X d J pc L (.int x :: S) K M r K' M' := by
  intro p l e R s m args below meth c H locs ls Θ n0 ns0 Q hC hD hL h1 h2 hR h3 h4 hQ
  exact lv_istore hC.1 hC.2.1 hd (oLoc_has hL) hi rfl (fun ls2 hl2 => k p l e R s m args below meth c H locs ls2 Θ n0 ns0 Q hC hD (oLoc_st1 h5 hok hl2) h1 h2 hR h3 h4 hQ)
theorem oe_istore_n {f : Fin 4} {i : Nat} {x : Int32} {L2 : List (Option Value)} (hd : decode J.2.1 pc = .ok (.istore_n f, 1)) (hf : (f : Nat) = i) (h5 : L.set i (some (.int x)) = L2) (hi : i < J.2.2.1) (hok : oStOk L i = true)
    (k : oEv X d J (pc + 1) L2 S K M r K' M') : oEv X d J pc L (.int x :: S) K M r K' M' := by
  intro p l e R s m args below meth c H locs ls Θ n0 ns0 Q hC hD hL h1 h2 hR h3 h4 hQ
  exact lv_istore_n hC.1 hC.2.1 hd hf (oLoc_has hL) hi rfl (fun ls2 hl2 => k p l e R s m args below meth c H locs ls2 Θ n0 ns0 Q hC hD (oLoc_st1 h5 hok hl2) h1 h2 hR h3 h4 hQ)
theorem oe_astore {i : Nat} {x : Nat} {L2 : List (Option Value)} (hd : decode J.2.1 pc = .ok (.astore i, 2)) (h5 : L.set i (some (.ref x)) = L2) (hi : i < J.2.2.1) (hok : oStOk L i = true)
    (k : oEv X d J (pc + 2) L2 S K M r K' M') : oEv X d J pc L (.ref x :: S) K M r K' M' := by
  intro p l e R s m args below meth c H locs ls Θ n0 ns0 Q hC hD hL h1 h2 hR h3 h4 hQ
  exact lv_astore hC.1 hC.2.1 hd (oLoc_has hL) hi rfl (fun ls2 hl2 => k p l e R s m args below meth c H locs ls2 Θ n0 ns0 Q hC hD (oLoc_st1 h5 hok hl2) h1 h2 hR h3 h4 hQ)
theorem oe_astore_n {f : Fin 4} {i : Nat} {x : Nat} {L2 : List (Option Value)} (hd : decode J.2.1 pc = .ok (.astore_n f, 1)) (hf : (f : Nat) = i) (h5 : L.set i (some (.ref x)) = L2) (hi : i < J.2.2.1) (hok : oStOk L i = true)
    (k : oEv X d J (pc + 1) L2 S K M r K' M') : oEv X d J pc L (.ref x :: S) K M r K' M' := by
  intro p l e R s m args below meth c H locs ls Θ n0 ns0 Q hC hD hL h1 h2 hR h3 h4 hQ
  exact lv_astore_n hC.1 hC.2.1 hd hf (oLoc_has hL) hi rfl (fun ls2 hl2 => k p l e R s m args below meth c H locs ls2 Θ n0 ns0 Q hC hD (oLoc_st1 h5 hok hl2) h1 h2 hR h3 h4 hQ)
theorem oe_lstore {i : Nat} {x : Int64} {L2 : List (Option Value)} (hd : decode J.2.1 pc = .ok (.lstore i, 2)) (h5 : (L.set i (some (.long x))).set (i + 1) none = L2) (hi : i + 1 < J.2.2.1) (hok : oStOk L i = true)
    (k : oEv X d J (pc + 2) L2 S K M r K' M') : oEv X d J pc L (.long x :: S) K M r K' M' := by
  intro p l e R s m args below meth c H locs ls Θ n0 ns0 Q hC hD hL h1 h2 hR h3 h4 hQ
  exact lv_lstore hC.1 hC.2.1 hd (oLoc_has hL) hi rfl (fun ls2 hl2 => k p l e R s m args below meth c H locs ls2 Θ n0 ns0 Q hC hD (oLoc_st2 h5 hok hl2) h1 h2 hR h3 h4 hQ)
theorem oe_lstore_n {f : Fin 4} {i : Nat} {x : Int64} {L2 : List (Option Value)} (hd : decode J.2.1 pc = .ok (.lstore_n f, 1)) (hf : (f : Nat) = i) (h5 : (L.set i (some (.long x))).set (i + 1) none = L2) (hi : i + 1 < J.2.2.1) (hok : oStOk L i = true)
    (k : oEv X d J (pc + 1) L2 S K M r K' M') : oEv X d J pc L (.long x :: S) K M r K' M' := by
  intro p l e R s m args below meth c H locs ls Θ n0 ns0 Q hC hD hL h1 h2 hR h3 h4 hQ
  exact lv_lstore_n hC.1 hC.2.1 hd hf (oLoc_has hL) hi rfl (fun ls2 hl2 => k p l e R s m args below meth c H locs ls2 Θ n0 ns0 Q hC hD (oLoc_st2 h5 hok hl2) h1 h2 hR h3 h4 hQ)
theorem oe_astoreN {i : Nat} {L2 : List (Option Value)} (hd : decode J.2.1 pc = .ok (.astore i, 2)) (h5 : L.set i (some .null) = L2) (hi : i < J.2.2.1) (hok : oStOk L i = true)
    (k : oEv X d J (pc + 2) L2 S K M r K' M') : oEv X d J pc L (.null :: S) K M r K' M' := by
  intro p l e R s m args below meth c H locs ls Θ n0 ns0 Q hC hD hL h1 h2 hR h3 h4 hQ
  exact lv_astoreN hC.1 hC.2.1 hd (oLoc_has hL) hi rfl (fun ls2 hl2 => k p l e R s m args below meth c H locs ls2 Θ n0 ns0 Q hC hD (oLoc_st1 h5 hok hl2) h1 h2 hR h3 h4 hQ)
theorem oe_astore_nN {f : Fin 4} {i : Nat} {L2 : List (Option Value)} (hd : decode J.2.1 pc = .ok (.astore_n f, 1)) (hf : (f : Nat) = i) (h5 : L.set i (some .null) = L2) (hi : i < J.2.2.1) (hok : oStOk L i = true)
    (k : oEv X d J (pc + 1) L2 S K M r K' M') : oEv X d J pc L (.null :: S) K M r K' M' := by
  intro p l e R s m args below meth c H locs ls Θ n0 ns0 Q hC hD hL h1 h2 hR h3 h4 hQ
  exact lv_astore_nN hC.1 hC.2.1 hd hf (oLoc_has hL) hi rfl (fun ls2 hl2 => k p l e R s m args below meth c H locs ls2 Θ n0 ns0 Q hC hD (oLoc_st1 h5 hok hl2) h1 h2 hR h3 h4 hQ)
theorem oe_iinc {i : Nat} {n : Int} {x v : Int32} {L2 : List (Option Value)} (hd : decode J.2.1 pc = .ok (.iinc i n, 3)) (hl : L[i]? = some (some (.int x))) (hv : x + Int32.ofInt n = v) (h5 : L.set i (some (.int v)) = L2) (hi : i < J.2.2.1) (hok : oStOk L i = true)
    (k : oEv X d J (pc + 3) L2 S K M r K' M') : oEv X d J pc L S K M r K' M' := by
  intro p l e R s m args below meth c H locs ls Θ n0 ns0 Q hC hD hL h1 h2 hR h3 h4 hQ
  obtain ⟨q, hq⟩ := List.getElem?_of_mem (oAs_mem (Θ := Θ) hl)
  exact lv_iinc hC.1 hC.2.1 hd (oLoc_has hL) hq hv hi rfl (fun ls2 hl2 => k p l e R s m args below meth c H locs ls2 Θ n0 ns0 Q hC hD (oLoc_st1 h5 hok hl2) h1 h2 hR h3 h4 hQ)
theorem oe_iadd {x y : Int32} (hd : decode J.2.1 pc = .ok (.iadd, 1)) 
    (k : oEv X d J (pc + 1) L (.int (x + y) :: S) K M r K' M') : oEv X d J pc L (.int y :: .int x :: S) K M r K' M' := by
  intro p l e R s m args below meth c H locs ls Θ n0 ns0 Q hC hD hL h1 h2 hR h3 h4 hQ
  exact lv_iadd hC.1 hC.2.1 hd  (k p l e R s m args below meth c H locs ls Θ n0 ns0 Q hC hD hL h1 h2 hR h3 h4 hQ)
theorem oe_isub {x y : Int32} (hd : decode J.2.1 pc = .ok (.isub, 1)) 
    (k : oEv X d J (pc + 1) L (.int (x - y) :: S) K M r K' M') : oEv X d J pc L (.int y :: .int x :: S) K M r K' M' := by
  intro p l e R s m args below meth c H locs ls Θ n0 ns0 Q hC hD hL h1 h2 hR h3 h4 hQ
  exact lv_isub hC.1 hC.2.1 hd  (k p l e R s m args below meth c H locs ls Θ n0 ns0 Q hC hD hL h1 h2 hR h3 h4 hQ)
theorem oe_imul {x y : Int32} (hd : decode J.2.1 pc = .ok (.imul, 1)) 
    (k : oEv X d J (pc + 1) L (.int (x * y) :: S) K M r K' M') : oEv X d J pc L (.int y :: .int x :: S) K M r K' M' := by
  intro p l e R s m args below meth c H locs ls Θ n0 ns0 Q hC hD hL h1 h2 hR h3 h4 hQ
  exact lv_imul hC.1 hC.2.1 hd  (k p l e R s m args below meth c H locs ls Θ n0 ns0 Q hC hD hL h1 h2 hR h3 h4 hQ)
theorem oe_iand {x y : Int32} (hd : decode J.2.1 pc = .ok (.iand, 1)) 
    (k : oEv X d J (pc + 1) L (.int (x &&& y) :: S) K M r K' M') : oEv X d J pc L (.int y :: .int x :: S) K M r K' M' := by
  intro p l e R s m args below meth c H locs ls Θ n0 ns0 Q hC hD hL h1 h2 hR h3 h4 hQ
  exact lv_iand hC.1 hC.2.1 hd  (k p l e R s m args below meth c H locs ls Θ n0 ns0 Q hC hD hL h1 h2 hR h3 h4 hQ)
theorem oe_ior {x y : Int32} (hd : decode J.2.1 pc = .ok (.ior, 1)) 
    (k : oEv X d J (pc + 1) L (.int (x ||| y) :: S) K M r K' M') : oEv X d J pc L (.int y :: .int x :: S) K M r K' M' := by
  intro p l e R s m args below meth c H locs ls Θ n0 ns0 Q hC hD hL h1 h2 hR h3 h4 hQ
  exact lv_ior hC.1 hC.2.1 hd  (k p l e R s m args below meth c H locs ls Θ n0 ns0 Q hC hD hL h1 h2 hR h3 h4 hQ)
theorem oe_ixor {x y : Int32} (hd : decode J.2.1 pc = .ok (.ixor, 1)) 
    (k : oEv X d J (pc + 1) L (.int (x ^^^ y) :: S) K M r K' M') : oEv X d J pc L (.int y :: .int x :: S) K M r K' M' := by
  intro p l e R s m args below meth c H locs ls Θ n0 ns0 Q hC hD hL h1 h2 hR h3 h4 hQ
  exact lv_ixor hC.1 hC.2.1 hd  (k p l e R s m args below meth c H locs ls Θ n0 ns0 Q hC hD hL h1 h2 hR h3 h4 hQ)
theorem oe_ishl {x y : Int32} (hd : decode J.2.1 pc = .ok (.ishl, 1)) 
    (k : oEv X d J (pc + 1) L (.int (x <<< (y &&& 31)) :: S) K M r K' M') : oEv X d J pc L (.int y :: .int x :: S) K M r K' M' := by
  intro p l e R s m args below meth c H locs ls Θ n0 ns0 Q hC hD hL h1 h2 hR h3 h4 hQ
  exact lv_ishl hC.1 hC.2.1 hd  (k p l e R s m args below meth c H locs ls Θ n0 ns0 Q hC hD hL h1 h2 hR h3 h4 hQ)
theorem oe_ishr {x y : Int32} (hd : decode J.2.1 pc = .ok (.ishr, 1)) 
    (k : oEv X d J (pc + 1) L (.int (x >>> (y &&& 31)) :: S) K M r K' M') : oEv X d J pc L (.int y :: .int x :: S) K M r K' M' := by
  intro p l e R s m args below meth c H locs ls Θ n0 ns0 Q hC hD hL h1 h2 hR h3 h4 hQ
  exact lv_ishr hC.1 hC.2.1 hd  (k p l e R s m args below meth c H locs ls Θ n0 ns0 Q hC hD hL h1 h2 hR h3 h4 hQ)
theorem oe_iushr {x y : Int32} (hd : decode J.2.1 pc = .ok (.iushr, 1)) 
    (k : oEv X d J (pc + 1) L (.int (x.toUInt32 >>> (y.toUInt32 &&& Int32.toUInt32 31)).toInt32 :: S) K M r K' M') : oEv X d J pc L (.int y :: .int x :: S) K M r K' M' := by
  intro p l e R s m args below meth c H locs ls Θ n0 ns0 Q hC hD hL h1 h2 hR h3 h4 hQ
  exact lv_iushr hC.1 hC.2.1 hd rfl (k p l e R s m args below meth c H locs ls Θ n0 ns0 Q hC hD hL h1 h2 hR h3 h4 hQ)
theorem oe_ineg {x : Int32} (hd : decode J.2.1 pc = .ok (.ineg, 1)) 
    (k : oEv X d J (pc + 1) L (.int (-x) :: S) K M r K' M') : oEv X d J pc L (.int x :: S) K M r K' M' := by
  intro p l e R s m args below meth c H locs ls Θ n0 ns0 Q hC hD hL h1 h2 hR h3 h4 hQ
  exact lv_ineg hC.1 hC.2.1 hd  (k p l e R s m args below meth c H locs ls Θ n0 ns0 Q hC hD hL h1 h2 hR h3 h4 hQ)
theorem oe_idiv {x y : Int32} (hd : decode J.2.1 pc = .ok (.idiv, 1)) (hne : ¬ y = 0)
    (k : oEv X d J (pc + 1) L (.int (x / y) :: S) K M r K' M') : oEv X d J pc L (.int y :: .int x :: S) K M r K' M' := by
  intro p l e R s m args below meth c H locs ls Θ n0 ns0 Q hC hD hL h1 h2 hR h3 h4 hQ
  exact lv_idiv hC.1 hC.2.1 hd hne (k p l e R s m args below meth c H locs ls Θ n0 ns0 Q hC hD hL h1 h2 hR h3 h4 hQ)
theorem oe_irem {x y : Int32} (hd : decode J.2.1 pc = .ok (.irem, 1)) (hne : ¬ y = 0)
    (k : oEv X d J (pc + 1) L (.int (x - x / y * y) :: S) K M r K' M') : oEv X d J pc L (.int y :: .int x :: S) K M r K' M' := by
  intro p l e R s m args below meth c H locs ls Θ n0 ns0 Q hC hD hL h1 h2 hR h3 h4 hQ
  exact lv_irem hC.1 hC.2.1 hd hne (k p l e R s m args below meth c H locs ls Θ n0 ns0 Q hC hD hL h1 h2 hR h3 h4 hQ)
theorem oe_ladd {x y : Int64} (hd : decode J.2.1 pc = .ok (.ladd, 1)) 
    (k : oEv X d J (pc + 1) L (.long (x + y) :: S) K M r K' M') : oEv X d J pc L (.long y :: .long x :: S) K M r K' M' := by
  intro p l e R s m args below meth c H locs ls Θ n0 ns0 Q hC hD hL h1 h2 hR h3 h4 hQ
  exact lv_ladd hC.1 hC.2.1 hd  (k p l e R s m args below meth c H locs ls Θ n0 ns0 Q hC hD hL h1 h2 hR h3 h4 hQ)
theorem oe_lsub {x y : Int64} (hd : decode J.2.1 pc = .ok (.lsub, 1)) 
    (k : oEv X d J (pc + 1) L (.long (x - y) :: S) K M r K' M') : oEv X d J pc L (.long y :: .long x :: S) K M r K' M' := by
  intro p l e R s m args below meth c H locs ls Θ n0 ns0 Q hC hD hL h1 h2 hR h3 h4 hQ
  exact lv_lsub hC.1 hC.2.1 hd  (k p l e R s m args below meth c H locs ls Θ n0 ns0 Q hC hD hL h1 h2 hR h3 h4 hQ)
theorem oe_lmul {x y : Int64} (hd : decode J.2.1 pc = .ok (.lmul, 1)) 
    (k : oEv X d J (pc + 1) L (.long (x * y) :: S) K M r K' M') : oEv X d J pc L (.long y :: .long x :: S) K M r K' M' := by
  intro p l e R s m args below meth c H locs ls Θ n0 ns0 Q hC hD hL h1 h2 hR h3 h4 hQ
  exact lv_lmul hC.1 hC.2.1 hd  (k p l e R s m args below meth c H locs ls Θ n0 ns0 Q hC hD hL h1 h2 hR h3 h4 hQ)
theorem oe_land {x y : Int64} (hd : decode J.2.1 pc = .ok (.land, 1)) 
    (k : oEv X d J (pc + 1) L (.long (x &&& y) :: S) K M r K' M') : oEv X d J pc L (.long y :: .long x :: S) K M r K' M' := by
  intro p l e R s m args below meth c H locs ls Θ n0 ns0 Q hC hD hL h1 h2 hR h3 h4 hQ
  exact lv_land hC.1 hC.2.1 hd  (k p l e R s m args below meth c H locs ls Θ n0 ns0 Q hC hD hL h1 h2 hR h3 h4 hQ)
theorem oe_lor {x y : Int64} (hd : decode J.2.1 pc = .ok (.lor, 1)) 
    (k : oEv X d J (pc + 1) L (.long (x ||| y) :: S) K M r K' M') : oEv X d J pc L (.long y :: .long x :: S) K M r K' M' := by
  intro p l e R s m args below meth c H locs ls Θ n0 ns0 Q hC hD hL h1 h2 hR h3 h4 hQ
  exact lv_lor hC.1 hC.2.1 hd  (k p l e R s m args below meth c H locs ls Θ n0 ns0 Q hC hD hL h1 h2 hR h3 h4 hQ)
theorem oe_ldiv {x y : Int64} (hd : decode J.2.1 pc = .ok (.ldiv, 1)) (hne : ¬ y = 0)
    (k : oEv X d J (pc + 1) L (.long (x / y) :: S) K M r K' M') : oEv X d J pc L (.long y :: .long x :: S) K M r K' M' := by
  intro p l e R s m args below meth c H locs ls Θ n0 ns0 Q hC hD hL h1 h2 hR h3 h4 hQ
  exact lv_ldiv hC.1 hC.2.1 hd hne (k p l e R s m args below meth c H locs ls Θ n0 ns0 Q hC hD hL h1 h2 hR h3 h4 hQ)
theorem oe_lshl {x : Int64} {y : Int32} (hd : decode J.2.1 pc = .ok (.lshl, 1)) 
    (k : oEv X d J (pc + 1) L (.long (x <<< (y.toInt64 &&& 63)) :: S) K M r K' M') : oEv X d J pc L (.int y :: .long x :: S) K M r K' M' := by
  intro p l e R s m args below meth c H locs ls Θ n0 ns0 Q hC hD hL h1 h2 hR h3 h4 hQ
  exact lv_lshl hC.1 hC.2.1 hd rfl (k p l e R s m args below meth c H locs ls Θ n0 ns0 Q hC hD hL h1 h2 hR h3 h4 hQ)
theorem oe_lcmp {x y : Int64} (hd : decode J.2.1 pc = .ok (.lcmp, 1)) 
    (k : oEv X d J (pc + 1) L (.int (lg_cmp x y) :: S) K M r K' M') : oEv X d J pc L (.long y :: .long x :: S) K M r K' M' := by
  intro p l e R s m args below meth c H locs ls Θ n0 ns0 Q hC hD hL h1 h2 hR h3 h4 hQ
  exact W.lcmp hC.1 hC.2.1 hd  (k p l e R s m args below meth c H locs ls Θ n0 ns0 Q hC hD hL h1 h2 hR h3 h4 hQ)
theorem oe_i2l {x : Int32} (hd : decode J.2.1 pc = .ok (.i2l, 1)) 
    (k : oEv X d J (pc + 1) L (.long x.toInt64 :: S) K M r K' M') : oEv X d J pc L (.int x :: S) K M r K' M' := by
  intro p l e R s m args below meth c H locs ls Θ n0 ns0 Q hC hD hL h1 h2 hR h3 h4 hQ
  exact lv_i2l hC.1 hC.2.1 hd rfl (k p l e R s m args below meth c H locs ls Θ n0 ns0 Q hC hD hL h1 h2 hR h3 h4 hQ)
theorem oe_l2i {x : Int64} (hd : decode J.2.1 pc = .ok (.l2i, 1)) 
    (k : oEv X d J (pc + 1) L (.int x.toInt32 :: S) K M r K' M') : oEv X d J pc L (.long x :: S) K M r K' M' := by
  intro p l e R s m args below meth c H locs ls Θ n0 ns0 Q hC hD hL h1 h2 hR h3 h4 hQ
  exact lv_l2i hC.1 hC.2.1 hd rfl (k p l e R s m args below meth c H locs ls Θ n0 ns0 Q hC hD hL h1 h2 hR h3 h4 hQ)
theorem oe_i2b {x : Int32} (hd : decode J.2.1 pc = .ok (.i2b, 1)) 
    (k : oEv X d J (pc + 1) L (.int x.toInt8.toInt32 :: S) K M r K' M') : oEv X d J pc L (.int x :: S) K M r K' M' := by
  intro p l e R s m args below meth c H locs ls Θ n0 ns0 Q hC hD hL h1 h2 hR h3 h4 hQ
  exact lv_i2b hC.1 hC.2.1 hd rfl (k p l e R s m args below meth c H locs ls Θ n0 ns0 Q hC hD hL h1 h2 hR h3 h4 hQ)
theorem oe_i2s {x : Int32} (hd : decode J.2.1 pc = .ok (.i2s, 1)) 
    (k : oEv X d J (pc + 1) L (.int x.toInt16.toInt32 :: S) K M r K' M') : oEv X d J pc L (.int x :: S) K M r K' M' := by
  intro p l e R s m args below meth c H locs ls Θ n0 ns0 Q hC hD hL h1 h2 hR h3 h4 hQ
  exact lv_i2s hC.1 hC.2.1 hd rfl (k p l e R s m args below meth c H locs ls Θ n0 ns0 Q hC hD hL h1 h2 hR h3 h4 hQ)
theorem oe_dup {v : Value} (hd : decode J.2.1 pc = .ok (.dup, 1)) (hv : v.category = 1)
    (k : oEv X d J (pc + 1) L (v :: v :: S) K M r K' M') : oEv X d J pc L (v :: S) K M r K' M' := by
  intro p l e R s m args below meth c H locs ls Θ n0 ns0 Q hC hD hL h1 h2 hR h3 h4 hQ
  exact lv_dup hC.1 hC.2.1 hd (by rw [oTr_cat]; exact hv) (k p l e R s m args below meth c H locs ls Θ n0 ns0 Q hC hD hL h1 h2 hR h3 h4 hQ)
theorem oe_dup_x1 {v w : Value} (hd : decode J.2.1 pc = .ok (.dup_x1, 1)) (hv : v.category = 1) (hw : w.category = 1)
    (k : oEv X d J (pc + 1) L (v :: w :: v :: S) K M r K' M') : oEv X d J pc L (v :: w :: S) K M r K' M' := by
  intro p l e R s m args below meth c H locs ls Θ n0 ns0 Q hC hD hL h1 h2 hR h3 h4 hQ
  exact lv_dup_x1 hC.1 hC.2.1 hd (by rw [oTr_cat]; exact hv) (by rw [oTr_cat]; exact hw) (k p l e R s m args below meth c H locs ls Θ n0 ns0 Q hC hD hL h1 h2 hR h3 h4 hQ)
theorem oe_dup2 {v w : Value} (hd : decode J.2.1 pc = .ok (.dup2, 1)) (hv : v.category = 1) (hw : w.category = 1)
    (k : oEv X d J (pc + 1) L (v :: w :: v :: w :: S) K M r K' M') : oEv X d J pc L (v :: w :: S) K M r K' M' := by
  intro p l e R s m args below meth c H locs ls Θ n0 ns0 Q hC hD hL h1 h2 hR h3 h4 hQ
  exact lv_dup2_11 hC.1 hC.2.1 hd (by rw [oTr_cat]; exact hv) (by rw [oTr_cat]; exact hw) (k p l e R s m args below meth c H locs ls Θ n0 ns0 Q hC hD hL h1 h2 hR h3 h4 hQ)
theorem oe_pop {v : Value} (hd : decode J.2.1 pc = .ok (.pop, 1)) (hv : v.category = 1)
    (k : oEv X d J (pc + 1) L (S) K M r K' M') : oEv X d J pc L (v :: S) K M r K' M' := by
  intro p l e R s m args below meth c H locs ls Θ n0 ns0 Q hC hD hL h1 h2 hR h3 h4 hQ
  exact lv_pop hC.1 hC.2.1 hd (by rw [oTr_cat]; exact hv) (k p l e R s m args below meth c H locs ls Θ n0 ns0 Q hC hD hL h1 h2 hR h3 h4 hQ)
theorem oe_if_eq {x : Int32} {off : Int} {tgt : Nat} (hd : decode J.2.1 pc = .ok (.ifCond .eq off, 3)) (ht : (pc : Int) + off = (tgt : Int))
    (kt : x = 0 → oEv X d J tgt L S K M r K' M') (kf : ¬ x = 0 → oEv X d J (pc + 3) L S K M r K' M') : oEv X d J pc L (.int x :: S) K M r K' M' := by
  intro p l e R s m args below meth c H locs ls Θ n0 ns0 Q hC hD hL h1 h2 hR h3 h4 hQ
  exact lv_if_eq hC.1 hC.2.1 hd ht (fun z => kt z p l e R s m args below meth c H locs ls Θ n0 ns0 Q hC hD hL h1 h2 hR h3 h4 hQ) (fun z => kf z p l e R s m args below meth c H locs ls Θ n0 ns0 Q hC hD hL h1 h2 hR h3 h4 hQ)
theorem oe_icmp_eq {x y : Int32} {off : Int} {tgt : Nat} (hd : decode J.2.1 pc = .ok (.if_icmp .eq off, 3)) (ht : (pc : Int) + off = (tgt : Int))
    (kt : x = y → oEv X d J tgt L S K M r K' M') (kf : ¬ x = y → oEv X d J (pc + 3) L S K M r K' M') : oEv X d J pc L (.int y :: .int x :: S) K M r K' M' := by
  intro p l e R s m args below meth c H locs ls Θ n0 ns0 Q hC hD hL h1 h2 hR h3 h4 hQ
  exact lv_icmp_eq hC.1 hC.2.1 hd ht (fun z => kt z p l e R s m args below meth c H locs ls Θ n0 ns0 Q hC hD hL h1 h2 hR h3 h4 hQ) (fun z => kf z p l e R s m args below meth c H locs ls Θ n0 ns0 Q hC hD hL h1 h2 hR h3 h4 hQ)
theorem oe_if_ne {x : Int32} {off : Int} {tgt : Nat} (hd : decode J.2.1 pc = .ok (.ifCond .ne off, 3)) (ht : (pc : Int) + off = (tgt : Int))
    (kt : ¬ x = 0 → oEv X d J tgt L S K M r K' M') (kf : x = 0 → oEv X d J (pc + 3) L S K M r K' M') : oEv X d J pc L (.int x :: S) K M r K' M' := by
  intro p l e R s m args below meth c H locs ls Θ n0 ns0 Q hC hD hL h1 h2 hR h3 h4 hQ
  exact lv_if_ne hC.1 hC.2.1 hd ht (fun z => kt z p l e R s m args below meth c H locs ls Θ n0 ns0 Q hC hD hL h1 h2 hR h3 h4 hQ) (fun z => kf z p l e R s m args below meth c H locs ls Θ n0 ns0 Q hC hD hL h1 h2 hR h3 h4 hQ)
theorem oe_icmp_ne {x y : Int32} {off : Int} {tgt : Nat} (hd : decode J.2.1 pc = .ok (.if_icmp .ne off, 3)) (ht : (pc : Int) + off = (tgt : Int))
    (kt : ¬ x = y → oEv X d J tgt L S K M r K' M') (kf : x = y → oEv X d J (pc + 3) L S K M r K' M') : oEv X d J pc L (.int y :: .int x :: S) K M r K' M' := by
  intro p l e R s m args below meth c H locs ls Θ n0 ns0 Q hC hD hL h1 h2 hR h3 h4 hQ
  exact lv_icmp_ne hC.1 hC.2.1 hd ht (fun z => kt z p l e R s m args below meth c H locs ls Θ n0 ns0 Q hC hD hL h1 h2 hR h3 h4 hQ) (fun z => kf z p l e R s m args below meth c H locs ls Θ n0 ns0 Q hC hD hL h1 h2 hR h3 h4 hQ)
theorem oe_if_lt {x : Int32} {off : Int} {tgt : Nat} (hd : decode J.2.1 pc = .ok (.ifCond .lt off, 3)) (ht : (pc : Int) + off = (tgt : Int))
    (kt : x < 0 → oEv X d J tgt L S K M r K' M') (kf : ¬ x < 0 → oEv X d J (pc + 3) L S K M r K' M') : oEv X d J pc L (.int x :: S) K M r K' M' := by
  intro p l e R s m args below meth c H locs ls Θ n0 ns0 Q hC hD hL h1 h2 hR h3 h4 hQ
  exact lv_if_lt hC.1 hC.2.1 hd ht (fun z => kt z p l e R s m args below meth c H locs ls Θ n0 ns0 Q hC hD hL h1 h2 hR h3 h4 hQ) (fun z => kf z p l e R s m args below meth c H locs ls Θ n0 ns0 Q hC hD hL h1 h2 hR h3 h4 hQ)
theorem oe_icmp_lt {x y : Int32} {off : Int} {tgt : Nat} (hd : decode J.2.1 pc = .ok (.if_icmp .lt off, 3)) (ht : (pc : Int) + off = (tgt : Int))
    (kt : x < y → oEv X d J tgt L S K M r K' M') (kf : ¬ x < y → oEv X d J (pc + 3) L S K M r K' M') : oEv X d J pc L (.int y :: .int x :: S) K M r K' M' := by
  intro p l e R s m args below meth c H locs ls Θ n0 ns0 Q hC hD hL h1 h2 hR h3 h4 hQ
  exact lv_icmp_lt hC.1 hC.2.1 hd ht (fun z => kt z p l e R s m args below meth c H locs ls Θ n0 ns0 Q hC hD hL h1 h2 hR h3 h4 hQ) (fun z => kf z p l e R s m args below meth c H locs ls Θ n0 ns0 Q hC hD hL h1 h2 hR h3 h4 hQ)
theorem oe_if_ge {x : Int32} {off : Int} {tgt : Nat} (hd : decode J.2.1 pc = .ok (.ifCond .ge off, 3)) (ht : (pc : Int) + off = (tgt : Int))
    (kt : 0 ≤ x → oEv X d J tgt L S K M r K' M') (kf : ¬ 0 ≤ x → oEv X d J (pc + 3) L S K M r K' M') : oEv X d J pc L (.int x :: S) K M r K' M' := by
  intro p l e R s m args below meth c H locs ls Θ n0 ns0 Q hC hD hL h1 h2 hR h3 h4 hQ
  exact lv_if_ge hC.1 hC.2.1 hd ht (fun z => kt z p l e R s m args below meth c H locs ls Θ n0 ns0 Q hC hD hL h1 h2 hR h3 h4 hQ) (fun z => kf z p l e R s m args below meth c H locs ls Θ n0 ns0 Q hC hD hL h1 h2 hR h3 h4 hQ)
theorem oe_icmp_ge {x y : Int32} {off : Int} {tgt : Nat} (hd : decode J.2.1 pc = .ok (.if_icmp .ge off, 3)) (ht : (pc : Int) + off = (tgt : Int))
    (kt : y ≤ x → oEv X d J tgt L S K M r K' M') (kf : ¬ y ≤ x → oEv X d J (pc + 3) L S K M r K' M') : oEv X d J pc L (.int y :: .int x :: S) K M r K' M' := by
  intro p l e R s m args below meth c H locs ls Θ n0 ns0 Q hC hD hL h1 h2 hR h3 h4 hQ
  exact lv_icmp_ge hC.1 hC.2.1 hd ht (fun z => kt z p l e R s m args below meth c H locs ls Θ n0 ns0 Q hC hD hL h1 h2 hR h3 h4 hQ) (fun z => kf z p l e R s m args below meth c H locs ls Θ n0 ns0 Q hC hD hL h1 h2 hR h3 h4 hQ)
theorem oe_if_gt {x : Int32} {off : Int} {tgt : Nat} (hd : decode J.2.1 pc = .ok (.ifCond .gt off, 3)) (ht : (pc : Int) + off = (tgt : Int))
    (kt : 0 < x → oEv X d J tgt L S K M r K' M') (kf : ¬ 0 < x → oEv X d J (pc + 3) L S K M r K' M') : oEv X d J pc L (.int x :: S) K M r K' M' := by
  intro p l e R s m args below meth c H locs ls Θ n0 ns0 Q hC hD hL h1 h2 hR h3 h4 hQ
  exact lv_if_gt hC.1 hC.2.1 hd ht (fun z => kt z p l e R s m args below meth c H locs ls Θ n0 ns0 Q hC hD hL h1 h2 hR h3 h4 hQ) (fun z => kf z p l e R s m args below meth c H locs ls Θ n0 ns0 Q hC hD hL h1 h2 hR h3 h4 hQ)
theorem oe_icmp_gt {x y : Int32} {off : Int} {tgt : Nat} (hd : decode J.2.1 pc = .ok (.if_icmp .gt off, 3)) (ht : (pc : Int) + off = (tgt : Int))
    (kt : y < x → oEv X d J tgt L S K M r K' M') (kf : ¬ y < x → oEv X d J (pc + 3) L S K M r K' M') : oEv X d J pc L (.int y :: .int x :: S) K M r K' M' := by
  intro p l e R s m args below meth c H locs ls Θ n0 ns0 Q hC hD hL h1 h2 hR h3 h4 hQ
  exact lv_icmp_gt hC.1 hC.2.1 hd ht (fun z => kt z p l e R s m args below meth c H locs ls Θ n0 ns0 Q hC hD hL h1 h2 hR h3 h4 hQ) (fun z => kf z p l e R s m args below meth c H locs ls Θ n0 ns0 Q hC hD hL h1 h2 hR h3 h4 hQ)
theorem oe_if_le {x : Int32} {off : Int} {tgt : Nat} (hd : decode J.2.1 pc = .ok (.ifCond .le off, 3)) (ht : (pc : Int) + off = (tgt : Int))
    (kt : x ≤ 0 → oEv X d J tgt L S K M r K' M') (kf : ¬ x ≤ 0 → oEv X d J (pc + 3) L S K M r K' M') : oEv X d J pc L (.int x :: S) K M r K' M' := by
  intro p l e R s m args below meth c H locs ls Θ n0 ns0 Q hC hD hL h1 h2 hR h3 h4 hQ
  exact lv_if_le hC.1 hC.2.1 hd ht (fun z => kt z p l e R s m args below meth c H locs ls Θ n0 ns0 Q hC hD hL h1 h2 hR h3 h4 hQ) (fun z => kf z p l e R s m args below meth c H locs ls Θ n0 ns0 Q hC hD hL h1 h2 hR h3 h4 hQ)
theorem oe_icmp_le {x y : Int32} {off : Int} {tgt : Nat} (hd : decode J.2.1 pc = .ok (.if_icmp .le off, 3)) (ht : (pc : Int) + off = (tgt : Int))
    (kt : x ≤ y → oEv X d J tgt L S K M r K' M') (kf : ¬ x ≤ y → oEv X d J (pc + 3) L S K M r K' M') : oEv X d J pc L (.int y :: .int x :: S) K M r K' M' := by
  intro p l e R s m args below meth c H locs ls Θ n0 ns0 Q hC hD hL h1 h2 hR h3 h4 hQ
  exact lv_icmp_le hC.1 hC.2.1 hd ht (fun z => kt z p l e R s m args below meth c H locs ls Θ n0 ns0 Q hC hD hL h1 h2 hR h3 h4 hQ) (fun z => kf z p l e R s m args below meth c H locs ls Θ n0 ns0 Q hC hD hL h1 h2 hR h3 h4 hQ)
theorem oe_goto {off : Int} {tgt : Nat} (hd : decode J.2.1 pc = .ok (.goto off, 3)) (ht : (pc : Int) + off = (tgt : Int))
    (k : oEv X d J tgt L S K M r K' M') : oEv X d J pc L S K M r K' M' := by
  intro p l e R s m args below meth c H locs ls Θ n0 ns0 Q hC hD hL h1 h2 hR h3 h4 hQ
  exact lv_goto hC.1 hC.2.1 hd ht (k p l e R s m args below meth c H locs ls Θ n0 ns0 Q hC hD hL h1 h2 hR h3 h4 hQ)
theorem oe_ifnullN {off : Int} {tgt : Nat} (hd : decode J.2.1 pc = .ok (.ifnull off, 3)) (ht : (pc : Int) + off = (tgt : Int))
    (k : oEv X d J tgt L S K M r K' M') : oEv X d J pc L (.null :: S) K M r K' M' := by
  intro p l e R s m args below meth c H locs ls Θ n0 ns0 Q hC hD hL h1 h2 hR h3 h4 hQ
  exact lv_ifnullN hC.1 hC.2.1 hd ht (k p l e R s m args below meth c H locs ls Θ n0 ns0 Q hC hD hL h1 h2 hR h3 h4 hQ)
theorem oe_ifnull {off : Int} {x : Nat} (hd : decode J.2.1 pc = .ok (.ifnull off, 3))
    (k : oEv X d J (pc + 3) L S K M r K' M') : oEv X d J pc L (.ref x :: S) K M r K' M' := by
  intro p l e R s m args below meth c H locs ls Θ n0 ns0 Q hC hD hL h1 h2 hR h3 h4 hQ
  exact lv_ifnull hC.1 hC.2.1 hd (k p l e R s m args below meth c H locs ls Θ n0 ns0 Q hC hD hL h1 h2 hR h3 h4 hQ)
theorem oe_ifnonnull {off : Int} {x : Nat} {tgt : Nat} (hd : decode J.2.1 pc = .ok (.ifnonnull off, 3)) (ht : (pc : Int) + off = (tgt : Int))
    (k : oEv X d J tgt L S K M r K' M') : oEv X d J pc L (.ref x :: S) K M r K' M' := by
  intro p l e R s m args below meth c H locs ls Θ n0 ns0 Q hC hD hL h1 h2 hR h3 h4 hQ
  exact lv_ifnonnull hC.1 hC.2.1 hd ht (k p l e R s m args below meth c H locs ls Θ n0 ns0 Q hC hD hL h1 h2 hR h3 h4 hQ)
theorem oe_ifnonnullN {off : Int} (hd : decode J.2.1 pc = .ok (.ifnonnull off, 3))
    (k : oEv X d J (pc + 3) L S K M r K' M') : oEv X d J pc L (.null :: S) K M r K' M' := by
  intro p l e R s m args below meth c H locs ls Θ n0 ns0 Q hC hD hL h1 h2 hR h3 h4 hQ
  exact lv_ifnonnullN hC.1 hC.2.1 hd (k p l e R s m args below meth c H locs ls Θ n0 ns0 Q hC hD hL h1 h2 hR h3 h4 hQ)
theorem oe_tableIn {dflt lo hi : Int} {offs : Array Int} {len : Nat} {x : Int32} {off : Int} {tgt : Nat} (hd : decode J.2.1 pc = .ok (.tableswitch dflt lo hi offs, len)) (g1 : ¬ x.toInt < lo) (g2 : ¬ hi < x.toInt) (ho : offs[(x.toInt - lo).toNat]? = some off) (ht : (pc : Int) + off = (tgt : Int))
    (k : oEv X d J tgt L S K M r K' M') : oEv X d J pc L (.int x :: S) K M r K' M' := by
  intro p l e R s m args below meth c H locs ls Θ n0 ns0 Q hC hD hL h1 h2 hR h3 h4 hQ
  exact lv_tableIn hC.1 hC.2.1 hd g1 g2 ho ht (k p l e R s m args below meth c H locs ls Θ n0 ns0 Q hC hD hL h1 h2 hR h3 h4 hQ)
theorem oe_tableOut {dflt lo hi : Int} {offs : Array Int} {len : Nat} {x : Int32} {tgt : Nat} (hd : decode J.2.1 pc = .ok (.tableswitch dflt lo hi offs, len)) (g : x.toInt < lo ∨ hi < x.toInt) (ht : (pc : Int) + dflt = (tgt : Int))
    (k : oEv X d J tgt L S K M r K' M') : oEv X d J pc L (.int x :: S) K M r K' M' := by
  intro p l e R s m args below meth c H locs ls Θ n0 ns0 Q hC hD hL h1 h2 hR h3 h4 hQ
  exact lv_tableOut hC.1 hC.2.1 hd g ht (k p l e R s m args below meth c H locs ls Θ n0 ns0 Q hC hD hL h1 h2 hR h3 h4 hQ)
theorem oe_lookup {dflt : Int} {ps : Array (Int × Int)} {len : Nat} {x : Int32} {off : Int} {tgt : Nat} (hd : decode J.2.1 pc = .ok (.lookupswitch dflt ps, len)) (hp : (ps.toList.zip (ps.toList.drop 1)).all (fun (a, next) => a.1 < next.1) = true) (ho : Op.lookupswitch.offset ps.toList dflt x.toInt = off) (ht : (pc : Int) + off = (tgt : Int))
    (k : oEv X d J tgt L S K M r K' M') : oEv X d J pc L (.int x :: S) K M r K' M' := by
  intro p l e R s m args below meth c H locs ls Θ n0 ns0 Q hC hD hL h1 h2 hR h3 h4 hQ
  exact lv_lookup hC.1 hC.2.1 hd hp ho ht (k p l e R s m args below meth c H locs ls Θ n0 ns0 Q hC hD hL h1 h2 hR h3 h4 hQ)
theorem oAd_inj {Θ : oT} {a b : Nat} (ha : a < 1000000) (hb : b < 1000000) : oAd Θ a = oAd Θ b ↔ a = b := by
  unfold oAd
  rw [if_pos ha, if_pos hb]
  omega
theorem oe_acmp_ne {a b : Nat} {off : Int} {tgt : Nat} (hd : decode J.2.1 pc = .ok (.if_acmp .ne off, 3)) (ht : (pc : Int) + off = (tgt : Int)) (ha : a < 1000000) (hb : b < 1000000)
    (kt : ¬ a = b → oEv X d J tgt L S K M r K' M') (kf : a = b → oEv X d J (pc + 3) L S K M r K' M') : oEv X d J pc L (.ref b :: .ref a :: S) K M r K' M' := by
  intro p l e R s m args below meth c H locs ls Θ n0 ns0 Q hC hD hL h1 h2 hR h3 h4 hQ
  exact lv_acmp_ne (rx := some (oAd Θ a)) (ry := some (oAd Θ b)) hC.1 hC.2.1 hd ht (fun z => kt (fun q => z (by rw [q])) p l e R s m args below meth c H locs ls Θ n0 ns0 Q hC hD hL h1 h2 hR h3 h4 hQ) (fun z => kf ((oAd_inj ha hb).mp (Option.some.inj z)) p l e R s m args below meth c H locs ls Θ n0 ns0 Q hC hD hL h1 h2 hR h3 h4 hQ)
theorem oe_iret {v : Int32} (hd : decode J.2.1 pc = .ok (.ireturn, 1)) (hr : ∃ ty, J.2.2.2.1 = some ty ∧ narrow ty (.int v) = .int v) : oEv X d J pc L [.int v] K M (some (.int v)) K M := by
  intro p l e R s m args below meth c H locs ls Θ n0 ns0 Q hC hD hL h1 h2 hR h3 h4 hQ
  exact hQ H locs ls pc hD ⟨hd, hr⟩
theorem oe_lret {v : Int64} (hd : decode J.2.1 pc = .ok (.lreturn, 1)) (hr : J.2.2.2.1 = some .long) : oEv X d J pc L [.long v] K M (some (.long v)) K M := by
  intro p l e R s m args below meth c H locs ls Θ n0 ns0 Q hC hD hL h1 h2 hR h3 h4 hQ
  exact hQ H locs ls pc hD ⟨hd, hr⟩
theorem oe_aret {v : Nat} (hd : decode J.2.1 pc = .ok (.areturn, 1)) (hr : ∃ C, J.2.2.2.1 = some (.object C)) : oEv X d J pc L [.ref v] K M (some (.ref v)) K M := by
  intro p l e R s m args below meth c H locs ls Θ n0 ns0 Q hC hD hL h1 h2 hR h3 h4 hQ
  exact hQ H locs ls pc hD ⟨hd, hr⟩
theorem oe_aretN  (hd : decode J.2.1 pc = .ok (.areturn, 1)) (hr : ∃ C, J.2.2.2.1 = some (.object C)) : oEv X d J pc L [.null] K M (some .null) K M := by
  intro p l e R s m args below meth c H locs ls Θ n0 ns0 Q hC hD hL h1 h2 hR h3 h4 hQ
  exact hQ H locs ls pc hD ⟨hd, hr⟩
theorem oe_vret  (hd : decode J.2.1 pc = .ok (.return_, 1)) (hr : J.2.2.2.1 = none) : oEv X d J pc L [] K M (none) K M := by
  intro p l e R s m args below meth c H locs ls Θ n0 ns0 Q hC hD hL h1 h2 hR h3 h4 hQ
  exact hQ H locs ls pc hD ⟨hd, hr⟩
end ROWS
