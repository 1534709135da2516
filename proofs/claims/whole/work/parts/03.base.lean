/-! THE PICTURE OF THE MACHINE: the whole memory as numbers, and one row an instruction over it -/
/-- the picture: how many cells, how many places, what each cell is (its kind, its length), its references -/
abbrev oK : Type := Nat × Nat × (Nat → Nat × Nat) × (Nat → Nat → Option Nat)
/-- the ints and the longs of the cells -/
abbrev oM : Type := (Nat → Nat → Int32) × (Nat → Nat → Int64)
/-- the script -/
abbrev oX : Type := Nat × (Nat → Int32)
/-- what stays through a run: where kinds and arrays are known, where the picture begins, the cells that stood there before -/
abbrev oT : Type := va_G × (Nat → ClassId) × Nat × (Nat → Nat)
def oAd (Θ : oT) (a : Nat) : Nat := if a < 1000000 then Θ.2.2.1 + a else Θ.2.2.2 (a - 1000000)
def oTr (Θ : oT) : Value → Value
  | .ref a => .ref (oAd Θ a)
  | v => v
def oV (Θ : oT) (K : oK) (M : oM) (ci a k : Nat) : Value := if oTy ci k = .int then .int (M.1 a k) else va_rf ((K.2.2.2 a k).map (oAd Θ))
def oArr (Θ : oT) (K : oK) (M : oM) (a k : Nat) : (Nat → Int32) ⊕ (Nat → Int64) ⊕ (Nat → UInt32) ⊕ (Nat → UInt64) ⊕ (Nat → Option Nat) :=
  if k < 3 then .inl (M.1 a) else if k = 3 then .inr (.inl (M.2 a)) else .inr (.inr (.inr (.inr (fun j => (K.2.2.2 a j).map (oAd Θ)))))
def oE (Θ : oT) (K : oK) (M : oM) (a : Nat) : va_E :=
  if (K.2.2.1 a).1 < 6 then .inl (Θ.2.1 (K.2.2.1 a).1, (K.2.2.1 a).2, oArr Θ K M a (K.2.2.1 a).1)
  else .inr ((K.2.2.1 a).1 - 6, (List.range (oNn ((K.2.2.1 a).1 - 6))).map (oV Θ K M ((K.2.2.1 a).1 - 6) a))
def oW (Θ : oT) (K : oK) (M : oM) : va_W := (List.range K.1).map (fun a => (Θ.2.2.1 + a, oE Θ K M a))
theorem oW_at {Θ : oT} {K : oK} {M : oM} {a : Nat} (h : a < K.1) : (oW Θ K M)[a]? = some (Θ.2.2.1 + a, oE Θ K M a) := by
  simp [oW, h]
theorem oW_in {Θ : oT} {K : oK} {M : oM} {k : Nat} {q : Nat × va_E} (h : (oW Θ K M)[k]? = some q) : k < K.1 ∧ q = (Θ.2.2.1 + k, oE Θ K M k) := by
  have hk : k < K.1 := by
    have := (List.getElem?_eq_some_iff.mp h).1
    simpa [oW] using this
  rw [oW_at hk] at h
  exact ⟨hk, (Option.some.inj h).symm⟩
theorem oW_set {Θ : oT} {K K' : oK} {M M' : oM} {a : Nat} (hn : K'.1 = K.1) (h : ∀ b, b ≠ a → oE Θ K' M' b = oE Θ K M b) : (oW Θ K M).set a (Θ.2.2.1 + a, oE Θ K' M' a) = oW Θ K' M' := by
  apply List.ext_getElem?
  intro i
  rw [List.getElem?_set]
  by_cases hi : i < K.1
  · by_cases hia : a = i
    · subst hia
      simp [oW, hi, hn]
    · rw [if_neg hia]
      simp [oW, hi, hn, h i (Ne.symm hia)]
  · have e1 : (oW Θ K M)[i]? = none := by simp [oW]; omega
    have e2 : (oW Θ K' M')[i]? = none := by simp [oW]; omega
    rw [e1, e2]
    by_cases hia : a = i
    · rw [if_pos hia, if_neg]
      simp [oW]; omega
    · rw [if_neg hia]
theorem oW_push {Θ : oT} {K K' : oK} {M M' : oM} (hn : K'.1 = K.1 + 1) (h : ∀ b, b < K.1 → oE Θ K' M' b = oE Θ K M b) : oW Θ K M ++ [(Θ.2.2.1 + K.1, oE Θ K' M' K.1)] = oW Θ K' M' := by
  unfold oW
  rw [hn, List.range_succ, List.map_append]
  congr 1
  apply List.map_congr_left
  intro b hb
  rw [h b (List.mem_range.mp hb)]
theorem oW_D {Θ : oT} {K : oK} {M : oM} : va_D (fun q : Nat => Θ.2.2.1 ≤ q) (oW Θ K M) := by
  refine ⟨fun i j p q hi hj hpq => ?_, fun k q hk => ?_⟩
  · obtain ⟨-, rfl⟩ := oW_in hi
    obtain ⟨-, rfl⟩ := oW_in hj
    exact Nat.add_left_cancel hpq
  · obtain ⟨-, rfl⟩ := oW_in hk
    exact Nat.le_add_right _ _
def oTys (Θ : oT) : List (ClassId × FieldType) := [(Θ.2.1 0, .int), (Θ.2.1 1, .byte), (Θ.2.1 2, .boolean), (Θ.2.1 3, .long), (Θ.2.1 4, .object "OverHill$Laying"), (Θ.2.1 5, .object "OverHill$Shelf")]
def oNw (U : State) : Prop := va_Nw (.methodLinkNest "OverHill" 34 J_X10_init.1 "OverHill") U ∧ va_Nw (.methodLinkNest "OverHill" 63 J_X5_init.1 "OverHill") U ∧ va_Nw (.methodLinkNest "OverHill" 70 J_X1_init.1 "OverHill") U ∧ va_Nw (.methodLinkNest "OverHill" 77 J_X0_init.1 "OverHill") U ∧ va_Nw (.methodLinkNest "OverHill" 88 J_X9_init.1 "OverHill") U ∧ va_Nw (.fieldLinkNest "OverHill$Acts" 46 "OverHill" "KIND_ABOVE" "[I" "OverHill") U
theorem oNw.warm {s U : State} (hW : s.WarmedH U.vm) (h : oNw s) : oNw U := ⟨va_Nw.warmM hW h.1, va_Nw.warmM hW h.2.1, va_Nw.warmM hW h.2.2.1, va_Nw.warmM hW h.2.2.2.1, va_Nw.warmM hW h.2.2.2.2.1, va_Nw.warmF hW h.2.2.2.2.2⟩
theorem oNw.same {u U : State} (e : u.vm = U.vm) (h : oNw u) : oNw U := ⟨va_Nw.same rfl e h.1, va_Nw.same rfl e h.2.1, va_Nw.same rfl e h.2.2.1, va_Nw.same rfl e h.2.2.2.1, va_Nw.same rfl e h.2.2.2.2.1, va_Nw.same rfl e h.2.2.2.2.2⟩
def oSt (Θ : oT) (U : State) : Prop := va_K Θ.1 oCl (oTys Θ) U ∧ va_AO "OverHill$Laying" U ∧ va_AO "OverHill$Shelf" U ∧ oNw U
theorem oSt.warm {Θ : oT} {s U : State} (hW : s.WarmedH U.vm) (h : oSt Θ s) : oSt Θ U := ⟨va_K.moved hW.alike h.1, va_AO.moved hW.alike h.2.1, va_AO.moved hW.alike h.2.2.1, oNw.warm hW h.2.2.2⟩
def oTb (t j : Nat) : Int32 := (match t with
  | 1 => [99999, 99, 99]
  | 2 => [-1, 0, 0, 1, 2, 0]
  | _ => [1, 10, 11, 2, 0, 0, 20, 0, 0, 30, 0, 0, 40, 0, 41, 0, 0, 51, 0, 50, 0, 0, 60, 0] : List Int32).getD j 0
def oTn1 (t : Nat) : Nat := [0, 3, 6, 24].getD t 0
def oTs (t : Nat) : String × String := if t = 1 then ("OverHill", "MOST_SETTING") else if t = 2 then ("OverHill", "KIND_ABOVE") else ("OverHill$Acts", "BODIES")
def oSp (Θ : oT) (X : oX) (U : State) (H : Heap) : Prop := (va_X (Θ.2.2.2 0) X.1 X.2 U H ∧ Θ.2.2.2 0 < Θ.2.2.1) ∧ ∀ t, 1 ≤ t → t < 4 → va_T .int (Θ.2.2.2 t) (oTn1 t) (fun j => .int (oTb t j)) (fun q : Nat => Θ.2.2.1 ≤ q) U H ∧ va_Z (oTs t).1 (oTs t).2 "[I" (.ref (Θ.2.2.2 t)) (fun q : Nat => Θ.2.2.1 ≤ q) U H
theorem oSp.moved {Θ : oT} {X : oX} {u U : State} {H : Heap} (hvm : u.vm.Alike U.vm) (h : oSp Θ X u H) : oSp Θ X U H := ⟨⟨va_X.moved hvm h.1.1, h.1.2⟩, fun t h1 h2 => ⟨va_T.moved hvm (h.2 t h1 h2).1, va_Z.moved hvm (h.2 t h1 h2).2⟩⟩
theorem oSp.kept {Θ : oT} {X : oX} {U : State} {H H1 : Heap} (h : oSp Θ X U H) (hq : ∀ q : Nat, q < Θ.2.2.1 → H1[q]? = H[q]?) : oSp Θ X U H1 := ⟨⟨va_X.kept h.1.1 (hq _ h.1.2), h.1.2⟩, fun t h1 h2 => ⟨va_T.kept (h.2 t h1 h2).1 (fun a _ g => hq a (Nat.not_le.mp g)), va_Z.kept (h.2 t h1 h2).2 (fun a _ g => hq a (Nat.not_le.mp g))⟩⟩
def oRel (Θ : oT) (X : oX) (K : oK) (M : oM) (U : State) (H : Heap) : Prop := H.size = Θ.2.2.1 + K.1 ∧ K.1 ≤ 1000000 ∧ va_P Θ.1 oCl (oW Θ K M) H ∧ oSt Θ U ∧ oSp Θ X U H
theorem oRel.blind {Θ : oT} {X : oX} {K : oK} {M : oM} {A : List Value} : FrameBlind (va_Pc A (fun U => oRel Θ X K M U U.heap)) := by
  intro a U g mk h
  refine ⟨h.1, h.2.1, h.2.2.1, h.2.2.2.1, ?_, ?_⟩
  · obtain ⟨h1, h2, h3, h4⟩ := h.2.2.2.2.1
    exact ⟨va_K.moved (u := U) (U := U.calling g mk a) (Vm.Alike.refl U.vm) h1, va_AO.moved (u := U) (U := U.calling g mk a) (Vm.Alike.refl U.vm) h2, va_AO.moved (u := U) (U := U.calling g mk a) (Vm.Alike.refl U.vm) h3, oNw.same (u := U) (U := U.calling g mk a) rfl h4⟩
  · exact oSp.moved (u := U) (U := U.calling g mk a) (Vm.Alike.refl U.vm) h.2.2.2.2.2
def oQ (Θ : oT) (X : oX) (r : Option Value) (K' : oK) (M' : oM) : Array Value → State → Outcome → State → Prop := fun _ st oc t => oc = .returned (r.map (oTr Θ)) ∧ oRel Θ X K' M' t t.heap ∧ va_F (fun q : Nat => Θ.2.2.1 ≤ q) st t
def oRoom (d mc ms : Nat) : Room := { frames := d, cells := mc, slots := ms, locals := d * 64 }
def oWs (J : oJ) : List Cond := Cond.code J.1 J.2.1 J.2.2.1 J.2.2.2.1 :: oGood
/-- a method's contract in the picture -/
def oMet (X : oX) (d : Nat) (J : oJ) (A : List Value) (K : oK) (M : oM) (r : Option Value) (K' : oK) (M' : oM) : Prop :=
  ∀ (l : Launch) (Θ : oT), Met l J.1 (oWs J) (oRoom d (K'.1 - K.1) (K'.2.1 - K.2.1)) (va_Pc (A.map (oTr Θ)) (fun U => oRel Θ X K M U U.heap)) (oQ Θ X r K' M') (K'.1 - K.1) (K'.2.1 - K.2.1) (fun q : Nat => Θ.2.2.1 ≤ q)
def oCtx (Θ : oT) (X : oX) (J : oJ) (p : Program) (s : State) (m : MethodId) (args : Array Value) (meth : Method) (c : Code) : Prop :=
  p.tables.exec = Jvm.exec ∧ c.code = J.2.1 ∧ meth.sig.returnType = J.2.2.2.1 ∧ c.maxLocals = J.2.2.1 ∧ s.vm.findClass J.2.2.2.2 = some m.cls ∧ (∀ w ∈ oGood, w.before args s = true) ∧ meth.locks = false ∧ (J.1.name = "<init>" → meth.name = "<init>") ∧ Θ.2.2.1 ≤ s.heap.size ∧ oSt Θ s ∧ oSp Θ X s s.heap
def oDyn (Θ : oT) (K : oK) (M : oM) (s : State) (H : Heap) (locs : List Loc) : Prop := H.size = Θ.2.2.1 + K.1 ∧ K.1 ≤ 1000000 ∧ va_P Θ.1 oCl (oW Θ K M) H ∧ va_S (fun q : Nat => Θ.2.2.1 ≤ q) s.heap H locs
def oLoc (Θ : oT) (nl : Nat) (ls : Array Slot) (L : List (Option Value)) : Prop := ls.size = nl ∧ lv_wf ls ∧ ∀ (i : Nat) (v : Value), L[i]? = some (some v) → ls[i]? = some (Slot.val (oTr Θ v))
def oRt (J : oJ) (r : Option Value) (pc : Nat) : Prop := match r with
  | none => decode J.2.1 pc = .ok (.return_, 1) ∧ J.2.2.2.1 = none
  | some (.int v) => decode J.2.1 pc = .ok (.ireturn, 1) ∧ ∃ ty, J.2.2.2.1 = some ty ∧ narrow ty (.int v) = .int v
  | some (.long _) => decode J.2.1 pc = .ok (.lreturn, 1) ∧ J.2.2.2.1 = some .long
  | some .null => decode J.2.1 pc = .ok (.areturn, 1) ∧ ∃ C, J.2.2.2.1 = some (.object C)
  | some (.ref _) => decode J.2.1 pc = .ok (.areturn, 1) ∧ ∃ C, J.2.2.2.1 = some (.object C)
  | _ => False
/-- from this place of the method, with these locals, this stack and this picture, it comes to its end with that answer and that picture -/
def oEv (X : oX) (d : Nat) (J : oJ) (pc : Nat) (L : List (Option Value)) (S : List Value) (K : oK) (M : oM) (r : Option Value) (K' : oK) (M' : oM) : Prop :=
  ∀ (p : Program) (l : Launch) (e : Env) (R : Room) (s : State) (m : MethodId) (args : Array Value) (below : List Frame) (meth : Method) (c : Code) (H : Heap) (locs : List Loc) (ls : Array Slot) (Θ : oT) (n0 ns0 : Nat) (Q : State → Prop),
    oCtx Θ X J p s m args meth c → oDyn Θ K M s H locs → oLoc Θ J.2.2.1 ls L → n0 ≤ K.1 → ns0 ≤ K.2.1 →
    (d ≤ R.frames ∧ d * 64 ≤ R.locals ∧ K'.1 - n0 ≤ R.cells ∧ K'.2.1 - ns0 ≤ R.slots) → K.1 ≤ K'.1 → K.2.1 ≤ K'.2.1 →
    (∀ (H' : Heap) (locs' : List Loc) (ls' : Array Slot) (pc' : Nat), oDyn Θ K' M' s H' locs' → oRt J r pc' → W p l e R s m args below meth c H' locs' (K'.1 - n0) (K'.2.1 - ns0) Q (F0 m pc' ls' ((r.map (oTr Θ)).toList))) →
    W p l e R s m args below meth c H locs (K.1 - n0) (K.2.1 - ns0) Q (F0 m pc ls (S.map (oTr Θ)))
def oUp (M : oM) (a k : Nat) (x : Int32) : oM := (fun b => if b = a then upd (M.1 a) k x else M.1 b, M.2)
def oUpL (M : oM) (a k : Nat) (x : Int64) : oM := (M.1, fun b => if b = a then vp_updL (M.2 a) k x else M.2 b)
def oUpR (K : oK) (a k : Nat) (x : Option Nat) : oK := (K.1, K.2.1, K.2.2.1, fun b => if b = a then va_up (K.2.2.2 a) k x else K.2.2.2 b)
def oRow (M : oM) (a : Nat) (f : Nat → Int32) : oM := (fun b => if b = a then f else M.1 b, M.2)
def oRowL (M : oM) (a : Nat) (f : Nat → Int64) : oM := (M.1, fun b => if b = a then f else M.2 b)
