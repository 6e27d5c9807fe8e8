/-! steps of the functions that the methods are told by -/
theorem o_bd {α β : Type} {o : Option α} {k : α → Option β} {R : β} (h : o.bind k = some R) : ∃ v, o = some v ∧ k v = some R := by
  cases o with
  | none => cases h
  | some v => exact ⟨v, rfl, h⟩
theorem o_ifp {α : Type} {c : Prop} {d : Decidable c} {x y r : α} (h : @ite α c d x y = r) (hc : c) : x = r := by rw [if_pos hc] at h; exact h
theorem o_ifn {α : Type} {c : Prop} {d : Decidable c} {x y r : α} (h : @ite α c d x y = r) (hc : ¬ c) : y = r := by rw [if_neg hc] at h; exact h
def o_nm {α β : Type} (x : α) (k : α → Option β) : Option β := k x
theorem o_nmh {α β : Type} {x : α} {k : α → Option β} {R : β} (h : o_nm x k = some R) (v : α) (ev : v = x) : k v = some R := by subst ev; exact h
def o_ld (f : Nat → Int32) (n : Nat) (i : Int32) : Option Int32 := if i < 0 ∨ n ≤ i.toNatClampNeg then none else some (f i.toNatClampNeg)
theorem o_ldh {β : Type} {f : Nat → Int32} {n : Nat} {i : Int32} {k : Int32 → Option β} {R : β} (h : (o_ld f n i).bind k = some R) : vp_in i n ∧ ∀ v, v = f i.toNatClampNeg → k v = some R := by
  unfold o_ld at h
  by_cases hc : i < 0 ∨ n ≤ i.toNatClampNeg
  · rw [if_pos hc] at h; cases h
  · rw [if_neg hc] at h; exact ⟨hc, fun v ev => by subst ev; exact h⟩
def o_st (f : Nat → Int32) (n : Nat) (i x : Int32) : Option (Nat → Int32) := if i < 0 ∨ n ≤ i.toNatClampNeg then none else some (upd f i.toNatClampNeg x)
theorem o_sth {β : Type} {f : Nat → Int32} {n : Nat} {i x : Int32} {k : (Nat → Int32) → Option β} {R : β} (h : (o_st f n i x).bind k = some R) : vp_in i n ∧ ∀ g, g = upd f i.toNatClampNeg x → k g = some R := by
  unfold o_st at h
  by_cases hc : i < 0 ∨ n ≤ i.toNatClampNeg
  · rw [if_pos hc] at h; cases h
  · rw [if_neg hc] at h; exact ⟨hc, fun v ev => by subst ev; exact h⟩
def o_dv (x y : Int32) : Option Int32 := if y = 0 then none else some (x / y)
theorem o_dvh {β : Type} {x y : Int32} {k : Int32 → Option β} {R : β} (h : (o_dv x y).bind k = some R) : ¬ y = 0 ∧ ∀ v, v = x / y → k v = some R := by
  unfold o_dv at h
  by_cases hc : y = 0
  · rw [if_pos hc] at h; cases h
  · rw [if_neg hc] at h; exact ⟨hc, fun v ev => by subst ev; exact h⟩
def o_rm (x y : Int32) : Option Int32 := if y = 0 then none else some (x - x / y * y)
theorem o_rmh {β : Type} {x y : Int32} {k : Int32 → Option β} {R : β} (h : (o_rm x y).bind k = some R) : ¬ y = 0 ∧ ∀ v, v = x - x / y * y → k v = some R := by
  unfold o_rm at h
  by_cases hc : y = 0
  · rw [if_pos hc] at h; cases h
  · rw [if_neg hc] at h; exact ⟨hc, fun v ev => by subst ev; exact h⟩
def o_dvL (x y : Int64) : Option Int64 := if y = 0 then none else some (x / y)
theorem o_dvLh {β : Type} {x y : Int64} {k : Int64 → Option β} {R : β} (h : (o_dvL x y).bind k = some R) : ¬ y = 0 ∧ ∀ v, v = x / y → k v = some R := by
  unfold o_dvL at h
  by_cases hc : y = 0
  · rw [if_pos hc] at h; cases h
  · rw [if_neg hc] at h; exact ⟨hc, fun v ev => by subst ev; exact h⟩
def o_rmL (x y : Int64) : Option Int64 := if y = 0 then none else some (x - x / y * y)
theorem o_rmLh {β : Type} {x y : Int64} {k : Int64 → Option β} {R : β} (h : (o_rmL x y).bind k = some R) : ¬ y = 0 ∧ ∀ v, v = x - x / y * y → k v = some R := by
  unfold o_rmL at h
  by_cases hc : y = 0
  · rw [if_pos hc] at h; cases h
  · rw [if_neg hc] at h; exact ⟨hc, fun v ev => by subst ev; exact h⟩
/-- a boolean that is handed back is 0 or 1 -/
def o_zb (v : Int32) : Option Unit := if v = 0 ∨ v = 1 then some () else none
theorem o_zbh {β : Type} {v : Int32} {k : Unit → Option β} {R : β} (h : (o_zb v).bind k = some R) : narrow .boolean (.int v) = .int v ∧ k () = some R := by
  unfold o_zb at h
  by_cases hc : v = 0 ∨ v = 1
  · rw [if_pos hc] at h
    refine ⟨?_, h⟩
    rcases hc with hc | hc <;> subst hc <;> rfl
  · rw [if_neg hc] at h; cases h
/-! nest words -/
def nwl : List Cond := [.fieldLinkNest "GainsaidOnce$Reader" 38 "GainsaidOnce$Row" "count" "I" "GainsaidOnce", .fieldLinkNest "GainsaidOnce$Witnesses" 57 "GainsaidOnce$Row" "count" "I" "GainsaidOnce", .fieldLinkNest "GainsaidOnce" 135 "GainsaidOnce$Row" "count" "I" "GainsaidOnce", .fieldLinkNest "GainsaidOnce$Trials" 57 "GainsaidOnce$Row" "count" "I" "GainsaidOnce", .fieldLinkNest "GainsaidOnce" 95 "GainsaidOnce$Reader" "letters" "LGainsaidOnce$Row;" "GainsaidOnce", .fieldLinkNest "GainsaidOnce" 106 "GainsaidOnce$Reader" "faultAt" "I" "GainsaidOnce", .fieldLinkNest "GainsaidOnce$Reader" 83 "GainsaidOnce$Town" "clauses" "I" "GainsaidOnce", .fieldLinkNest "GainsaidOnce" 129 "GainsaidOnce$Town" "clauses" "I" "GainsaidOnce", .fieldLinkNest "GainsaidOnce$Crier" 81 "GainsaidOnce$Town" "clauses" "I" "GainsaidOnce", .fieldLinkNest "GainsaidOnce$Trials" 61 "GainsaidOnce$Town" "clauses" "I" "GainsaidOnce", .fieldLinkNest "GainsaidOnce$Crier" 42 "GainsaidOnce$Town" "corners" "I" "GainsaidOnce", .fieldLinkNest "GainsaidOnce" 126 "GainsaidOnce$Town" "corners" "I" "GainsaidOnce", .fieldLinkNest "GainsaidOnce$Reader" 70 "GainsaidOnce$Town" "corners" "I" "GainsaidOnce", .fieldLinkNest "GainsaidOnce$Trials" 69 "GainsaidOnce$Town" "corners" "I" "GainsaidOnce", .fieldLinkNest "GainsaidOnce$Reader" 73 "GainsaidOnce$Town" "hearers" "I" "GainsaidOnce", .fieldLinkNest "GainsaidOnce$Witnesses" 61 "GainsaidOnce$Town" "hearers" "I" "GainsaidOnce", .fieldLinkNest "GainsaidOnce" 132 "GainsaidOnce$Town" "hearers" "I" "GainsaidOnce", .fieldLinkNest "GainsaidOnce$Crier" 84 "GainsaidOnce$Town" "hearers" "I" "GainsaidOnce", .fieldLinkNest "GainsaidOnce$Trials" 88 "GainsaidOnce$Town" "hearers" "I" "GainsaidOnce", .fieldLinkNest "GainsaidOnce$State" 34 "GainsaidOnce$Town" "firstColds" "I" "GainsaidOnce", .fieldLinkNest "GainsaidOnce" 189 "GainsaidOnce$Town" "beers" "[I" "GainsaidOnce", .fieldLinkNest "GainsaidOnce$State" 42 "GainsaidOnce$Town" "firstPlaces" "[I" "GainsaidOnce", .fieldLinkNest "GainsaidOnce" 176 "GainsaidOnce$Town" "pinches" "[I" "GainsaidOnce", .fieldLinkNest "GainsaidOnce$Crier" 98 "GainsaidOnce$Town" "pinches" "[I" "GainsaidOnce", .fieldLinkNest "GainsaidOnce" 179 "GainsaidOnce$Town" "sayings" "[I" "GainsaidOnce", .fieldLinkNest "GainsaidOnce$Crier" 107 "GainsaidOnce$Town" "sayings" "[I" "GainsaidOnce", .fieldLinkNest "GainsaidOnce" 138 "GainsaidOnce$State" "rounds" "I" "GainsaidOnce", .fieldLinkNest "GainsaidOnce" 141 "GainsaidOnce$State" "months" "I" "GainsaidOnce", .fieldLinkNest "GainsaidOnce" 144 "GainsaidOnce$State" "law" "I" "GainsaidOnce", .fieldLinkNest "GainsaidOnce" 147 "GainsaidOnce$State" "holds" "I" "GainsaidOnce", .fieldLinkNest "GainsaidOnce$Crier" 38 "GainsaidOnce$State" "hoarse" "I" "GainsaidOnce", .fieldLinkNest "GainsaidOnce" 150 "GainsaidOnce$State" "hoarse" "I" "GainsaidOnce", .fieldLinkNest "GainsaidOnce$Crier" 21 "GainsaidOnce$State" "keptIn" "I" "GainsaidOnce", .fieldLinkNest "GainsaidOnce" 153 "GainsaidOnce$State" "keptIn" "I" "GainsaidOnce", .fieldLinkNest "GainsaidOnce$Trials" 91 "GainsaidOnce$State" "keptIn" "I" "GainsaidOnce", .fieldLinkNest "GainsaidOnce$Crier" 64 "GainsaidOnce$State" "colds" "I" "GainsaidOnce", .fieldLinkNest "GainsaidOnce" 156 "GainsaidOnce$State" "colds" "I" "GainsaidOnce", .fieldLinkNest "GainsaidOnce" 168 "GainsaidOnce$State" "places" "[I" "GainsaidOnce", .fieldLinkNest "GainsaidOnce$Crier" 90 "GainsaidOnce$State" "places" "[I" "GainsaidOnce", .fieldLinkNest "GainsaidOnce" 162 "GainsaidOnce$Past" "count" "I" "GainsaidOnce", .fieldLinkNest "GainsaidOnce" 328 "GainsaidOnce$Image" "state" "LGainsaidOnce$State;" "GainsaidOnce", .fieldLinkNest "GainsaidOnce" 333 "GainsaidOnce$Image" "seedThen" "I" "GainsaidOnce", .fieldLinkNest "GainsaidOnce" 324 "GainsaidOnce$Image" "isTaken" "Z" "GainsaidOnce", .fieldLinkNest "GainsaidOnce$Trials" 119 "GainsaidOnce$Crier" "decree" "I" "GainsaidOnce", .fieldLinkNest "GainsaidOnce" 247 "GainsaidOnce$Crier" "decree" "I" "GainsaidOnce", .fieldLinkNest "GainsaidOnce$Trials" 108 "GainsaidOnce$Crier" "holds" "I" "GainsaidOnce", .fieldLinkNest "GainsaidOnce" 250 "GainsaidOnce$Crier" "holds" "I" "GainsaidOnce", .fieldLinkNest "GainsaidOnce$Witnesses" 88 "GainsaidOnce$Crier" "spoke" "I" "GainsaidOnce", .fieldLinkNest "GainsaidOnce" 251 "GainsaidOnce$Crier" "spoke" "I" "GainsaidOnce", .fieldLinkNest "GainsaidOnce" 336 "GainsaidOnce$Crier" "hoarse" "I" "GainsaidOnce", .fieldLinkNest "GainsaidOnce" 269 "GainsaidOnce$Trials" "beginnings" "LGainsaidOnce$Row;" "GainsaidOnce", .fieldLinkNest "GainsaidOnce$Witnesses" 26 "GainsaidOnce" "FEW" "[I" "GainsaidOnce", .fieldLinkNest "GainsaidOnce" 159 "GainsaidOnce$Witnesses" "decrees" "LGainsaidOnce$Row;" "GainsaidOnce", .fieldLinkNest "GainsaidOnce" 307 "GainsaidOnce$Witnesses" "suspects" "LGainsaidOnce$Row;" "GainsaidOnce", .fieldLinkNest "GainsaidOnce" 313 "GainsaidOnce$Draws" "value" "I" "GainsaidOnce", .fieldLinkNest "GainsaidOnce$Trials" 32 "GainsaidOnce" "FEW" "[I" "GainsaidOnce", .methodLinkNest "GainsaidOnce" 9 ⟨"GainsaidOnce$Reader", "<init>", "()V"⟩ "GainsaidOnce", .methodLinkNest "GainsaidOnce" 18 ⟨"GainsaidOnce$Town", "<init>", "()V"⟩ "GainsaidOnce", .methodLinkNest "GainsaidOnce" 28 ⟨"GainsaidOnce$State", "<init>", "()V"⟩ "GainsaidOnce", .methodLinkNest "GainsaidOnce$Past" 17 ⟨"GainsaidOnce$State", "<init>", "()V"⟩ "GainsaidOnce", .methodLinkNest "GainsaidOnce" 42 ⟨"GainsaidOnce$Image", "<init>", "()V"⟩ "GainsaidOnce", .methodLinkNest "GainsaidOnce$Image" 9 ⟨"GainsaidOnce$State", "<init>", "()V"⟩ "GainsaidOnce", .methodLinkNest "GainsaidOnce" 85 ⟨"GainsaidOnce$Draws", "<init>", "()V"⟩ "GainsaidOnce", .methodLinkNest "GainsaidOnce$Town" 41 ⟨"GainsaidOnce", "put", "([III)V"⟩ "GainsaidOnce", .methodLinkNest "GainsaidOnce$Town" 45 ⟨"GainsaidOnce", "withBit", "(IIZ)I"⟩ "GainsaidOnce", .methodLinkNest "GainsaidOnce$Town" 37 ⟨"GainsaidOnce", "copyRow", "([I[I)V"⟩ "GainsaidOnce", .methodLinkNest "GainsaidOnce$State" 45 ⟨"GainsaidOnce", "copyRow", "([I[I)V"⟩ "GainsaidOnce", .methodLinkNest "GainsaidOnce$State" 49 ⟨"GainsaidOnce", "at", "([II)I"⟩ "GainsaidOnce", .methodLinkNest "GainsaidOnce$Crier" 94 ⟨"GainsaidOnce", "at", "([II)I"⟩ "GainsaidOnce", .methodLinkNest "GainsaidOnce$Crier" 67 ⟨"GainsaidOnce", "has", "(II)Z"⟩ "GainsaidOnce", .methodLinkNest "GainsaidOnce$Crier" 59 ⟨"GainsaidOnce", "bit", "(II)I"⟩ "GainsaidOnce", .methodLinkNest "GainsaidOnce$Crier" 110 ⟨"GainsaidOnce", "setOfOne", "(I)I"⟩ "GainsaidOnce", .methodLinkNest "GainsaidOnce$Crier" 87 ⟨"GainsaidOnce", "firstOf", "(I)I"⟩ "GainsaidOnce", .methodLinkNest "GainsaidOnce$Trials" 75 ⟨"GainsaidOnce", "firstOf", "(I)I"⟩ "GainsaidOnce", .methodLinkNest "GainsaidOnce$Town" 49 ⟨"GainsaidOnce", "has", "(II)Z"⟩ "GainsaidOnce", .methodLinkNest "GainsaidOnce$Town" 53 ⟨"GainsaidOnce", "at", "([II)I"⟩ "GainsaidOnce", .methodLinkNest "GainsaidOnce$Trials" 96 ⟨"GainsaidOnce", "has", "(II)Z"⟩ "GainsaidOnce", .methodLinkNest "GainsaidOnce$Witnesses" 78 ⟨"GainsaidOnce", "bit", "(II)I"⟩ "GainsaidOnce"]
def NW (U : State) : Prop := (∀ w ∈ nwl, va_Nw w U) ∧ va_AO "GainsaidOnce$State" U ∧ va_AO "GainsaidOnce$Image" U
theorem nw_0 {U : State} (h : NW U) : va_Nw (.fieldLinkNest "GainsaidOnce$Reader" 38 "GainsaidOnce$Row" "count" "I" "GainsaidOnce") U := h.1 _ (List.mem_of_getElem? (i := 0) rfl)
theorem nw_1 {U : State} (h : NW U) : va_Nw (.fieldLinkNest "GainsaidOnce$Witnesses" 57 "GainsaidOnce$Row" "count" "I" "GainsaidOnce") U := h.1 _ (List.mem_of_getElem? (i := 1) rfl)
theorem nw_2 {U : State} (h : NW U) : va_Nw (.fieldLinkNest "GainsaidOnce" 135 "GainsaidOnce$Row" "count" "I" "GainsaidOnce") U := h.1 _ (List.mem_of_getElem? (i := 2) rfl)
theorem nw_3 {U : State} (h : NW U) : va_Nw (.fieldLinkNest "GainsaidOnce$Trials" 57 "GainsaidOnce$Row" "count" "I" "GainsaidOnce") U := h.1 _ (List.mem_of_getElem? (i := 3) rfl)
theorem nw_4 {U : State} (h : NW U) : va_Nw (.fieldLinkNest "GainsaidOnce" 95 "GainsaidOnce$Reader" "letters" "LGainsaidOnce$Row;" "GainsaidOnce") U := h.1 _ (List.mem_of_getElem? (i := 4) rfl)
theorem nw_5 {U : State} (h : NW U) : va_Nw (.fieldLinkNest "GainsaidOnce" 106 "GainsaidOnce$Reader" "faultAt" "I" "GainsaidOnce") U := h.1 _ (List.mem_of_getElem? (i := 5) rfl)
theorem nw_6 {U : State} (h : NW U) : va_Nw (.fieldLinkNest "GainsaidOnce$Reader" 83 "GainsaidOnce$Town" "clauses" "I" "GainsaidOnce") U := h.1 _ (List.mem_of_getElem? (i := 6) rfl)
theorem nw_7 {U : State} (h : NW U) : va_Nw (.fieldLinkNest "GainsaidOnce" 129 "GainsaidOnce$Town" "clauses" "I" "GainsaidOnce") U := h.1 _ (List.mem_of_getElem? (i := 7) rfl)
theorem nw_8 {U : State} (h : NW U) : va_Nw (.fieldLinkNest "GainsaidOnce$Crier" 81 "GainsaidOnce$Town" "clauses" "I" "GainsaidOnce") U := h.1 _ (List.mem_of_getElem? (i := 8) rfl)
theorem nw_9 {U : State} (h : NW U) : va_Nw (.fieldLinkNest "GainsaidOnce$Trials" 61 "GainsaidOnce$Town" "clauses" "I" "GainsaidOnce") U := h.1 _ (List.mem_of_getElem? (i := 9) rfl)
theorem nw_10 {U : State} (h : NW U) : va_Nw (.fieldLinkNest "GainsaidOnce$Crier" 42 "GainsaidOnce$Town" "corners" "I" "GainsaidOnce") U := h.1 _ (List.mem_of_getElem? (i := 10) rfl)
theorem nw_11 {U : State} (h : NW U) : va_Nw (.fieldLinkNest "GainsaidOnce" 126 "GainsaidOnce$Town" "corners" "I" "GainsaidOnce") U := h.1 _ (List.mem_of_getElem? (i := 11) rfl)
theorem nw_12 {U : State} (h : NW U) : va_Nw (.fieldLinkNest "GainsaidOnce$Reader" 70 "GainsaidOnce$Town" "corners" "I" "GainsaidOnce") U := h.1 _ (List.mem_of_getElem? (i := 12) rfl)
theorem nw_13 {U : State} (h : NW U) : va_Nw (.fieldLinkNest "GainsaidOnce$Trials" 69 "GainsaidOnce$Town" "corners" "I" "GainsaidOnce") U := h.1 _ (List.mem_of_getElem? (i := 13) rfl)
theorem nw_14 {U : State} (h : NW U) : va_Nw (.fieldLinkNest "GainsaidOnce$Reader" 73 "GainsaidOnce$Town" "hearers" "I" "GainsaidOnce") U := h.1 _ (List.mem_of_getElem? (i := 14) rfl)
theorem nw_15 {U : State} (h : NW U) : va_Nw (.fieldLinkNest "GainsaidOnce$Witnesses" 61 "GainsaidOnce$Town" "hearers" "I" "GainsaidOnce") U := h.1 _ (List.mem_of_getElem? (i := 15) rfl)
theorem nw_16 {U : State} (h : NW U) : va_Nw (.fieldLinkNest "GainsaidOnce" 132 "GainsaidOnce$Town" "hearers" "I" "GainsaidOnce") U := h.1 _ (List.mem_of_getElem? (i := 16) rfl)
theorem nw_17 {U : State} (h : NW U) : va_Nw (.fieldLinkNest "GainsaidOnce$Crier" 84 "GainsaidOnce$Town" "hearers" "I" "GainsaidOnce") U := h.1 _ (List.mem_of_getElem? (i := 17) rfl)
theorem nw_18 {U : State} (h : NW U) : va_Nw (.fieldLinkNest "GainsaidOnce$Trials" 88 "GainsaidOnce$Town" "hearers" "I" "GainsaidOnce") U := h.1 _ (List.mem_of_getElem? (i := 18) rfl)
theorem nw_19 {U : State} (h : NW U) : va_Nw (.fieldLinkNest "GainsaidOnce$State" 34 "GainsaidOnce$Town" "firstColds" "I" "GainsaidOnce") U := h.1 _ (List.mem_of_getElem? (i := 19) rfl)
theorem nw_20 {U : State} (h : NW U) : va_Nw (.fieldLinkNest "GainsaidOnce" 189 "GainsaidOnce$Town" "beers" "[I" "GainsaidOnce") U := h.1 _ (List.mem_of_getElem? (i := 20) rfl)
theorem nw_21 {U : State} (h : NW U) : va_Nw (.fieldLinkNest "GainsaidOnce$State" 42 "GainsaidOnce$Town" "firstPlaces" "[I" "GainsaidOnce") U := h.1 _ (List.mem_of_getElem? (i := 21) rfl)
theorem nw_22 {U : State} (h : NW U) : va_Nw (.fieldLinkNest "GainsaidOnce" 176 "GainsaidOnce$Town" "pinches" "[I" "GainsaidOnce") U := h.1 _ (List.mem_of_getElem? (i := 22) rfl)
theorem nw_23 {U : State} (h : NW U) : va_Nw (.fieldLinkNest "GainsaidOnce$Crier" 98 "GainsaidOnce$Town" "pinches" "[I" "GainsaidOnce") U := h.1 _ (List.mem_of_getElem? (i := 23) rfl)
theorem nw_24 {U : State} (h : NW U) : va_Nw (.fieldLinkNest "GainsaidOnce" 179 "GainsaidOnce$Town" "sayings" "[I" "GainsaidOnce") U := h.1 _ (List.mem_of_getElem? (i := 24) rfl)
theorem nw_25 {U : State} (h : NW U) : va_Nw (.fieldLinkNest "GainsaidOnce$Crier" 107 "GainsaidOnce$Town" "sayings" "[I" "GainsaidOnce") U := h.1 _ (List.mem_of_getElem? (i := 25) rfl)
theorem nw_26 {U : State} (h : NW U) : va_Nw (.fieldLinkNest "GainsaidOnce" 138 "GainsaidOnce$State" "rounds" "I" "GainsaidOnce") U := h.1 _ (List.mem_of_getElem? (i := 26) rfl)
theorem nw_27 {U : State} (h : NW U) : va_Nw (.fieldLinkNest "GainsaidOnce" 141 "GainsaidOnce$State" "months" "I" "GainsaidOnce") U := h.1 _ (List.mem_of_getElem? (i := 27) rfl)
theorem nw_28 {U : State} (h : NW U) : va_Nw (.fieldLinkNest "GainsaidOnce" 144 "GainsaidOnce$State" "law" "I" "GainsaidOnce") U := h.1 _ (List.mem_of_getElem? (i := 28) rfl)
theorem nw_29 {U : State} (h : NW U) : va_Nw (.fieldLinkNest "GainsaidOnce" 147 "GainsaidOnce$State" "holds" "I" "GainsaidOnce") U := h.1 _ (List.mem_of_getElem? (i := 29) rfl)
theorem nw_30 {U : State} (h : NW U) : va_Nw (.fieldLinkNest "GainsaidOnce$Crier" 38 "GainsaidOnce$State" "hoarse" "I" "GainsaidOnce") U := h.1 _ (List.mem_of_getElem? (i := 30) rfl)
theorem nw_31 {U : State} (h : NW U) : va_Nw (.fieldLinkNest "GainsaidOnce" 150 "GainsaidOnce$State" "hoarse" "I" "GainsaidOnce") U := h.1 _ (List.mem_of_getElem? (i := 31) rfl)
theorem nw_32 {U : State} (h : NW U) : va_Nw (.fieldLinkNest "GainsaidOnce$Crier" 21 "GainsaidOnce$State" "keptIn" "I" "GainsaidOnce") U := h.1 _ (List.mem_of_getElem? (i := 32) rfl)
theorem nw_33 {U : State} (h : NW U) : va_Nw (.fieldLinkNest "GainsaidOnce" 153 "GainsaidOnce$State" "keptIn" "I" "GainsaidOnce") U := h.1 _ (List.mem_of_getElem? (i := 33) rfl)
theorem nw_34 {U : State} (h : NW U) : va_Nw (.fieldLinkNest "GainsaidOnce$Trials" 91 "GainsaidOnce$State" "keptIn" "I" "GainsaidOnce") U := h.1 _ (List.mem_of_getElem? (i := 34) rfl)
theorem nw_35 {U : State} (h : NW U) : va_Nw (.fieldLinkNest "GainsaidOnce$Crier" 64 "GainsaidOnce$State" "colds" "I" "GainsaidOnce") U := h.1 _ (List.mem_of_getElem? (i := 35) rfl)
theorem nw_36 {U : State} (h : NW U) : va_Nw (.fieldLinkNest "GainsaidOnce" 156 "GainsaidOnce$State" "colds" "I" "GainsaidOnce") U := h.1 _ (List.mem_of_getElem? (i := 36) rfl)
theorem nw_37 {U : State} (h : NW U) : va_Nw (.fieldLinkNest "GainsaidOnce" 168 "GainsaidOnce$State" "places" "[I" "GainsaidOnce") U := h.1 _ (List.mem_of_getElem? (i := 37) rfl)
theorem nw_38 {U : State} (h : NW U) : va_Nw (.fieldLinkNest "GainsaidOnce$Crier" 90 "GainsaidOnce$State" "places" "[I" "GainsaidOnce") U := h.1 _ (List.mem_of_getElem? (i := 38) rfl)
theorem nw_39 {U : State} (h : NW U) : va_Nw (.fieldLinkNest "GainsaidOnce" 162 "GainsaidOnce$Past" "count" "I" "GainsaidOnce") U := h.1 _ (List.mem_of_getElem? (i := 39) rfl)
theorem nw_40 {U : State} (h : NW U) : va_Nw (.fieldLinkNest "GainsaidOnce" 328 "GainsaidOnce$Image" "state" "LGainsaidOnce$State;" "GainsaidOnce") U := h.1 _ (List.mem_of_getElem? (i := 40) rfl)
theorem nw_41 {U : State} (h : NW U) : va_Nw (.fieldLinkNest "GainsaidOnce" 333 "GainsaidOnce$Image" "seedThen" "I" "GainsaidOnce") U := h.1 _ (List.mem_of_getElem? (i := 41) rfl)
theorem nw_42 {U : State} (h : NW U) : va_Nw (.fieldLinkNest "GainsaidOnce" 324 "GainsaidOnce$Image" "isTaken" "Z" "GainsaidOnce") U := h.1 _ (List.mem_of_getElem? (i := 42) rfl)
theorem nw_43 {U : State} (h : NW U) : va_Nw (.fieldLinkNest "GainsaidOnce$Trials" 119 "GainsaidOnce$Crier" "decree" "I" "GainsaidOnce") U := h.1 _ (List.mem_of_getElem? (i := 43) rfl)
theorem nw_44 {U : State} (h : NW U) : va_Nw (.fieldLinkNest "GainsaidOnce" 247 "GainsaidOnce$Crier" "decree" "I" "GainsaidOnce") U := h.1 _ (List.mem_of_getElem? (i := 44) rfl)
theorem nw_45 {U : State} (h : NW U) : va_Nw (.fieldLinkNest "GainsaidOnce$Trials" 108 "GainsaidOnce$Crier" "holds" "I" "GainsaidOnce") U := h.1 _ (List.mem_of_getElem? (i := 45) rfl)
theorem nw_46 {U : State} (h : NW U) : va_Nw (.fieldLinkNest "GainsaidOnce" 250 "GainsaidOnce$Crier" "holds" "I" "GainsaidOnce") U := h.1 _ (List.mem_of_getElem? (i := 46) rfl)
theorem nw_47 {U : State} (h : NW U) : va_Nw (.fieldLinkNest "GainsaidOnce$Witnesses" 88 "GainsaidOnce$Crier" "spoke" "I" "GainsaidOnce") U := h.1 _ (List.mem_of_getElem? (i := 47) rfl)
theorem nw_48 {U : State} (h : NW U) : va_Nw (.fieldLinkNest "GainsaidOnce" 251 "GainsaidOnce$Crier" "spoke" "I" "GainsaidOnce") U := h.1 _ (List.mem_of_getElem? (i := 48) rfl)
theorem nw_49 {U : State} (h : NW U) : va_Nw (.fieldLinkNest "GainsaidOnce" 336 "GainsaidOnce$Crier" "hoarse" "I" "GainsaidOnce") U := h.1 _ (List.mem_of_getElem? (i := 49) rfl)
theorem nw_50 {U : State} (h : NW U) : va_Nw (.fieldLinkNest "GainsaidOnce" 269 "GainsaidOnce$Trials" "beginnings" "LGainsaidOnce$Row;" "GainsaidOnce") U := h.1 _ (List.mem_of_getElem? (i := 50) rfl)
theorem nw_51 {U : State} (h : NW U) : va_Nw (.fieldLinkNest "GainsaidOnce$Witnesses" 26 "GainsaidOnce" "FEW" "[I" "GainsaidOnce") U := h.1 _ (List.mem_of_getElem? (i := 51) rfl)
theorem nw_52 {U : State} (h : NW U) : va_Nw (.fieldLinkNest "GainsaidOnce" 159 "GainsaidOnce$Witnesses" "decrees" "LGainsaidOnce$Row;" "GainsaidOnce") U := h.1 _ (List.mem_of_getElem? (i := 52) rfl)
theorem nw_53 {U : State} (h : NW U) : va_Nw (.fieldLinkNest "GainsaidOnce" 307 "GainsaidOnce$Witnesses" "suspects" "LGainsaidOnce$Row;" "GainsaidOnce") U := h.1 _ (List.mem_of_getElem? (i := 53) rfl)
theorem nw_54 {U : State} (h : NW U) : va_Nw (.fieldLinkNest "GainsaidOnce" 313 "GainsaidOnce$Draws" "value" "I" "GainsaidOnce") U := h.1 _ (List.mem_of_getElem? (i := 54) rfl)
theorem nw_55 {U : State} (h : NW U) : va_Nw (.fieldLinkNest "GainsaidOnce$Trials" 32 "GainsaidOnce" "FEW" "[I" "GainsaidOnce") U := h.1 _ (List.mem_of_getElem? (i := 55) rfl)
theorem nw_56 {U : State} (h : NW U) : va_Nw (.methodLinkNest "GainsaidOnce" 9 ⟨"GainsaidOnce$Reader", "<init>", "()V"⟩ "GainsaidOnce") U := h.1 _ (List.mem_of_getElem? (i := 56) rfl)
theorem nw_57 {U : State} (h : NW U) : va_Nw (.methodLinkNest "GainsaidOnce" 18 ⟨"GainsaidOnce$Town", "<init>", "()V"⟩ "GainsaidOnce") U := h.1 _ (List.mem_of_getElem? (i := 57) rfl)
theorem nw_58 {U : State} (h : NW U) : va_Nw (.methodLinkNest "GainsaidOnce" 28 ⟨"GainsaidOnce$State", "<init>", "()V"⟩ "GainsaidOnce") U := h.1 _ (List.mem_of_getElem? (i := 58) rfl)
theorem nw_59 {U : State} (h : NW U) : va_Nw (.methodLinkNest "GainsaidOnce$Past" 17 ⟨"GainsaidOnce$State", "<init>", "()V"⟩ "GainsaidOnce") U := h.1 _ (List.mem_of_getElem? (i := 59) rfl)
theorem nw_60 {U : State} (h : NW U) : va_Nw (.methodLinkNest "GainsaidOnce" 42 ⟨"GainsaidOnce$Image", "<init>", "()V"⟩ "GainsaidOnce") U := h.1 _ (List.mem_of_getElem? (i := 60) rfl)
theorem nw_61 {U : State} (h : NW U) : va_Nw (.methodLinkNest "GainsaidOnce$Image" 9 ⟨"GainsaidOnce$State", "<init>", "()V"⟩ "GainsaidOnce") U := h.1 _ (List.mem_of_getElem? (i := 61) rfl)
theorem nw_62 {U : State} (h : NW U) : va_Nw (.methodLinkNest "GainsaidOnce" 85 ⟨"GainsaidOnce$Draws", "<init>", "()V"⟩ "GainsaidOnce") U := h.1 _ (List.mem_of_getElem? (i := 62) rfl)
theorem nw_63 {U : State} (h : NW U) : va_Nw (.methodLinkNest "GainsaidOnce$Town" 41 ⟨"GainsaidOnce", "put", "([III)V"⟩ "GainsaidOnce") U := h.1 _ (List.mem_of_getElem? (i := 63) rfl)
theorem nw_64 {U : State} (h : NW U) : va_Nw (.methodLinkNest "GainsaidOnce$Town" 45 ⟨"GainsaidOnce", "withBit", "(IIZ)I"⟩ "GainsaidOnce") U := h.1 _ (List.mem_of_getElem? (i := 64) rfl)
theorem nw_65 {U : State} (h : NW U) : va_Nw (.methodLinkNest "GainsaidOnce$Town" 37 ⟨"GainsaidOnce", "copyRow", "([I[I)V"⟩ "GainsaidOnce") U := h.1 _ (List.mem_of_getElem? (i := 65) rfl)
theorem nw_66 {U : State} (h : NW U) : va_Nw (.methodLinkNest "GainsaidOnce$State" 45 ⟨"GainsaidOnce", "copyRow", "([I[I)V"⟩ "GainsaidOnce") U := h.1 _ (List.mem_of_getElem? (i := 66) rfl)
theorem nw_67 {U : State} (h : NW U) : va_Nw (.methodLinkNest "GainsaidOnce$State" 49 ⟨"GainsaidOnce", "at", "([II)I"⟩ "GainsaidOnce") U := h.1 _ (List.mem_of_getElem? (i := 67) rfl)
theorem nw_68 {U : State} (h : NW U) : va_Nw (.methodLinkNest "GainsaidOnce$Crier" 94 ⟨"GainsaidOnce", "at", "([II)I"⟩ "GainsaidOnce") U := h.1 _ (List.mem_of_getElem? (i := 68) rfl)
theorem nw_69 {U : State} (h : NW U) : va_Nw (.methodLinkNest "GainsaidOnce$Crier" 67 ⟨"GainsaidOnce", "has", "(II)Z"⟩ "GainsaidOnce") U := h.1 _ (List.mem_of_getElem? (i := 69) rfl)
theorem nw_70 {U : State} (h : NW U) : va_Nw (.methodLinkNest "GainsaidOnce$Crier" 59 ⟨"GainsaidOnce", "bit", "(II)I"⟩ "GainsaidOnce") U := h.1 _ (List.mem_of_getElem? (i := 70) rfl)
theorem nw_71 {U : State} (h : NW U) : va_Nw (.methodLinkNest "GainsaidOnce$Crier" 110 ⟨"GainsaidOnce", "setOfOne", "(I)I"⟩ "GainsaidOnce") U := h.1 _ (List.mem_of_getElem? (i := 71) rfl)
theorem nw_72 {U : State} (h : NW U) : va_Nw (.methodLinkNest "GainsaidOnce$Crier" 87 ⟨"GainsaidOnce", "firstOf", "(I)I"⟩ "GainsaidOnce") U := h.1 _ (List.mem_of_getElem? (i := 72) rfl)
theorem nw_73 {U : State} (h : NW U) : va_Nw (.methodLinkNest "GainsaidOnce$Trials" 75 ⟨"GainsaidOnce", "firstOf", "(I)I"⟩ "GainsaidOnce") U := h.1 _ (List.mem_of_getElem? (i := 73) rfl)
theorem nw_74 {U : State} (h : NW U) : va_Nw (.methodLinkNest "GainsaidOnce$Town" 49 ⟨"GainsaidOnce", "has", "(II)Z"⟩ "GainsaidOnce") U := h.1 _ (List.mem_of_getElem? (i := 74) rfl)
theorem nw_75 {U : State} (h : NW U) : va_Nw (.methodLinkNest "GainsaidOnce$Town" 53 ⟨"GainsaidOnce", "at", "([II)I"⟩ "GainsaidOnce") U := h.1 _ (List.mem_of_getElem? (i := 75) rfl)
theorem nw_76 {U : State} (h : NW U) : va_Nw (.methodLinkNest "GainsaidOnce$Trials" 96 ⟨"GainsaidOnce", "has", "(II)Z"⟩ "GainsaidOnce") U := h.1 _ (List.mem_of_getElem? (i := 76) rfl)
theorem nw_77 {U : State} (h : NW U) : va_Nw (.methodLinkNest "GainsaidOnce$Witnesses" 78 ⟨"GainsaidOnce", "bit", "(II)I"⟩ "GainsaidOnce") U := h.1 _ (List.mem_of_getElem? (i := 77) rfl)
def nwb (w : Cond) : Bool := match w with
  | .fieldLinkNest _ _ _ _ _ _ => true
  | .methodLinkNest _ _ _ _ => true
  | _ => false
theorem nwl_b : nwl.all nwb = true := by decide +kernel
theorem nwl_t : nwl.all (fun w => w.onTables) = true := by decide +kernel
theorem nwb_warm {s U : State} (hW : s.WarmedH U.vm) : ∀ (w : Cond), nwb w = true → va_Nw w s → va_Nw w U
  | .fieldLinkNest _ _ _ _ _ _, _, h => va_Nw.warmF hW h
  | .methodLinkNest _ _ _ _, _, h => va_Nw.warmM hW h
theorem NW.warm {s U : State} (hW : s.WarmedH U.vm) (h : NW s) : NW U := ⟨fun w hw => nwb_warm hW w (List.all_eq_true.mp nwl_b w hw) (h.1 w hw), h.2.1.moved hW.alike, h.2.2.moved hW.alike⟩
theorem NW.same {u U : State} (e : u.vm = U.vm) (h : NW u) : NW U := ⟨fun w hw => va_Nw.same (List.all_eq_true.mp nwl_t w hw) e (h.1 w hw), h.2.1.moved (by rw [e]; exact Vm.Alike.refl _), h.2.2.moved (by rw [e]; exact Vm.Alike.refl _)⟩
theorem NW.of {A : Array Value} {U : State} (h : ∀ w ∈ nwl, w.before A U = true) (h1 : (Cond.arrayOver (.object "GainsaidOnce$State")).before A U = true) (h2 : (Cond.arrayOver (.object "GainsaidOnce$Image")).before A U = true) : NW U := ⟨fun w hw => va_Nw.of (List.all_eq_true.mp nwl_t w hw) (h w hw), va_AO.of h1, va_AO.of h2⟩
/-! the table FEW -/
def few (k : Nat) : Int32 := [0, 1, 2, 4, 8, 16, 32, 64, 128, 256, 3, 5, 6, 9, 10, 12, 17, 18, 20, 24, 33, 34, 36, 40, 48, 65, 66, 68, 72, 80, 96, 129, 130, 132, 136, 144, 160, 192, 257, 258, 260, 264, 272, 288, 320, 384].getD k 0
def FW (t : Nat) (A : Nat → Prop) (U : State) : Prop := va_Z "GainsaidOnce" "FEW" "[I" (.ref t) A U U.heap ∧ va_T .int t 46 (fun j => .int (few j)) A U U.heap
/-! what a method starts from -/
abbrev tyl (a : Nat → ClassId) : List (ClassId × FieldType) := [(a 0, .int), (a 1, .boolean), (a 2, .object "GainsaidOnce$State"), (a 3, .object "GainsaidOnce$Image")]
def Pre (D : va_G) (a : Nat → ClassId) (t : Nat) (W : va_W) (sz : Nat) (U : State) : Prop := U.heap.size = sz ∧ va_P D vwCl W U.heap ∧ va_K D vwCl (tyl a) U ∧ va_D (fun _ => True) W ∧ NW U ∧ FW t (va_A W sz) U
theorem Pre.blind {D : va_G} {a : Nat → ClassId} {t : Nat} {W : va_W} {sz : Nat} {As : List Value} : FrameBlind (va_Pc As (Pre D a t W sz)) := by
  intro b U g mk q
  obtain ⟨q0, q1, qP, qK, qD, qN, qZ, qT⟩ := q
  exact ⟨q0, q1, qP, va_K.moved (u := U) (U := U.calling g mk b) (Vm.Alike.refl U.vm) qK, qD, NW.same (u := U) (U := U.calling g mk b) rfl qN, va_Z.moved (u := U) (U := U.calling g mk b) (Vm.Alike.refl U.vm) qZ, va_T.moved (u := U) (U := U.calling g mk b) (Vm.Alike.refl U.vm) qT⟩
/-! contracts -/
def Ki (l : Launch) (y : MethodName) (ws : List Cond) (fr lo : Nat) (D : va_G) (a : Nat → ClassId) (t : Nat) (As : List Value) (W W' : va_W) (r : Int32) : Prop := ∀ sz : Nat, Met l y ws { frames := fr, cells := 0, slots := 0, locals := lo } (va_Pc As (Pre D a t W sz)) (va_Qi (fun q (_ : Unit) => q = r) (fun _ T => va_P D vwCl W' T.heap ∧ va_D (va_A W sz) W') (va_A W sz)) 0 0 (va_A W sz)
def Kv (l : Launch) (y : MethodName) (ws : List Cond) (fr lo : Nat) (D : va_G) (a : Nat → ClassId) (t : Nat) (As : List Value) (W W' : va_W) : Prop := ∀ sz : Nat, Met l y ws { frames := fr, cells := 0, slots := 0, locals := lo } (va_Pc As (Pre D a t W sz)) (va_Qv (fun (_ : Unit) => True) (fun _ T => va_P D vwCl W' T.heap ∧ va_D (va_A W sz) W') (va_A W sz)) 0 0 (va_A W sz)
def Cx (p : Program) (m : MethodId) (c : Code) (cc : ByteArray) (nL : Nat) (s : State) (args : Array Value) (Ts : List Cond) (own : String) (D : va_G) (a : Nat → ClassId) (t : Nat) (A : Nat → Prop) : Prop := CallFix p m c cc nL s args Ts own ∧ va_K D vwCl (tyl a) s ∧ NW s ∧ FW t A s ∧ ∀ q, s.heap.size ≤ q → A q
theorem Ki.mk {l : Launch} {y : MethodName} {ws ws' : List Cond} {fr lo : Nat} {D : va_G} {a : Nat → ClassId} {t : Nat} {As : List Value} {W0 W1 : va_W} {r : Int32} {cc : ByteArray} {nL : Nat} {ty : FieldType} {own : String}
    (hy : plainName y.cls = true) (hw : ws = Cond.code y cc nL (some ty) :: ws') (hown : y.cls = own) (hAl : (lg_sl As).length ≤ nL)
    (body : ∀ (p : Program) (e : Env) (s : State) (m : MethodId) (args : Array Value) (below : List Frame) (meth : Method) (c : Code) (A : Nat → Prop) (Q : State → Prop) (ls : Array Slot), Cx p m c cc nL s args ws own D a t A → va_P D vwCl W0 s.heap → va_D A W0 → va_S A s.heap s.heap [] → lv_has ls nL (lv_args 0 As) →
      (∀ (H : Heap) (locs : List Loc) (ls : Array Slot) (pc : Nat), narrow ty (.int r) = .int r → va_P D vwCl W1 H → va_D A W1 → va_S A s.heap H locs → decode cc pc = .ok (.ireturn, 1) → W p l e { frames := fr, cells := 0, slots := 0, locals := lo } s m args below meth c H locs 0 0 Q (F0 m pc ls [.int r])) →
      W p l e { frames := fr, cells := 0, slots := 0, locals := lo } s m args below meth c s.heap [] 0 0 Q (F0 m 0 ls [])) : Ki l y ws fr lo D a t As W0 W1 r := by
  intro sz
  refine Met.ofW (cc := cc) (maxL := nL) (ret := some ty) hy hw ?_
  intro p e s m args below meth c s₁ B hml hv
  obtain ⟨rfl, hsz, hP, hK, hD0, hN, hF⟩ := hv
  have hx := B.exec
  have hb := B.bytes
  have hr := B.returns
  have hts := atoms_spec (ws := ws) B.pre
  have hown2 : s.vm.findClass own = some m.cls := by rw [← hown]; exact findClass_of_methodNamed B.named
  have hlocks := B.notSynchronized
  subst hsz
  have hD := hD0.self (sz := s.heap.size)
  have hl := lv_entry As (n := nL) hAl
  rw [lg_entry_eq]
  refine body p e s m _ below meth c (va_A W0 s.heap.size) _ _ ⟨⟨hx, hb, hml, hown2, hts⟩, hK, hN, hF, fun q h => Or.inr h⟩ hP hD va_S.rf hl ?_
  intro H locs ls pc hn hP1 hD1 hS hdg
  exact W.zret hx hb hr hn (fun t0 ht hW => ⟨⟨r, (), rfl, rfl, by rw [ht]; exact hP1, hD1⟩, hS.F ht⟩) hS.2.2 hdg hlocks
theorem Kv.mk {l : Launch} {y : MethodName} {ws ws' : List Cond} {fr lo : Nat} {D : va_G} {a : Nat → ClassId} {t : Nat} {As : List Value} {W0 W1 : va_W} {cc : ByteArray} {nL : Nat} {own : String}
    (hy : plainName y.cls = true) (hw : ws = Cond.code y cc nL none :: ws') (hown : y.cls = own) (hAl : (lg_sl As).length ≤ nL)
    (body : ∀ (p : Program) (e : Env) (s : State) (m : MethodId) (args : Array Value) (below : List Frame) (meth : Method) (c : Code) (A : Nat → Prop) (Q : State → Prop) (ls : Array Slot), Cx p m c cc nL s args ws own D a t A → va_P D vwCl W0 s.heap → va_D A W0 → va_S A s.heap s.heap [] → lv_has ls nL (lv_args 0 As) →
      (∀ (H : Heap) (locs : List Loc) (ls : Array Slot) (pc : Nat), va_P D vwCl W1 H → va_D A W1 → va_S A s.heap H locs → decode cc pc = .ok (.return_, 1) → W p l e { frames := fr, cells := 0, slots := 0, locals := lo } s m args below meth c H locs 0 0 Q (F0 m pc ls [])) →
      W p l e { frames := fr, cells := 0, slots := 0, locals := lo } s m args below meth c s.heap [] 0 0 Q (F0 m 0 ls [])) : Kv l y ws fr lo D a t As W0 W1 := by
  intro sz
  refine Met.ofW (cc := cc) (maxL := nL) (ret := none) hy hw ?_
  intro p e s m args below meth c s₁ B hml hv
  obtain ⟨rfl, hsz, hP, hK, hD0, hN, hF⟩ := hv
  have hx := B.exec
  have hb := B.bytes
  have hr := B.returns
  have hts := atoms_spec (ws := ws) B.pre
  have hown2 : s.vm.findClass own = some m.cls := by rw [← hown]; exact findClass_of_methodNamed B.named
  have hlocks := B.notSynchronized
  subst hsz
  have hD := hD0.self (sz := s.heap.size)
  have hl := lv_entry As (n := nL) hAl
  rw [lg_entry_eq]
  refine body p e s m _ below meth c (va_A W0 s.heap.size) _ _ ⟨⟨hx, hb, hml, hown2, hts⟩, hK, hN, hF, fun q h => Or.inr h⟩ hP hD va_S.rf hl ?_
  intro H locs ls pc hP1 hD1 hS hdg
  exact W.vret hx hb hr (fun t0 ht hW => ⟨⟨(), rfl, trivial, by rw [ht]; exact hP1, hD1⟩, hS.F ht⟩) hS.2.2 hdg hlocks
/-! a callee's cells among the caller's -/
def Cut (D : va_G) (A : Nat → Prop) (H : Heap) (Wc Wc' W' : va_W) : Prop := va_P D vwCl Wc H ∧ va_D (fun _ => True) Wc ∧ (∀ q, va_A Wc H.size q → A q) ∧ ∀ H1 : Heap, (∀ q : Nat, q < H.size → ¬ va_A Wc H.size q → H1[q]? = H[q]?) → va_P D vwCl Wc' H1 → va_D (va_A Wc H.size) Wc' → va_P D vwCl W' H1 ∧ va_D A W'
def upw (w : va_W) : List Nat → va_W → va_W
  | i :: is, q :: qs => upw (w.set i q) is qs
  | _, _ => w
theorem upw_len (is : List Nat) : ∀ (w qs : va_W), (upw w is qs).length = w.length := by
  induction is with
  | nil => intro w qs; cases qs <;> rfl
  | cons i is ih =>
    intro w qs
    cases qs with
    | nil => rfl
    | cons q qs => show (upw (w.set i q) is qs).length = _; rw [ih]; exact List.length_set
theorem upw_out (is : List Nat) : ∀ (w qs : va_W) (k : Nat), k ∉ is → (upw w is qs)[k]? = w[k]? := by
  induction is with
  | nil => intro w qs k _; cases qs <;> rfl
  | cons i is ih =>
    intro w qs k hk
    cases qs with
    | nil => rfl
    | cons q qs =>
      show (upw (w.set i q) is qs)[k]? = _
      rw [ih _ _ _ (fun h => hk (List.mem_cons_of_mem _ h))]
      exact List.getElem?_set_ne (fun h => hk (by rw [← h]; exact List.mem_cons_self))
theorem upw_in (is : List Nat) : ∀ (w qs : va_W) (j k : Nat) (q : Nat × va_E), is.Nodup → is[j]? = some k → qs[j]? = some q → k < w.length → (upw w is qs)[k]? = some q := by
  induction is with
  | nil => intro w qs j k q _ h; simp at h
  | cons i is ih =>
    intro w qs j k q hn h1 h2 hk
    cases qs with
    | nil => simp at h2
    | cons q0 qs =>
      show (upw (w.set i q0) is qs)[k]? = _
      cases j with
      | zero =>
        simp at h1 h2
        subst h1; subst h2
        rw [upw_out is _ _ _ (List.nodup_cons.mp hn).1]
        rw [List.getElem?_set_self hk]
      | succ j =>
        simp at h1 h2
        exact ih _ _ j k q (List.nodup_cons.mp hn).2 h1 h2 (by rw [List.length_set]; exact hk)
theorem va_nd_nodup : ∀ (l : List Nat), va_nd l = true → l.Nodup := by
  intro l h
  rw [List.nodup_iff_pairwise_ne, List.pairwise_iff_getElem]
  intro i j hi hj hij e
  have := va_nd_inj l h i j l[i] (List.getElem?_eq_getElem hi) (by rw [e]; exact List.getElem?_eq_getElem hj)
  omega
theorem cut_map {W Wc : va_W} {is : List Nat} (hC : is.map (fun i => W[i]?) = Wc.map some) {j : Nat} {q : Nat × va_E} (h : Wc[j]? = some q) : ∃ i, is[j]? = some i ∧ W[i]? = some q := by
  have h1 : (is.map (fun i => W[i]?))[j]? = some (some q) := by rw [hC, List.getElem?_map, h]; rfl
  rw [List.getElem?_map] at h1
  cases hi : is[j]? with
  | none => rw [hi] at h1; cases h1
  | some i => rw [hi] at h1; exact ⟨i, rfl, Option.some.inj h1⟩
theorem cut_map' {W Wc : va_W} {is : List Nat} (hC : is.map (fun i => W[i]?) = Wc.map some) {j i : Nat} (h : is[j]? = some i) : ∃ q, Wc[j]? = some q ∧ W[i]? = some q := by
  have h1 : (is.map (fun i => W[i]?))[j]? = some (W[i]?) := by rw [List.getElem?_map, h]; rfl
  rw [hC, List.getElem?_map] at h1
  cases hi : Wc[j]? with
  | none => rw [hi] at h1; cases h1
  | some q => rw [hi] at h1; exact ⟨q, rfl, (Option.some.inj h1).symm⟩
theorem Cut.gen {D : va_G} {A : Nat → Prop} {W0 Wc Wc' W' : va_W} {H0 H : Heap} {locs : List Loc} (hA : ∀ q, H0.size ≤ q → A q) (hP : va_P D vwCl W0 H) (hD : va_D A W0) (hS : va_S A H0 H locs) (is : List Nat) (hn : is.Nodup) (hC : is.map (fun i => W0[i]?) = Wc.map some) (hadr : Wc'.map Prod.fst = Wc.map Prod.fst) (hin : ∀ (j i : Nat) (q : Nat × va_E), is[j]? = some i → Wc'[j]? = some q → W'[i]? = some q) (hout : ∀ k : Nat, k ∉ is → W'[k]? = W0[k]?) : Cut D A H Wc Wc' W' := by
  have hF : ∀ q, va_A Wc H.size q → A q := va_free hD hS hA is hC
  have hPc : va_P D vwCl Wc H := fun j q hq => by
    obtain ⟨i, -, h⟩ := cut_map hC hq
    exact hP i q h
  have hDc : va_D (fun _ => True) Wc := ⟨fun i j p q h1 h2 e => by
    obtain ⟨i1, g1, k1⟩ := cut_map hC h1
    obtain ⟨j1, g2, k2⟩ := cut_map hC h2
    have := hD.1 i1 j1 p q k1 k2 e
    subst this
    rw [List.nodup_iff_pairwise_ne, List.pairwise_iff_getElem] at hn
    obtain ⟨l1, e1⟩ := List.getElem?_eq_some_iff.mp g1
    obtain ⟨l2, e2⟩ := List.getElem?_eq_some_iff.mp g2
    rcases Nat.lt_trichotomy i j with hlt | heq | hgt
    · exact absurd (e1.trans e2.symm) (hn i j l1 l2 hlt)
    · exact heq
    · exact absurd (e2.trans e1.symm) (hn j i l2 l1 hgt), fun _ _ _ => trivial⟩
  refine ⟨hPc, hDc, hF, fun H1 hk hP1 hD1 => ?_⟩
  -- a place among the callee's: what stands there behind the call
  have at1 : ∀ (k : Nat), k ∈ is → ∃ (j : Nat) (q1 q0 : Nat × va_E), Wc'[j]? = some q1 ∧ W'[k]? = some q1 ∧ W0[k]? = some q0 ∧ q1.1 = q0.1 := by
    intro k hk1
    obtain ⟨j, hj⟩ := List.getElem?_of_mem hk1
    obtain ⟨q0, c0, w0⟩ := cut_map' hC hj
    have ha : (Wc'.map Prod.fst)[j]? = some q0.1 := by rw [hadr, List.getElem?_map, c0]; rfl
    rw [List.getElem?_map] at ha
    cases hq1 : Wc'[j]? with
    | none => rw [hq1] at ha; cases ha
    | some q1 => rw [hq1] at ha; exact ⟨j, q1, q0, hq1, hin j k q1 hj hq1, w0, Option.some.inj ha⟩
  have adr : ∀ (k : Nat) (q : Nat × va_E), W'[k]? = some q → ∃ e0, W0[k]? = some (q.1, e0) := by
    intro k q hq
    by_cases hk1 : k ∈ is
    · obtain ⟨j, q1, q0, h1, h2, h3, h4⟩ := at1 k hk1
      rw [hq] at h2
      cases h2
      exact ⟨q0.2, by rw [h4]; exact h3⟩
    · rw [hout k hk1] at hq
      exact ⟨q.2, hq⟩
  refine ⟨fun k q hq => ?_, ⟨fun i j p q h1 h2 e => ?_, fun k q hq => ?_⟩⟩
  · by_cases hk1 : k ∈ is
    · obtain ⟨j, q1, q0, h1, h2, h3, h4⟩ := at1 k hk1
      rw [hq] at h2
      cases h2
      exact hP1 j q h1
    · rw [hout k hk1] at hq
      have hlt := (hP k q hq).lt
      refine (hP k q hq).kept (hk q.1 hlt (fun h => ?_))
      rcases h with ⟨k2, e2, h⟩ | h
      · obtain ⟨i2, g1, g2⟩ := cut_map hC h
        have := hD.1 k i2 q (q.1, e2) hq g2 rfl
        subst this
        exact hk1 (List.mem_of_getElem? g1)
      · omega
  · obtain ⟨e1, w1⟩ := adr i p h1
    obtain ⟨e2, w2⟩ := adr j q h2
    exact hD.1 i j _ _ w1 w2 e
  · obtain ⟨e1, w1⟩ := adr k q hq
    exact hD.2 k (q.1, e1) w1
theorem Cut.of {D : va_G} {A : Nat → Prop} {W0 Wc Wc' W' : va_W} {H0 H : Heap} {locs : List Loc} (hA : ∀ q, H0.size ≤ q → A q) (hP : va_P D vwCl W0 H) (hD : va_D A W0) (hS : va_S A H0 H locs) (is : List Nat) (hn : is.Nodup) (hC : is.map (fun i => W0[i]?) = Wc.map some) (hadr : Wc'.map Prod.fst = Wc.map Prod.fst) (hW : upw W0 is Wc' = W') : Cut D A H Wc Wc' W' := by
  subst hW
  refine Cut.gen hA hP hD hS is hn hC hadr (fun j i q h1 h2 => ?_) (fun k hk => upw_out is _ _ _ hk)
  obtain ⟨q0, -, w0⟩ := cut_map' hC h1
  exact upw_in is W0 Wc' j i q hn h1 h2 (List.getElem?_eq_some_iff.mp w0).1
theorem Cut.pool {D : va_G} {A : Nat → Prop} {X cx cx' X' pl pl' : va_W} {H0 H : Heap} {locs : List Loc} (hA : ∀ q, H0.size ≤ q → A q) (hP : va_P D vwCl (X ++ pl) H) (hD : va_D A (X ++ pl)) (hS : va_S A H0 H locs) (is : List Nat) (hn : is.Nodup) (hC : is.map (fun i => X[i]?) = cx.map some) (hadr : cx'.map Prod.fst = cx.map Prod.fst) (hpl : pl'.map Prod.fst = pl.map Prod.fst) (hW : upw X is cx' = X') : Cut D A H (cx ++ pl) (cx' ++ pl') (X' ++ pl') := by
  subst hW
  have hlen : cx.length = is.length := by have := congrArg List.length hC; simpa using this.symm
  have hlen' : cx'.length = cx.length := by have := congrArg List.length hadr; simpa using this
  have hlp : pl'.length = pl.length := by have := congrArg List.length hpl; simpa using this
  have hlt : ∀ i ∈ is, i < X.length := fun i hi => by
    obtain ⟨j, hj⟩ := List.getElem?_of_mem hi
    obtain ⟨q0, -, w0⟩ := cut_map' hC hj
    exact (List.getElem?_eq_some_iff.mp w0).1
  refine Cut.gen hA hP hD hS (is ++ List.range' X.length pl.length) ?_ ?_ ?_ ?_ ?_
  · refine List.nodup_append.mpr ⟨hn, List.nodup_range', ?_⟩
    intro x hx y hy e
    have := hlt x hx
    have := (List.mem_range'_1.mp hy).1
    omega
  · rw [List.map_append, List.map_append]
    congr 1
    · rw [← hC]
      exact List.map_congr_left fun i hi => List.getElem?_append_left (hlt i hi)
    · refine List.ext_getElem? fun k => ?_
      rw [List.getElem?_map, List.getElem?_map]
      by_cases hk : k < pl.length
      · rw [List.getElem?_range' hk]
        show some ((X ++ pl)[X.length + 1 * k]?) = _
        rw [Nat.one_mul, List.getElem?_append_right (Nat.le_add_right _ _), Nat.add_sub_cancel_left, List.getElem?_eq_getElem hk]
        rfl
      · rw [List.getElem?_eq_none (by simpa using hk), List.getElem?_eq_none (by omega)]
        rfl
  · rw [List.map_append, List.map_append, hadr, hpl]
  · intro j i q h1 h2
    by_cases hj : j < is.length
    · rw [List.getElem?_append_left hj] at h1
      rw [List.getElem?_append_left (by omega)] at h2
      have hi : i < X.length := hlt i (List.mem_of_getElem? h1)
      rw [List.getElem?_append_left (by rw [upw_len]; exact hi)]
      exact upw_in is X cx' j i q hn h1 h2 hi
    · rw [List.getElem?_append_right (by omega)] at h1
      rw [List.getElem?_append_right (by omega)] at h2
      have hk : j - is.length < pl.length := by
        have := (List.getElem?_eq_some_iff.mp h1).1
        simpa using this
      rw [List.getElem?_range' hk] at h1
      have e : i = X.length + (j - is.length) := by
        have := Option.some.inj h1
        omega
      rw [e, List.getElem?_append_right (by rw [upw_len]; omega), upw_len, Nat.add_sub_cancel_left]
      rw [← h2]
      congr 1
      omega
  · intro k hk
    by_cases hkx : k < X.length
    · rw [List.getElem?_append_left (by rw [upw_len]; exact hkx), List.getElem?_append_left hkx]
      exact upw_out is _ _ _ (fun h => hk (List.mem_append_left _ h))
    · rw [List.getElem?_append_right (by rw [upw_len]; omega), List.getElem?_append_right (by omega), upw_len]
      have hb : pl.length ≤ k - X.length := by
        refine Nat.le_of_not_lt fun hlt2 => hk (List.mem_append_right _ (List.mem_range'_1.mpr ⟨by omega, by omega⟩))
      rw [List.getElem?_eq_none (by omega), List.getElem?_eq_none hb]
theorem Cut.none {D : va_G} {A : Nat → Prop} {W0 : va_W} {H0 H : Heap} {locs : List Loc} (hA : ∀ q, H0.size ≤ q → A q) (hP : va_P D vwCl W0 H) (hD : va_D A W0) (hS : va_S A H0 H locs) : Cut D A H [] [] W0 := Cut.of hA hP hD hS [] List.nodup_nil rfl rfl rfl
/-! calls -/
section MYC
variable {p : Program} {l : Launch} {e : Env} {R : Room} {s : State} {m : MethodId} {args : Array Value} {below : List Frame} {meth : Method} {c : Code} {H : Heap} {locs : List Loc} {cells slots : Nat} {Q : State → Prop}
variable {cc : ByteArray} {nL : Nat} {Ts : List Cond} {own : String} {D : va_G} {a : Nat → ClassId} {t : Nat} {A : Nat → Prop}
variable {y : MethodName} {ws ws' : List Cond} {fr lo : Nat} {As : List Value} {Wc Wc' W1 : va_W} {r : Int32} {bytes : ByteArray} {maxL n index pc : Nat} {ret : Option FieldType} {b : Nat} {rest st0 : List Value} {ls : Array Slot} {C host : String}
theorem pre_of (X : Cx p m c cc nL s args Ts own D a t A) (hS : va_S A s.heap H locs) (hcut : Cut D A H Wc Wc' W1) : ∀ U : State, U.heap = H → s.WarmedH U.vm → Pre D a t Wc H.size U := by
  intro U hU hW
  obtain ⟨-, hK, hN, ⟨hZ, hT⟩, -⟩ := X
  obtain ⟨hP, hD, hF, -⟩ := hcut
  have hk : ∀ q : Nat, q < s.heap.size → ¬ A q → U.heap[q]? = s.heap[q]? := fun q h1 h2 => by rw [hU]; exact hS.2.1 q h1 h2
  exact ⟨by rw [hU], by rw [hU]; exact hP, va_K.moved hW.alike hK, hD, NW.warm hW hN, ((hZ.moved hW.alike).kept hk).narrow hF, ((hT.moved hW.alike).kept hk).narrow hF⟩
theorem go_i {ar : Array Value} (hr : va_Run p l e R s m args below meth c H locs cells slots 0 0 (F0 m pc ls st0) rest (va_Qi (fun q (_ : Unit) => q = r) (fun _ T => va_P D vwCl Wc' T.heap ∧ va_D (va_A Wc H.size) Wc') (va_A Wc H.size) ar) (va_A Wc H.size)) (hcut : Cut D A H Wc Wc' W1) (hS : va_S A s.heap H locs)
    (kk : ∀ (H1 : Heap) (locs1 : List Loc), va_P D vwCl W1 H1 → va_D A W1 → va_S A s.heap H1 locs1 → W p l e R s m args below meth c H1 locs1 cells slots Q (F0 m (pc + 3) ls (.int r :: rest))) : W p l e R s m args below meth c H locs cells slots Q (F0 m pc ls st0) := by
  refine va_calli hr hS (fun q _ h => hcut.2.2.1 q h) hcut.2.2.1 ?_
  intro r1 u T H1 locs1 hT hvm hw hB hz hk hS1
  subst hw
  obtain ⟨hP1, hD1⟩ := hB
  rw [hT] at hP1
  obtain ⟨h1, h2⟩ := hcut.2.2.2 H1 hk hP1 hD1
  exact kk H1 locs1 h1 h2 hS1
theorem go_v {ar : Array Value} (hr : va_Run p l e R s m args below meth c H locs cells slots 0 0 (F0 m pc ls st0) rest (va_Qv (fun (_ : Unit) => True) (fun _ T => va_P D vwCl Wc' T.heap ∧ va_D (va_A Wc H.size) Wc') (va_A Wc H.size) ar) (va_A Wc H.size)) (hcut : Cut D A H Wc Wc' W1) (hS : va_S A s.heap H locs)
    (kk : ∀ (H1 : Heap) (locs1 : List Loc), va_P D vwCl W1 H1 → va_D A W1 → va_S A s.heap H1 locs1 → W p l e R s m args below meth c H1 locs1 cells slots Q (F0 m (pc + 3) ls rest)) : W p l e R s m args below meth c H locs cells slots Q (F0 m pc ls st0) := by
  refine va_callv hr hS (fun q _ h => hcut.2.2.1 q h) hcut.2.2.1 ?_
  intro u T H1 locs1 hT hvm hw hB hz hk hS1
  obtain ⟨hP1, hD1⟩ := hB
  rw [hT] at hP1
  obtain ⟨h1, h2⟩ := hcut.2.2.2 H1 hk hP1 hD1
  exact kk H1 locs1 h1 h2 hS1
/-- the call's fixed side: words, room -/
theorem call_iV {q0 ci : Nat} {qc : vw_C} {fs : List Value} (X : Cx p m c cc nL s args Ts own D a t A) (hM : Ki l y ws fr lo D a t (.ref b :: As) Wc Wc' r) (cw : CallW R s args own qc.1 index y bytes maxL ret ws { frames := fr, cells := 0, slots := 0, locals := lo } 0 0 n) (hcut : Cut D A H Wc Wc' W1) (hS : va_S A s.heap H locs) (hcl : vwCl[ci]? = some qc) (hrc : Wc[q0]? = some (b, .inr (ci, fs)))
    (hn : As.length = n) (hsize : ls.size = nL) (hst : st0 = As.reverse ++ .ref b :: rest) (hrm : (rest.map fun v => v.category).sum ≤ 8) (hdg : decode cc pc = .ok (.invokevirtual index, 3)) (hf : cells ≤ R.cells ∧ slots ≤ R.slots)
    (kk : ∀ (H1 : Heap) (locs1 : List Loc), va_P D vwCl W1 H1 → va_D A W1 → va_S A s.heap H1 locs1 → W p l e R s m args below meth c H1 locs1 cells slots Q (F0 m (pc + 3) ls (.int r :: rest))) : W p l e R s m args below meth c H locs cells slots Q (F0 m pc ls st0) :=
  go_i (va_runV X.1 (hM H.size) cw ⟨Pre.blind, va_recv X.2.1 hcut.1 hcl hrc, fun U hU hW => ⟨rfl, pre_of X hS hcut U hU hW⟩⟩ rfl hn hsize hst (lv_room (m := m) (pc := pc) (ls := ls) (rest := st0) hrm) hdg hf) hcut hS kk
theorem call_vV {q0 ci : Nat} {qc : vw_C} {fs : List Value} (X : Cx p m c cc nL s args Ts own D a t A) (hM : Kv l y ws fr lo D a t (.ref b :: As) Wc Wc') (cw : CallW R s args own qc.1 index y bytes maxL ret ws { frames := fr, cells := 0, slots := 0, locals := lo } 0 0 n) (hcut : Cut D A H Wc Wc' W1) (hS : va_S A s.heap H locs) (hcl : vwCl[ci]? = some qc) (hrc : Wc[q0]? = some (b, .inr (ci, fs)))
    (hn : As.length = n) (hsize : ls.size = nL) (hst : st0 = As.reverse ++ .ref b :: rest) (hrm : (rest.map fun v => v.category).sum ≤ 8) (hdg : decode cc pc = .ok (.invokevirtual index, 3)) (hf : cells ≤ R.cells ∧ slots ≤ R.slots)
    (kk : ∀ (H1 : Heap) (locs1 : List Loc), va_P D vwCl W1 H1 → va_D A W1 → va_S A s.heap H1 locs1 → W p l e R s m args below meth c H1 locs1 cells slots Q (F0 m (pc + 3) ls rest)) : W p l e R s m args below meth c H locs cells slots Q (F0 m pc ls st0) :=
  go_v (va_runV X.1 (hM H.size) cw ⟨Pre.blind, va_recv X.2.1 hcut.1 hcl hrc, fun U hU hW => ⟨rfl, pre_of X hS hcut U hU hW⟩⟩ rfl hn hsize hst (lv_room (m := m) (pc := pc) (ls := ls) (rest := st0) hrm) hdg hf) hcut hS kk
theorem call_iS (X : Cx p m c cc nL s args Ts own D a t A) (hM : Ki l y ws fr lo D a t As Wc Wc' r) (cw : CallB R s args own index y bytes maxL ret ws { frames := fr, cells := 0, slots := 0, locals := lo } 0 0 n ∧ (Cond.static y).before args s = true) (hcut : Cut D A H Wc Wc' W1) (hS : va_S A s.heap H locs)
    (hn : As.length = n) (hsize : ls.size = nL) (hst : st0 = As.reverse ++ rest) (hrm : (rest.map fun v => v.category).sum ≤ 8) (hdg : decode cc pc = .ok (.invokestatic index, 3)) (hf : cells ≤ R.cells ∧ slots ≤ R.slots)
    (kk : ∀ (H1 : Heap) (locs1 : List Loc), va_P D vwCl W1 H1 → va_D A W1 → va_S A s.heap H1 locs1 → W p l e R s m args below meth c H1 locs1 cells slots Q (F0 m (pc + 3) ls (.int r :: rest))) : W p l e R s m args below meth c H locs cells slots Q (F0 m pc ls st0) :=
  go_i (va_runS X.1 (hM H.size) cw ⟨Pre.blind, fun U hU hW => ⟨rfl, pre_of X hS hcut U hU hW⟩⟩ rfl hn hsize hst (lv_room (m := m) (pc := pc) (ls := ls) (rest := st0) hrm) hdg hf) hcut hS kk
theorem call_vS (X : Cx p m c cc nL s args Ts own D a t A) (hM : Kv l y ws fr lo D a t As Wc Wc') (cw : CallB R s args own index y bytes maxL ret ws { frames := fr, cells := 0, slots := 0, locals := lo } 0 0 n ∧ (Cond.static y).before args s = true) (hcut : Cut D A H Wc Wc' W1) (hS : va_S A s.heap H locs)
    (hn : As.length = n) (hsize : ls.size = nL) (hst : st0 = As.reverse ++ rest) (hrm : (rest.map fun v => v.category).sum ≤ 8) (hdg : decode cc pc = .ok (.invokestatic index, 3)) (hf : cells ≤ R.cells ∧ slots ≤ R.slots)
    (kk : ∀ (H1 : Heap) (locs1 : List Loc), va_P D vwCl W1 H1 → va_D A W1 → va_S A s.heap H1 locs1 → W p l e R s m args below meth c H1 locs1 cells slots Q (F0 m (pc + 3) ls rest)) : W p l e R s m args below meth c H locs cells slots Q (F0 m pc ls st0) :=
  go_v (va_runS X.1 (hM H.size) cw ⟨Pre.blind, fun U hU hW => ⟨rfl, pre_of X hS hcut U hU hW⟩⟩ rfl hn hsize hst (lv_room (m := m) (pc := pc) (ls := ls) (rest := st0) hrm) hdg hf) hcut hS kk
theorem call_iSN (X : Cx p m c cc nL s args Ts own D a t A) (hM : Ki l y ws fr lo D a t As Wc Wc' r) (cw : va_CN R s args own index y host bytes maxL ret ws { frames := fr, cells := 0, slots := 0, locals := lo } 0 0 n) (hstat : (Cond.static y).before args s = true) (hcut : Cut D A H Wc Wc' W1) (hS : va_S A s.heap H locs)
    (hn : As.length = n) (hsize : ls.size = nL) (hst : st0 = As.reverse ++ rest) (hrm : (rest.map fun v => v.category).sum ≤ 8) (hdg : decode cc pc = .ok (.invokestatic index, 3)) (hf : cells ≤ R.cells ∧ slots ≤ R.slots)
    (kk : ∀ (H1 : Heap) (locs1 : List Loc), va_P D vwCl W1 H1 → va_D A W1 → va_S A s.heap H1 locs1 → W p l e R s m args below meth c H1 locs1 cells slots Q (F0 m (pc + 3) ls (.int r :: rest))) : W p l e R s m args below meth c H locs cells slots Q (F0 m pc ls st0) :=
  go_i (va_runSN X.1 (hM H.size) ⟨cw, hstat, trivial⟩ ⟨Pre.blind, fun U hU hW => ⟨rfl, pre_of X hS hcut U hU hW⟩⟩ rfl hn hsize hst (lv_room (m := m) (pc := pc) (ls := ls) (rest := st0) hrm) hdg hf) hcut hS kk
theorem call_vSN (X : Cx p m c cc nL s args Ts own D a t A) (hM : Kv l y ws fr lo D a t As Wc Wc') (cw : va_CN R s args own index y host bytes maxL ret ws { frames := fr, cells := 0, slots := 0, locals := lo } 0 0 n) (hstat : (Cond.static y).before args s = true) (hcut : Cut D A H Wc Wc' W1) (hS : va_S A s.heap H locs)
    (hn : As.length = n) (hsize : ls.size = nL) (hst : st0 = As.reverse ++ rest) (hrm : (rest.map fun v => v.category).sum ≤ 8) (hdg : decode cc pc = .ok (.invokestatic index, 3)) (hf : cells ≤ R.cells ∧ slots ≤ R.slots)
    (kk : ∀ (H1 : Heap) (locs1 : List Loc), va_P D vwCl W1 H1 → va_D A W1 → va_S A s.heap H1 locs1 → W p l e R s m args below meth c H1 locs1 cells slots Q (F0 m (pc + 3) ls rest)) : W p l e R s m args below meth c H locs cells slots Q (F0 m pc ls st0) :=
  go_v (va_runSN X.1 (hM H.size) ⟨cw, hstat, trivial⟩ ⟨Pre.blind, fun U hU hW => ⟨rfl, pre_of X hS hcut U hU hW⟩⟩ rfl hn hsize hst (lv_room (m := m) (pc := pc) (ls := ls) (rest := st0) hrm) hdg hf) hcut hS kk
/-! rows with names for what they bring -/
variable {W0 : va_W} {b0 : Nat}
theorem g_iald (X : Cx p m c cc nL s args Ts own D a t A) (hP : va_P D vwCl W0 H) (q0 : Nat) {k : Nat} {f : Nat → Int32} (ha : W0[q0]? = some (b, .inl (a 0, k, .inl f))) {i : Int32} (hin : vp_in i k) (hdg : decode cc pc = .ok (.iaload, 1))
    (kk : ∀ v : Int32, v = f i.toNatClampNeg → W p l e R s m args below meth c H locs cells slots Q (F0 m (pc + 1) ls (.int v :: rest))) : W p l e R s m args below meth c H locs cells slots Q (F0 m pc ls (.int i :: .ref b :: rest)) :=
  va_iald X.1.1 X.1.2.1 X.2.1 hP q0 0 ha rfl hin hdg (kk _ rfl)
theorem g_zald (X : Cx p m c cc nL s args Ts own D a t A) (hP : va_P D vwCl W0 H) (q0 : Nat) {k : Nat} {f : Nat → Int32} (ha : W0[q0]? = some (b, .inl (a 1, k, .inl f))) {i : Int32} (hin : vp_in i k) (hdg : decode cc pc = .ok (.baload, 1))
    (kk : ∀ v : Int32, v = f i.toNatClampNeg → W p l e R s m args below meth c H locs cells slots Q (F0 m (pc + 1) ls (.int v :: rest))) : W p l e R s m args below meth c H locs cells slots Q (F0 m pc ls (.int i :: .ref b :: rest)) :=
  va_zald X.1.1 X.1.2.1 X.2.1 hP q0 1 ha rfl hin hdg (kk _ rfl)
theorem g_iast (X : Cx p m c cc nL s args Ts own D a t A) (hP : va_P D vwCl W0 H) (hD : va_D A W0) (hS : va_S A s.heap H locs) (q0 : Nat) {k : Nat} {f : Nat → Int32} (ha : W0[q0]? = some (b, .inl (a 0, k, .inl f))) {i x : Int32} (hin : vp_in i k) (hdg : decode cc pc = .ok (.iastore, 1))
    (kk : ∀ g : Nat → Int32, g = upd f i.toNatClampNeg x → ∀ (H1 : Heap) (locs1 : List Loc), va_P D vwCl (W0.set q0 (b, .inl (a 0, k, .inl g))) H1 → va_D A (W0.set q0 (b, .inl (a 0, k, .inl g))) → va_S A s.heap H1 locs1 → W p l e R s m args below meth c H1 locs1 cells slots Q (F0 m (pc + 1) ls rest)) : W p l e R s m args below meth c H locs cells slots Q (F0 m pc ls (.int x :: .int i :: .ref b :: rest)) :=
  va_iast X.1.1 X.1.2.1 X.2.1 hP hD hS q0 0 ha rfl hin hdg (kk _ rfl)
theorem g_zast (X : Cx p m c cc nL s args Ts own D a t A) (hP : va_P D vwCl W0 H) (hD : va_D A W0) (hS : va_S A s.heap H locs) (q0 : Nat) {k : Nat} {f : Nat → Int32} (ha : W0[q0]? = some (b, .inl (a 1, k, .inl f))) {i x : Int32} (hx : vp_nar .boolean x = x) (hin : vp_in i k) (hdg : decode cc pc = .ok (.bastore, 1))
    (kk : ∀ g : Nat → Int32, g = upd f i.toNatClampNeg x → ∀ (H1 : Heap) (locs1 : List Loc), va_P D vwCl (W0.set q0 (b, .inl (a 1, k, .inl g))) H1 → va_D A (W0.set q0 (b, .inl (a 1, k, .inl g))) → va_S A s.heap H1 locs1 → W p l e R s m args below meth c H1 locs1 cells slots Q (F0 m (pc + 1) ls rest)) : W p l e R s m args below meth c H locs cells slots Q (F0 m pc ls (.int x :: .int i :: .ref b :: rest)) :=
  va_zast X.1.1 X.1.2.1 X.2.1 hP hD hS q0 1 ha rfl hin hdg (kk _ (by rw [hx]))
theorem g_alen (X : Cx p m c cc nL s args Ts own D a t A) (hP : va_P D vwCl W0 H) (q0 t0 : Nat) {cA : ClassId} {k : Nat} {x : (Nat → Int32) ⊕ ((Nat → Int64) ⊕ ((Nat → UInt32) ⊕ ((Nat → UInt64) ⊕ (Nat → Option Nat))))} (ha : W0[q0]? = some (b, .inl (cA, k, x))) {ty : FieldType} (ht : (tyl a)[t0]? = some (cA, ty)) (hdg : decode cc pc = .ok (.arraylength, 1))
    (kk : W p l e R s m args below meth c H locs cells slots Q (F0 m (pc + 1) ls (.int (Int32.ofNat k) :: rest))) : W p l e R s m args below meth c H locs cells slots Q (F0 m pc ls (.ref b :: rest)) :=
  va_alen X.1.1 X.1.2.1 X.2.1 hP q0 t0 ha ht rfl hdg kk
theorem g_get (X : Cx p m c cc nL s args Ts own D a t A) {ref C1 : String} {T : u_T} {N ci : Nat} (hin : ∀ w ∈ u_ws C1 T N, w ∈ Ts) (hP : va_P D vwCl W0 H) (q0 : Nat) {fs : List Value} (he : W0[q0]? = some (b, .inr (ci, fs))) (hc : vwCl[ci]? = some (C1, T, N)) (k : Nat) (hk : k < N) (hlink : (Cond.fieldLink own index ref (T k).2.1 (T k).2.2.1).before args s = true) (hsame : (T k).1 = ref) {v : Value} (hv : fs[k]? = some v) (hdg : decode cc pc = .ok (.getfield index, 3))
    (kk : W p l e R s m args below meth c H locs cells slots Q (F0 m (pc + 3) ls (v :: rest))) : W p l e R s m args below meth c H locs cells slots Q (F0 m pc ls (.ref b :: rest)) :=
  va_get X.1.1 X.1.2.1 X.1.2.2.2.2 hin X.1.2.2.2.1 X.2.1 hP q0 he hc k hk hlink (fun _ h => by rw [← hsame]; exact h) hv hdg kk
theorem g_getN (X : Cx p m c cc nL s args Ts own D a t A) {ref C1 : String} {T : u_T} {N ci : Nat} (hin : ∀ w ∈ u_ws C1 T N, w ∈ Ts) (hP : va_P D vwCl W0 H) (q0 : Nat) {fs : List Value} (he : W0[q0]? = some (b, .inr (ci, fs))) (hc : vwCl[ci]? = some (C1, T, N)) (k : Nat) (hk : k < N) (hlink : va_Nw (.fieldLinkNest own index ref (T k).2.1 (T k).2.2.1 host) s) (hsame : (T k).1 = ref) {v : Value} (hv : fs[k]? = some v) (hdg : decode cc pc = .ok (.getfield index, 3))
    (kk : W p l e R s m args below meth c H locs cells slots Q (F0 m (pc + 3) ls (v :: rest))) : W p l e R s m args below meth c H locs cells slots Q (F0 m pc ls (.ref b :: rest)) :=
  va_getN X.1.1 X.1.2.1 X.1.2.2.2.2 hin X.1.2.2.2.1 X.2.1 hP q0 he hc k hk (va_Nw.use rfl hlink) (fun _ h => by rw [← hsame]; exact h) hv hdg kk
theorem g_put (X : Cx p m c cc nL s args Ts own D a t A) {ref C1 : String} {T : u_T} {N ci : Nat} (hin : ∀ w ∈ u_ws C1 T N, w ∈ Ts) (ty0 : Nat → FieldType) (hty : ∀ k, k < N → parseFieldDescriptor (T k).2.2.1 = some (ty0 k)) (hnm : ∀ a, a < N → ∀ b, b < N → a ≠ b → (T a).2.1 ≠ (T b).2.1) (hP : va_P D vwCl W0 H) (hD : va_D A W0) (hS : va_S A s.heap H locs) (q0 : Nat) {fs : List Value} (he : W0[q0]? = some (b, .inr (ci, fs))) (hc : vwCl[ci]? = some (C1, T, N)) (k : Nat) (hk : k < N) (hlink : (Cond.fieldLink own index ref (T k).2.1 (T k).2.2.1).before args s = true) (hsame : (T k).1 = ref) (hfin : (T k).2.2.2 = false) {v : Value} (hn : narrow (ty0 k) v = v) (hfit : fits (ty0 k) v = true) (hl : k < fs.length) (hdg : decode cc pc = .ok (.putfield index, 3))
    (kk : ∀ (H1 : Heap) (locs1 : List Loc), va_P D vwCl (W0.set q0 (b, .inr (ci, fs.set k v))) H1 → va_D A (W0.set q0 (b, .inr (ci, fs.set k v))) → va_S A s.heap H1 locs1 → W p l e R s m args below meth c H1 locs1 cells slots Q (F0 m (pc + 3) ls rest)) : W p l e R s m args below meth c H locs cells slots Q (F0 m pc ls (v :: .ref b :: rest)) :=
  va_put X.1.1 X.1.2.1 X.1.2.2.2.2 hin ty0 hty hnm X.1.2.2.2.1 X.2.1 hP hD hS q0 he hc k hk hlink (fun _ h => by rw [← hsame]; exact h) hfin (hty k hk) hn hfit hl hdg kk
theorem g_putN (X : Cx p m c cc nL s args Ts own D a t A) {ref C1 : String} {T : u_T} {N ci : Nat} (hin : ∀ w ∈ u_ws C1 T N, w ∈ Ts) (ty0 : Nat → FieldType) (hty : ∀ k, k < N → parseFieldDescriptor (T k).2.2.1 = some (ty0 k)) (hnm : ∀ a, a < N → ∀ b, b < N → a ≠ b → (T a).2.1 ≠ (T b).2.1) (hP : va_P D vwCl W0 H) (hD : va_D A W0) (hS : va_S A s.heap H locs) (q0 : Nat) {fs : List Value} (he : W0[q0]? = some (b, .inr (ci, fs))) (hc : vwCl[ci]? = some (C1, T, N)) (k : Nat) (hk : k < N) (hlink : va_Nw (.fieldLinkNest own index ref (T k).2.1 (T k).2.2.1 host) s) (hsame : (T k).1 = ref) (hfin : (T k).2.2.2 = false) {v : Value} (hn : narrow (ty0 k) v = v) (hfit : fits (ty0 k) v = true) (hl : k < fs.length) (hdg : decode cc pc = .ok (.putfield index, 3))
    (kk : ∀ (H1 : Heap) (locs1 : List Loc), va_P D vwCl (W0.set q0 (b, .inr (ci, fs.set k v))) H1 → va_D A (W0.set q0 (b, .inr (ci, fs.set k v))) → va_S A s.heap H1 locs1 → W p l e R s m args below meth c H1 locs1 cells slots Q (F0 m (pc + 3) ls rest)) : W p l e R s m args below meth c H locs cells slots Q (F0 m pc ls (v :: .ref b :: rest)) :=
  va_putN X.1.1 X.1.2.1 X.1.2.2.2.2 hin ty0 hty hnm X.1.2.2.2.1 X.2.1 hP hD hS q0 he hc k hk (va_Nw.use rfl hlink) (fun _ h => by rw [← hsame]; exact h) hfin (hty k hk) hn hfit hl hdg kk
theorem g_few (X : Cx p m c cc nL s args Ts own D a t A) (hS : va_S A s.heap H locs) (hlink : va_Nw (.fieldLinkNest own index "GainsaidOnce" "FEW" "[I" host) s) (hdg : decode cc pc = .ok (.getstatic index, 3))
    (kk : W p l e R s m args below meth c H locs cells slots Q (F0 m (pc + 3) ls (.ref t :: rest))) : W p l e R s m args below meth c H locs cells slots Q (F0 m pc ls rest) :=
  va_getsN X.1.1 X.1.2.1 X.2.2.2.1.1 hS X.1.2.2.2.1 (va_Nw.use rfl hlink) (fun _ h => h) hdg kk
theorem g_fewld (X : Cx p m c cc nL s args Ts own D a t A) (hS : va_S A s.heap H locs) {i : Int32} (hin : vp_in i 46) (hdg : decode cc pc = .ok (.iaload, 1))
    (kk : ∀ v : Int32, v = few i.toNatClampNeg → W p l e R s m args below meth c H locs cells slots Q (F0 m (pc + 1) ls (.int v :: rest))) : W p l e R s m args below meth c H locs cells slots Q (F0 m pc ls (.int i :: .ref t :: rest)) :=
  va_ti X.1.1 X.1.2.1 X.2.2.2.1.2 hS hin rfl hdg (kk _ rfl)
theorem g_fewlen (X : Cx p m c cc nL s args Ts own D a t A) (hS : va_S A s.heap H locs) (hdg : decode cc pc = .ok (.arraylength, 1))
    (kk : W p l e R s m args below meth c H locs cells slots Q (F0 m (pc + 1) ls (.int 46 :: rest))) : W p l e R s m args below meth c H locs cells slots Q (F0 m pc ls (.ref t :: rest)) :=
  va_tlen X.1.1 X.1.2.1 X.2.2.2.1.2 hS rfl hdg kk
end MYC
theorem sw_o {x : Int32} (n : Nat) (h : ∀ k, k < n → ¬ x = nI k) : x.toInt < 0 ∨ ((n : Int) - 1) < x.toInt := by
  by_cases h0 : x < 0
  · left
    have := Int32.lt_iff_toInt_lt.mp h0
    simpa using this
  · obtain ⟨j, hj, rfl⟩ := nI_of h0
    right
    rw [nI_toInt hj]
    by_cases hjn : j < n
    · exact absurd rfl (h j hjn)
    · omega
theorem sw_out3 {x : Int32} (c0 : ¬ x = (0 : Int32)) (c1 : ¬ x = (1 : Int32)) (c2 : ¬ x = (2 : Int32)) : x.toInt < 0 ∨ 2 < x.toInt := sw_o 3 (fun k hk => match k, hk with
  | 0, _ => c0
  | 1, _ => c1
  | 2, _ => c2
  | k + 3, hk => absurd hk (by omega))
theorem sw_out5 {x : Int32} (c0 : ¬ x = (0 : Int32)) (c1 : ¬ x = (1 : Int32)) (c2 : ¬ x = (2 : Int32)) (c3 : ¬ x = (3 : Int32)) (c4 : ¬ x = (4 : Int32)) : x.toInt < 0 ∨ 4 < x.toInt := sw_o 5 (fun k hk => match k, hk with
  | 0, _ => c0
  | 1, _ => c1
  | 2, _ => c2
  | 3, _ => c3
  | 4, _ => c4
  | k + 5, hk => absurd hk (by omega))
theorem sw_out14 {x : Int32} (c0 : ¬ x = (0 : Int32)) (c1 : ¬ x = (1 : Int32)) (c2 : ¬ x = (2 : Int32)) (c3 : ¬ x = (3 : Int32)) (c4 : ¬ x = (4 : Int32)) (c5 : ¬ x = (5 : Int32)) (c6 : ¬ x = (6 : Int32)) (c7 : ¬ x = (7 : Int32)) (c8 : ¬ x = (8 : Int32)) (c9 : ¬ x = (9 : Int32)) (c10 : ¬ x = (10 : Int32)) (c11 : ¬ x = (11 : Int32)) (c12 : ¬ x = (12 : Int32)) (c13 : ¬ x = (13 : Int32)) : x.toInt < 0 ∨ 13 < x.toInt := sw_o 14 (fun k hk => match k, hk with
  | 0, _ => c0
  | 1, _ => c1
  | 2, _ => c2
  | 3, _ => c3
  | 4, _ => c4
  | 5, _ => c5
  | 6, _ => c6
  | 7, _ => c7
  | 8, _ => c8
  | 9, _ => c9
  | 10, _ => c10
  | 11, _ => c11
  | 12, _ => c12
  | 13, _ => c13
  | k + 14, hk => absurd hk (by omega))
theorem sw_out28 {x : Int32} (c0 : ¬ x = (0 : Int32)) (c1 : ¬ x = (1 : Int32)) (c2 : ¬ x = (2 : Int32)) (c3 : ¬ x = (3 : Int32)) (c4 : ¬ x = (4 : Int32)) (c5 : ¬ x = (5 : Int32)) (c6 : ¬ x = (6 : Int32)) (c7 : ¬ x = (7 : Int32)) (c8 : ¬ x = (8 : Int32)) (c9 : ¬ x = (9 : Int32)) (c10 : ¬ x = (10 : Int32)) (c11 : ¬ x = (11 : Int32)) (c12 : ¬ x = (12 : Int32)) (c13 : ¬ x = (13 : Int32)) (c14 : ¬ x = (14 : Int32)) (c15 : ¬ x = (15 : Int32)) (c16 : ¬ x = (16 : Int32)) (c17 : ¬ x = (17 : Int32)) (c18 : ¬ x = (18 : Int32)) (c19 : ¬ x = (19 : Int32)) (c20 : ¬ x = (20 : Int32)) (c21 : ¬ x = (21 : Int32)) (c22 : ¬ x = (22 : Int32)) (c23 : ¬ x = (23 : Int32)) (c24 : ¬ x = (24 : Int32)) (c25 : ¬ x = (25 : Int32)) (c26 : ¬ x = (26 : Int32)) (c27 : ¬ x = (27 : Int32)) : x.toInt < 0 ∨ 27 < x.toInt := sw_o 28 (fun k hk => match k, hk with
  | 0, _ => c0
  | 1, _ => c1
  | 2, _ => c2
  | 3, _ => c3
  | 4, _ => c4
  | 5, _ => c5
  | 6, _ => c6
  | 7, _ => c7
  | 8, _ => c8
  | 9, _ => c9
  | 10, _ => c10
  | 11, _ => c11
  | 12, _ => c12
  | 13, _ => c13
  | 14, _ => c14
  | 15, _ => c15
  | 16, _ => c16
  | 17, _ => c17
  | 18, _ => c18
  | 19, _ => c19
  | 20, _ => c20
  | 21, _ => c21
  | 22, _ => c22
  | 23, _ => c23
  | 24, _ => c24
  | 25, _ => c25
  | 26, _ => c26
  | 27, _ => c27
  | k + 28, hk => absurd hk (by omega))
