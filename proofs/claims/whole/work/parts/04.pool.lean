/-! the thirty states of Past: objects at st_ad, their rows of places at pl_ad -/
def pst1 (st_ad pl_ad : Nat → Nat) (S : Nat → Nat → Int32) (i : Nat) : Nat × va_E := (st_ad i, .inr (6, [.int (S i 0), .int (S i 1), .int (S i 2), .int (S i 3), .int (S i 4), .int (S i 5), .int (S i 6), .ref (pl_ad i)]))
def pst2 (aI : ClassId) (pl_ad : Nat → Nat) (SP : Nat → Nat → Int32) (i : Nat) : Nat × va_E := (pl_ad i, .inl (aI, 9, .inl (SP i)))
def pst (aI : ClassId) (st_ad pl_ad : Nat → Nat) (S SP : Nat → Nat → Int32) : va_W := (List.range 30).map (pst1 st_ad pl_ad S) ++ (List.range 30).map (pst2 aI pl_ad SP)
def stf (st_ad : Nat → Nat) : Nat → Option Nat := fun i => some (st_ad i)
def srow (x0 x1 x2 x3 x4 x5 x6 : Int32) : Nat → Int32 := fun k => match k with
  | 0 => x0 | 1 => x1 | 2 => x2 | 3 => x3 | 4 => x4 | 5 => x5 | _ => x6
theorem pst_len (aI : ClassId) (st_ad pl_ad : Nat → Nat) (S SP : Nat → Nat → Int32) : (pst aI st_ad pl_ad S SP).length = 60 := by simp [pst]
theorem pst_adr (aI : ClassId) (st_ad pl_ad : Nat → Nat) (S SP S' SP' : Nat → Nat → Int32) : (pst aI st_ad pl_ad S' SP').map Prod.fst = (pst aI st_ad pl_ad S SP).map Prod.fst := by
  simp [pst, List.map_append, List.map_map, Function.comp_def, pst1, pst2]
theorem pst_lo {aI : ClassId} {st_ad pl_ad : Nat → Nat} {S SP : Nat → Nat → Int32} {k : Nat} (h : k < 30) : (pst aI st_ad pl_ad S SP)[k]? = some (pst1 st_ad pl_ad S k) := by
  unfold pst
  rw [List.getElem?_append_left (by simpa using h), List.getElem?_map, List.getElem?_range h]
  rfl
theorem pst_hi {aI : ClassId} {st_ad pl_ad : Nat → Nat} {S SP : Nat → Nat → Int32} {k : Nat} (h : k < 30) : (pst aI st_ad pl_ad S SP)[30 + k]? = some (pst2 aI pl_ad SP k) := by
  unfold pst
  rw [List.getElem?_append_right (by simp), List.getElem?_map]
  have e : 30 + k - ((List.range 30).map (pst1 st_ad pl_ad S)).length = k := by simp
  rw [e, List.getElem?_range h]
  rfl
theorem pst_out {aI : ClassId} {st_ad pl_ad : Nat → Nat} {S SP : Nat → Nat → Int32} {k : Nat} (h : 60 ≤ k) : (pst aI st_ad pl_ad S SP)[k]? = none := List.getElem?_eq_none (by rw [pst_len]; exact h)
theorem pst1_up_self {st_ad pl_ad : Nat → Nat} {S : Nat → Nat → Int32} {j : Nat} {x0 x1 x2 x3 x4 x5 x6 : Int32} : pst1 st_ad pl_ad (va_up S j (srow x0 x1 x2 x3 x4 x5 x6)) j = (st_ad j, .inr (6, [.int x0, .int x1, .int x2, .int x3, .int x4, .int x5, .int x6, .ref (pl_ad j)])) := by
  simp [pst1, va_up_self, srow]
theorem pst1_up_ne {st_ad pl_ad : Nat → Nat} {S : Nat → Nat → Int32} {j k : Nat} {r : Nat → Int32} (h : k ≠ j) : pst1 st_ad pl_ad (va_up S j r) k = pst1 st_ad pl_ad S k := by
  simp [pst1, va_up_ne S r h]
theorem pst2_up_self {aI : ClassId} {pl_ad : Nat → Nat} {SP : Nat → Nat → Int32} {j : Nat} {g : Nat → Int32} : pst2 aI pl_ad (va_up SP j g) j = (pl_ad j, .inl (aI, 9, .inl g)) := by
  simp [pst2, va_up_self]
theorem pst2_up_ne {aI : ClassId} {pl_ad : Nat → Nat} {SP : Nat → Nat → Int32} {j k : Nat} {g : Nat → Int32} (h : k ≠ j) : pst2 aI pl_ad (va_up SP j g) k = pst2 aI pl_ad SP k := by
  simp [pst2, va_up_ne SP g h]
section CUTS
variable {D : va_G} {A : Nat → Prop} {X cx cx' X' : va_W} {H0 H : Heap} {locs : List Loc} {aI : ClassId} {st_ad pl_ad : Nat → Nat} {S SP : Nat → Nat → Int32} {j : Nat}
/-- a callee whose own object is a state of the pool, that is written; the caller's other cells stay -/
theorem Cut.stW {x0 x1 x2 x3 x4 x5 x6 : Int32} {g : Nat → Int32} (hA : ∀ q, H0.size ≤ q → A q) (hP : va_P D vwCl (X ++ pst aI st_ad pl_ad S SP) H) (hD : va_D A (X ++ pst aI st_ad pl_ad S SP)) (hS : va_S A H0 H locs) (hj : j < 30) (is : List Nat) (hn : is.Nodup) (hC : is.map (fun i => X[i]?) = cx.map some) :
    Cut D A H ((st_ad j, .inr (6, [.int (S j 0), .int (S j 1), .int (S j 2), .int (S j 3), .int (S j 4), .int (S j 5), .int (S j 6), .ref (pl_ad j)])) :: (pl_ad j, .inl (aI, 9, .inl (SP j))) :: cx) ((st_ad j, .inr (6, [.int x0, .int x1, .int x2, .int x3, .int x4, .int x5, .int x6, .ref (pl_ad j)])) :: (pl_ad j, .inl (aI, 9, .inl g)) :: cx) (X ++ pst aI st_ad pl_ad (va_up S j (srow x0 x1 x2 x3 x4 x5 x6)) (va_up SP j g)) := by
  have hlt : ∀ i ∈ is, i < X.length := fun i hi => by
    obtain ⟨j, hj⟩ := List.getElem?_of_mem hi
    obtain ⟨q0, -, w0⟩ := cut_map' hC hj
    exact (List.getElem?_eq_some_iff.mp w0).1
  have e1 : (X ++ pst aI st_ad pl_ad S SP)[X.length + j]? = some (pst1 st_ad pl_ad S j) := by
    rw [List.getElem?_append_right (Nat.le_add_right _ _), Nat.add_sub_cancel_left, pst_lo hj]
  have e2 : (X ++ pst aI st_ad pl_ad S SP)[X.length + (30 + j)]? = some (pst2 aI pl_ad SP j) := by
    rw [List.getElem?_append_right (Nat.le_add_right _ _), Nat.add_sub_cancel_left, pst_hi hj]
  refine Cut.gen hA hP hD hS ((X.length + j) :: (X.length + (30 + j)) :: is) ?_ ?_ rfl ?_ ?_
  · refine List.nodup_cons.mpr ⟨fun h => ?_, List.nodup_cons.mpr ⟨fun h => ?_, hn⟩⟩
    · rcases List.mem_cons.mp h with h | h
      · omega
      · have := hlt _ h; omega
    · have := hlt _ h; omega
  · have hm : is.map (fun i => (X ++ pst aI st_ad pl_ad S SP)[i]?) = cx.map some := by
      rw [← hC]
      exact List.map_congr_left fun i hi => List.getElem?_append_left (hlt i hi)
    rw [List.map_cons, List.map_cons, List.map_cons, List.map_cons, e1, e2, hm]
    rfl
  · intro k i q h1 h2
    match k with
    | 0 =>
      cases h1; cases h2
      rw [List.getElem?_append_right (Nat.le_add_right _ _), Nat.add_sub_cancel_left, pst_lo hj, pst1_up_self]
    | 1 =>
      cases h1; cases h2
      rw [List.getElem?_append_right (Nat.le_add_right _ _), Nat.add_sub_cancel_left, pst_hi hj, pst2_up_self]
    | k + 2 =>
      have h1 : is[k]? = some i := h1
      have h2 : cx[k]? = some q := h2
      obtain ⟨i', g1, g2⟩ := cut_map hC h2
      rw [h1] at g1
      cases g1
      rw [List.getElem?_append_left (hlt i (List.mem_of_getElem? h1))]
      exact g2
  · intro k hk
    by_cases hkx : k < X.length
    · rw [List.getElem?_append_left hkx, List.getElem?_append_left hkx]
    · rw [List.getElem?_append_right (by omega), List.getElem?_append_right (by omega)]
      have n1 : k ≠ X.length + j := fun h => hk (h ▸ List.mem_cons_self)
      have n2 : k ≠ X.length + (30 + j) := fun h => hk (h ▸ List.mem_cons_of_mem _ List.mem_cons_self)
      generalize hz : k - X.length = z
      by_cases hz1 : z < 30
      · rw [pst_lo hz1, pst_lo hz1, pst1_up_ne (by omega)]
      · by_cases hz2 : z < 60
        · obtain ⟨y, rfl⟩ : ∃ y, z = 30 + y := ⟨z - 30, by omega⟩
          rw [pst_hi (by omega), pst_hi (by omega), pst2_up_ne (by omega)]
        · rw [pst_out (by omega), pst_out (by omega)]
/-- a callee that reads a state of the pool, the second of its objects -/
theorem Cut.stR (hA : ∀ q, H0.size ≤ q → A q) (hP : va_P D vwCl (X ++ pst aI st_ad pl_ad S SP) H) (hD : va_D A (X ++ pst aI st_ad pl_ad S SP)) (hS : va_S A H0 H locs) (hj : j < 30) {u0 u1 v0 v1 : Nat × va_E} (i0 i1 : Nat) (hi : i0 ≠ i1) (h0 : X[i0]? = some u0) (h1 : X[i1]? = some u1) (a0 : v0.1 = u0.1) (a1 : v1.1 = u1.1) (hW : upw X [i0, i1] [v0, v1] = X') :
    Cut D A H [u0, u1, (st_ad j, .inr (6, [.int (S j 0), .int (S j 1), .int (S j 2), .int (S j 3), .int (S j 4), .int (S j 5), .int (S j 6), .ref (pl_ad j)])), (pl_ad j, .inl (aI, 9, .inl (SP j)))] [v0, v1, (st_ad j, .inr (6, [.int (S j 0), .int (S j 1), .int (S j 2), .int (S j 3), .int (S j 4), .int (S j 5), .int (S j 6), .ref (pl_ad j)])), (pl_ad j, .inl (aI, 9, .inl (SP j)))] (X' ++ pst aI st_ad pl_ad S SP) := by
  subst hW
  have l0 : i0 < X.length := (List.getElem?_eq_some_iff.mp h0).1
  have l1 : i1 < X.length := (List.getElem?_eq_some_iff.mp h1).1
  have e1 : (X ++ pst aI st_ad pl_ad S SP)[X.length + j]? = some (pst1 st_ad pl_ad S j) := by
    rw [List.getElem?_append_right (Nat.le_add_right _ _), Nat.add_sub_cancel_left, pst_lo hj]
  have e2 : (X ++ pst aI st_ad pl_ad S SP)[X.length + (30 + j)]? = some (pst2 aI pl_ad SP j) := by
    rw [List.getElem?_append_right (Nat.le_add_right _ _), Nat.add_sub_cancel_left, pst_hi hj]
  have nd : [i0, i1].Nodup := by simp [hi]
  refine Cut.gen hA hP hD hS [i0, i1, X.length + j, X.length + (30 + j)] ?_ ?_ ?_ ?_ ?_
  · simp [hi]; omega
  · simp only [List.map_cons, List.map_nil, e1, e2, List.getElem?_append_left l0, List.getElem?_append_left l1, h0, h1]
    rfl
  · simp [a0, a1]
  · intro k i q k1 k2
    match k with
    | 0 =>
      cases k1; cases k2
      rw [List.getElem?_append_left (by rw [upw_len]; exact l0)]
      exact upw_in [i0, i1] X [v0, v1] 0 i0 v0 nd rfl rfl l0
    | 1 =>
      cases k1; cases k2
      rw [List.getElem?_append_left (by rw [upw_len]; exact l1)]
      exact upw_in [i0, i1] X [v0, v1] 1 i1 v1 nd rfl rfl l1
    | 2 =>
      cases k1; cases k2
      rw [List.getElem?_append_right (by rw [upw_len]; omega), upw_len, Nat.add_sub_cancel_left, pst_lo hj]
      rfl
    | 3 =>
      cases k1; cases k2
      rw [List.getElem?_append_right (by rw [upw_len]; omega), upw_len, Nat.add_sub_cancel_left, pst_hi hj]
      rfl
    | k + 4 => simp at k1
  · intro k hk
    have n0 : k ∉ [i0, i1] := fun h => hk (by simp at h ⊢; rcases h with h | h <;> simp [h])
    by_cases hkx : k < X.length
    · rw [List.getElem?_append_left (by rw [upw_len]; exact hkx), List.getElem?_append_left hkx]
      exact upw_out _ _ _ _ n0
    · rw [List.getElem?_append_right (by rw [upw_len]; omega), List.getElem?_append_right (by omega), upw_len]
end CUTS
def o_ix (n : Nat) (i : Int32) : Option Nat := if i < 0 ∨ n ≤ i.toNatClampNeg then none else some i.toNatClampNeg
theorem o_ixh {β : Type} {n : Nat} {i : Int32} {k : Nat → Option β} {R : β} (h : (o_ix n i).bind k = some R) : vp_in i n ∧ ∀ j, j = i.toNatClampNeg → k j = some R := by
  unfold o_ix at h
  by_cases hc : i < 0 ∨ n ≤ i.toNatClampNeg
  · rw [if_pos hc] at h; cases h
  · rw [if_neg hc] at h; exact ⟨hc, fun v ev => by subst ev; exact h⟩
section ALD
variable {p : Program} {l : Launch} {e : Env} {R : Room} {s : State} {m : MethodId} {args : Array Value} {below : List Frame} {meth : Method} {c : Code} {H : Heap} {locs : List Loc} {cells slots : Nat} {Q : State → Prop}
variable {cc : ByteArray} {nL : Nat} {Ts : List Cond} {own : String} {D : va_G} {a : Nat → ClassId} {t : Nat} {A : Nat → Prop} {pc b : Nat} {rest : List Value} {ls : Array Slot} {W0 : va_W}
theorem g_aldS (X : Cx p m c cc nL s args Ts own D a t A) (hP : va_P D vwCl W0 H) (q0 : Nat) {st_ad : Nat → Nat} (ha : W0[q0]? = some (b, .inl (a 2, 30, .inr (.inr (.inr (.inr (stf st_ad))))))) {i : Int32} (hin : vp_in i 30) (hdg : decode cc pc = .ok (.aaload, 1))
    (kk : ∀ j : Nat, j = i.toNatClampNeg → j < 30 → W p l e R s m args below meth c H locs cells slots Q (F0 m (pc + 1) ls (.ref (st_ad j) :: rest))) : W p l e R s m args below meth c H locs cells slots Q (F0 m pc ls (.int i :: .ref b :: rest)) :=
  va_aldq X.1.1 X.1.2.1 X.2.1 hP q0 2 ha rfl hin hdg (kk _ rfl (Nat.not_le.mp fun q => hin (Or.inr q)))
end ALD

def imf (i0 i1 : Nat) : Nat → Option Nat := fun k => if k = 0 then some i0 else some i1
section ALI
variable {p : Program} {l : Launch} {e : Env} {R : Room} {s : State} {m : MethodId} {args : Array Value} {below : List Frame} {meth : Method} {c : Code} {H : Heap} {locs : List Loc} {cells slots : Nat} {Q : State → Prop}
variable {cc : ByteArray} {nL : Nat} {Ts : List Cond} {own : String} {D : va_G} {a : Nat → ClassId} {t : Nat} {A : Nat → Prop} {pc b : Nat} {rest : List Value} {ls : Array Slot} {W0 : va_W}
theorem g_aldI0 (X : Cx p m c cc nL s args Ts own D a t A) (hP : va_P D vwCl W0 H) (q0 : Nat) {i0 i1 : Nat} (ha : W0[q0]? = some (b, .inl (a 3, 2, .inr (.inr (.inr (.inr (imf i0 i1))))))) (hdg : decode cc pc = .ok (.aaload, 1))
    (kk : W p l e R s m args below meth c H locs cells slots Q (F0 m (pc + 1) ls (.ref i0 :: rest))) : W p l e R s m args below meth c H locs cells slots Q (F0 m pc ls (.int (0 : Int32) :: .ref b :: rest)) :=
  va_aldq X.1.1 X.1.2.1 X.2.1 hP q0 3 ha rfl (i := (0 : Int32)) (by unfold vp_in; decide) hdg kk
theorem g_aldI1 (X : Cx p m c cc nL s args Ts own D a t A) (hP : va_P D vwCl W0 H) (q0 : Nat) {i0 i1 : Nat} (ha : W0[q0]? = some (b, .inl (a 3, 2, .inr (.inr (.inr (.inr (imf i0 i1))))))) (hdg : decode cc pc = .ok (.aaload, 1))
    (kk : W p l e R s m args below meth c H locs cells slots Q (F0 m (pc + 1) ls (.ref i1 :: rest))) : W p l e R s m args below meth c H locs cells slots Q (F0 m pc ls (.int (1 : Int32) :: .ref b :: rest)) :=
  va_aldq X.1.1 X.1.2.1 X.2.1 hP q0 3 ha rfl (i := (1 : Int32)) (by unfold vp_in; decide) hdg kk
end ALI
def Kr (l : Launch) (y : MethodName) (ws : List Cond) (fr lo : Nat) (D : va_G) (a : Nat → ClassId) (t : Nat) (As : List Value) (W W' : va_W) (v : Value) : Prop := ∀ sz : Nat, Met l y ws { frames := fr, cells := 0, slots := 0, locals := lo } (va_Pc As (Pre D a t W sz)) (fun _ st oc T => (oc = .returned (some v) ∧ va_P D vwCl W' T.heap ∧ va_D (va_A W sz) W') ∧ va_F (va_A W sz) st T) 0 0 (va_A W sz)
theorem Kr.mk {l : Launch} {y : MethodName} {ws ws' : List Cond} {fr lo : Nat} {D : va_G} {a : Nat → ClassId} {t : Nat} {As : List Value} {W0 W1 : va_W} {v : Value} {cc : ByteArray} {nL : Nat} {C own : String}
    (hy : plainName y.cls = true) (hw : ws = Cond.code y cc nL (some (.object C)) :: ws') (hown : y.cls = own) (hAl : (lg_sl As).length ≤ nL) (hv0 : v = .null ∨ ∃ b, v = .ref b)
    (body : ∀ (p : Program) (e : Env) (s : State) (m : MethodId) (args : Array Value) (below : List Frame) (meth : Method) (c : Code) (A : Nat → Prop) (Q : State → Prop) (ls : Array Slot), Cx p m c cc nL s args ws own D a t A → va_P D vwCl W0 s.heap → va_D A W0 → va_S A s.heap s.heap [] → lv_has ls nL (lv_args 0 As) →
      (∀ (H : Heap) (locs : List Loc) (ls : Array Slot) (pc : Nat), va_P D vwCl W1 H → va_D A W1 → va_S A s.heap H locs → decode cc pc = .ok (.areturn, 1) → W p l e { frames := fr, cells := 0, slots := 0, locals := lo } s m args below meth c H locs 0 0 Q (F0 m pc ls [v])) →
      W p l e { frames := fr, cells := 0, slots := 0, locals := lo } s m args below meth c s.heap [] 0 0 Q (F0 m 0 ls [])) : Kr l y ws fr lo D a t As W0 W1 v := by
  intro sz
  refine Met.ofW (cc := cc) (maxL := nL) (ret := some (.object C)) hy hw ?_
  intro p e s m args below meth c s₁ B hml hv
  obtain ⟨rfl, hsz, hP, hK, hD0, hN, hF⟩ := hv
  have hx := B.exec
  have hb := B.bytes
  have hr := B.returns
  have hts := atoms_spec (ws := ws) B.pre
  have hown2 : s.vm.findClass own = some m.cls := by rw [← hown]; exact findClass_of_methodNamed B.named
  have hlocks := B.notSynchronized
  subst hsz
  have hD := hD0.self (sz := s.heap.size)
  have hl := lv_entry As (n := nL) hAl
  rw [lg_entry_eq]
  refine body p e s m _ below meth c (va_A W0 s.heap.size) _ _ ⟨⟨hx, hb, hml, hown2, hts⟩, hK, hN, hF, fun q h => Or.inr h⟩ hP hD va_S.rf hl ?_
  intro H locs ls pc hP1 hD1 hS hdg
  exact W.aret hx hb hr (Or.inl ⟨C, rfl⟩) hv0 (fun t0 ht hW => ⟨⟨rfl, by rw [ht]; exact hP1, hD1⟩, hS.F ht⟩) hS.2.2 hdg hlocks
section MYR
variable {p : Program} {l : Launch} {e : Env} {R : Room} {s : State} {m : MethodId} {args : Array Value} {below : List Frame} {meth : Method} {c : Code} {H : Heap} {locs : List Loc} {cells slots : Nat} {Q : State → Prop}
variable {cc : ByteArray} {nL : Nat} {Ts : List Cond} {own : String} {D : va_G} {a : Nat → ClassId} {t : Nat} {A : Nat → Prop}
variable {y : MethodName} {ws ws' : List Cond} {fr lo : Nat} {As : List Value} {Wc Wc' W1 : va_W} {v : Value} {bytes : ByteArray} {maxL n index pc : Nat} {ret : Option FieldType} {b : Nat} {rest st0 : List Value} {ls : Array Slot}
theorem call_rV {q0 ci : Nat} {qc : vw_C} {fs : List Value} (X : Cx p m c cc nL s args Ts own D a t A) (hM : Kr l y ws fr lo D a t (.ref b :: As) Wc Wc' v) (cw : CallW R s args own qc.1 index y bytes maxL ret ws { frames := fr, cells := 0, slots := 0, locals := lo } 0 0 n) (hcut : Cut D A H Wc Wc' W1) (hS : va_S A s.heap H locs) (hcl : vwCl[ci]? = some qc) (hrc : Wc[q0]? = some (b, .inr (ci, fs)))
    (hn : As.length = n) (hsize : ls.size = nL) (hst : st0 = As.reverse ++ .ref b :: rest) (hrm : (rest.map fun v => v.category).sum ≤ 8) (hdg : decode cc pc = .ok (.invokevirtual index, 3)) (hf : cells ≤ R.cells ∧ slots ≤ R.slots)
    (kk : ∀ (H1 : Heap) (locs1 : List Loc), va_P D vwCl W1 H1 → va_D A W1 → va_S A s.heap H1 locs1 → W p l e R s m args below meth c H1 locs1 cells slots Q (F0 m (pc + 3) ls (v :: rest))) : W p l e R s m args below meth c H locs cells slots Q (F0 m pc ls st0) := by
  have hr := va_runV (g := F0 m pc ls st0) (locs := locs) (cells := cells) (slots := slots) (below := below) (meth := meth) (e := e) X.1 (hM H.size) cw ⟨Pre.blind, va_recv X.2.1 hcut.1 hcl hrc, fun U hU hW => ⟨rfl, pre_of X hS hcut U hU hW⟩⟩ rfl hn hsize hst (lv_room (m := m) (pc := pc) (ls := ls) (rest := st0) hrm) hdg hf
  intro T hT X1
  obtain ⟨v1, st₀, t1, T', L, h0, X', hL, e1, e2, ⟨⟨hv, hP1, hD1⟩, hz, hk⟩, st⟩ := hr T hT X1
  cases hv
  rw [h0] at hz hk
  rw [← e1] at hP1 hz hk
  obtain ⟨g1, g2⟩ := hcut.2.2.2 T'.heap hk hP1 hD1
  obtain ⟨t2, a1, b1⟩ := kk T'.heap (locs ++ L) g1 g2
    ⟨Nat.le_trans hS.1 hz, fun q h1 h2 => by rw [hk q (Nat.lt_of_lt_of_le h1 hS.1) (fun z => h2 (hcut.2.2.1 q z))]; exact hS.2.1 q h1 h2, fun q hq => by
      rcases List.mem_append.mp hq with h | h
      · exact hS.2.2 q h
      · exact hcut.2.2.1 _ (hL q h)⟩ T' rfl X'
  exact ⟨t2, st t2 a1, b1⟩
end MYR
theorem hdS_X10_imageOf : yX10_imageOf.cls ≠ "java/lang/invoke/MethodHandle" ∧ yX10_imageOf.cls ≠ "java/lang/invoke/VarHandle" ∧ (parseMethodDescriptor yX10_imageOf.desc).map (fun d => d.parameters.length) = some 1 := by decide +kernel
theorem hdV_X10_imageOf : yX10_imageOf.cls = RX10 ∧ yX10_imageOf.cls ≠ "java/lang/invoke/MethodHandle" ∧ yX10_imageOf.cls ≠ "java/lang/invoke/VarHandle" ∧ (parseMethodDescriptor yX10_imageOf.desc).map (fun d => d.parameters.length) = some 1 := ⟨rfl, hdS_X10_imageOf⟩
set_option maxHeartbeats 4000000 in
set_option maxRecDepth 100000 in
theorem c_X10_imageOf_0 (l : Launch) (D : va_G) (a : Nat → ClassId) (t : Nat) (q_t : Nat) (q_reader : Nat) (q_ring : Nat) (q_draft : Nat) (q_now : Nat) (q_past : Nat) (q_images : Nat) (q_crier : Nat) (q_trials : Nat) (q_witnesses : Nat) (q_book : Nat) (q_draws : Nat) (t_faultLetter : Int32) (q_images_i0 : Nat) (q_images_i1 : Nat) : Kr l yX10_imageOf wsX10_imageOf 0 0 D a t [.ref q_t, .int (0 : Int32)] [(q_t, .inr (10, [.ref q_reader, .ref q_ring, .ref q_draft, .ref q_now, .ref q_past, .ref q_images, .ref q_crier, .ref q_trials, .ref q_witnesses, .ref q_book, .ref q_draws, .int t_faultLetter])), (q_images, .inl (a 3, 2, .inr (.inr (.inr (.inr (imf q_images_i0 q_images_i1))))))] [(q_t, .inr (10, [.ref q_reader, .ref q_ring, .ref q_draft, .ref q_now, .ref q_past, .ref q_images, .ref q_crier, .ref q_trials, .ref q_witnesses, .ref q_book, .ref q_draws, .int t_faultLetter])), (q_images, .inl (a 3, 2, .inr (.inr (.inr (.inr (imf q_images_i0 q_images_i1))))))] (.ref q_images_i0) := by
  refine Kr.mk (cc := cX10_imageOf) (nL := 2) (C := "GainsaidOnce$Image") (own := RX10) (by decide) rfl rfl (Nat.le_of_ble_eq_true rfl) (by simp) ?_
  intro p e s m args below meth c A Q ls hX hP hD hS hl hret
  have hx := hX.1.1
  have hb := hX.1.2.1
  have hown := hX.1.2.2.2.1
  have hts := hX.1.2.2.2.2
  have hl : lv_has ls 2 [(0, .ref q_t), (1, .int (0 : Int32))] := hl
  have hk1 := hts (.fieldLink RX10 43 "GainsaidOnce" "images" "[LGainsaidOnce$Image;") (List.mem_of_getElem? (i := 1) rfl)
  have hiX10 : ∀ w ∈ wsX100, w ∈ wsX10_imageOf := (fun _ h => List.mem_cons_of_mem _ (List.mem_append_right _ h))
  refine lv_iload_n hx hb dX10_imageOf_0 rfl (lv_at hl 1 rfl) ?_
  refine lv_if_lt (tgt := 22) hx hb dX10_imageOf_1 (by decide) (fun c1 => absurd c1 (by decide)) (fun _ => ?_)
  refine lv_iload_n hx hb dX10_imageOf_4 rfl (lv_at hl 1 rfl) ?_
  refine lv_aload_n hx hb dX10_imageOf_5 rfl (lv_at hl 0 rfl) ?_
  refine g_get hX hiX10 hP 0 rfl rfl 5 (by decide) hk1 rfl rfl dX10_imageOf_6 ?_
  refine g_alen hX hP 1 3 rfl rfl dX10_imageOf_9 ?_
  refine lv_icmp_ge (tgt := 22) hx hb dX10_imageOf_10 (by decide) (fun c1 => absurd c1 (by decide)) (fun _ => ?_)
  refine lv_aload_n hx hb dX10_imageOf_13 rfl (lv_at hl 0 rfl) ?_
  refine g_get hX hiX10 hP 0 rfl rfl 5 (by decide) hk1 rfl rfl dX10_imageOf_14 ?_
  refine lv_iload_n hx hb dX10_imageOf_17 rfl (lv_at hl 1 rfl) ?_
  refine g_aldI0 hX hP 1 rfl dX10_imageOf_18 ?_
  refine lv_goto (tgt := 23) hx hb dX10_imageOf_19 (by decide) ?_
  exact hret _ _ _ _ hP hD hS dX10_imageOf_23
set_option maxHeartbeats 4000000 in
set_option maxRecDepth 100000 in
theorem c_X10_imageOf_1 (l : Launch) (D : va_G) (a : Nat → ClassId) (t : Nat) (q_t : Nat) (q_reader : Nat) (q_ring : Nat) (q_draft : Nat) (q_now : Nat) (q_past : Nat) (q_images : Nat) (q_crier : Nat) (q_trials : Nat) (q_witnesses : Nat) (q_book : Nat) (q_draws : Nat) (t_faultLetter : Int32) (q_images_i0 : Nat) (q_images_i1 : Nat) : Kr l yX10_imageOf wsX10_imageOf 0 0 D a t [.ref q_t, .int (1 : Int32)] [(q_t, .inr (10, [.ref q_reader, .ref q_ring, .ref q_draft, .ref q_now, .ref q_past, .ref q_images, .ref q_crier, .ref q_trials, .ref q_witnesses, .ref q_book, .ref q_draws, .int t_faultLetter])), (q_images, .inl (a 3, 2, .inr (.inr (.inr (.inr (imf q_images_i0 q_images_i1))))))] [(q_t, .inr (10, [.ref q_reader, .ref q_ring, .ref q_draft, .ref q_now, .ref q_past, .ref q_images, .ref q_crier, .ref q_trials, .ref q_witnesses, .ref q_book, .ref q_draws, .int t_faultLetter])), (q_images, .inl (a 3, 2, .inr (.inr (.inr (.inr (imf q_images_i0 q_images_i1))))))] (.ref q_images_i1) := by
  refine Kr.mk (cc := cX10_imageOf) (nL := 2) (C := "GainsaidOnce$Image") (own := RX10) (by decide) rfl rfl (Nat.le_of_ble_eq_true rfl) (by simp) ?_
  intro p e s m args below meth c A Q ls hX hP hD hS hl hret
  have hx := hX.1.1
  have hb := hX.1.2.1
  have hown := hX.1.2.2.2.1
  have hts := hX.1.2.2.2.2
  have hl : lv_has ls 2 [(0, .ref q_t), (1, .int (1 : Int32))] := hl
  have hk1 := hts (.fieldLink RX10 43 "GainsaidOnce" "images" "[LGainsaidOnce$Image;") (List.mem_of_getElem? (i := 1) rfl)
  have hiX10 : ∀ w ∈ wsX100, w ∈ wsX10_imageOf := (fun _ h => List.mem_cons_of_mem _ (List.mem_append_right _ h))
  refine lv_iload_n hx hb dX10_imageOf_0 rfl (lv_at hl 1 rfl) ?_
  refine lv_if_lt (tgt := 22) hx hb dX10_imageOf_1 (by decide) (fun c1 => absurd c1 (by decide)) (fun _ => ?_)
  refine lv_iload_n hx hb dX10_imageOf_4 rfl (lv_at hl 1 rfl) ?_
  refine lv_aload_n hx hb dX10_imageOf_5 rfl (lv_at hl 0 rfl) ?_
  refine g_get hX hiX10 hP 0 rfl rfl 5 (by decide) hk1 rfl rfl dX10_imageOf_6 ?_
  refine g_alen hX hP 1 3 rfl rfl dX10_imageOf_9 ?_
  refine lv_icmp_ge (tgt := 22) hx hb dX10_imageOf_10 (by decide) (fun c1 => absurd c1 (by decide)) (fun _ => ?_)
  refine lv_aload_n hx hb dX10_imageOf_13 rfl (lv_at hl 0 rfl) ?_
  refine g_get hX hiX10 hP 0 rfl rfl 5 (by decide) hk1 rfl rfl dX10_imageOf_14 ?_
  refine lv_iload_n hx hb dX10_imageOf_17 rfl (lv_at hl 1 rfl) ?_
  refine g_aldI1 hX hP 1 rfl dX10_imageOf_18 ?_
  refine lv_goto (tgt := 23) hx hb dX10_imageOf_19 (by decide) ?_
  exact hret _ _ _ _ hP hD hS dX10_imageOf_23
set_option maxHeartbeats 4000000 in
set_option maxRecDepth 100000 in
theorem c_X10_imageOf_n (l : Launch) (D : va_G) (a : Nat → ClassId) (t : Nat) (q_t : Nat) (q_reader : Nat) (q_ring : Nat) (q_draft : Nat) (q_now : Nat) (q_past : Nat) (q_images : Nat) (q_crier : Nat) (q_trials : Nat) (q_witnesses : Nat) (q_book : Nat) (q_draws : Nat) (t_faultLetter : Int32) (q_images_i0 : Nat) (q_images_i1 : Nat) (x1 : Int32) (c0 : ¬ x1 = (0 : Int32)) (c1 : ¬ x1 = (1 : Int32)) : Kr l yX10_imageOf wsX10_imageOf 0 0 D a t [.ref q_t, .int x1] [(q_t, .inr (10, [.ref q_reader, .ref q_ring, .ref q_draft, .ref q_now, .ref q_past, .ref q_images, .ref q_crier, .ref q_trials, .ref q_witnesses, .ref q_book, .ref q_draws, .int t_faultLetter])), (q_images, .inl (a 3, 2, .inr (.inr (.inr (.inr (imf q_images_i0 q_images_i1))))))] [(q_t, .inr (10, [.ref q_reader, .ref q_ring, .ref q_draft, .ref q_now, .ref q_past, .ref q_images, .ref q_crier, .ref q_trials, .ref q_witnesses, .ref q_book, .ref q_draws, .int t_faultLetter])), (q_images, .inl (a 3, 2, .inr (.inr (.inr (.inr (imf q_images_i0 q_images_i1))))))] (.null) := by
  refine Kr.mk (cc := cX10_imageOf) (nL := 2) (C := "GainsaidOnce$Image") (own := RX10) (by decide) rfl rfl (Nat.le_of_ble_eq_true rfl) (by simp) ?_
  intro p e s m args below meth c A Q ls hX hP hD hS hl hret
  have hx := hX.1.1
  have hb := hX.1.2.1
  have hown := hX.1.2.2.2.1
  have hts := hX.1.2.2.2.2
  have hl : lv_has ls 2 [(0, .ref q_t), (1, .int x1)] := hl
  have hk1 := hts (.fieldLink RX10 43 "GainsaidOnce" "images" "[LGainsaidOnce$Image;") (List.mem_of_getElem? (i := 1) rfl)
  have hiX10 : ∀ w ∈ wsX100, w ∈ wsX10_imageOf := (fun _ h => List.mem_cons_of_mem _ (List.mem_append_right _ h))
  refine lv_iload_n hx hb dX10_imageOf_0 rfl (lv_at hl 1 rfl) ?_
  refine lv_if_lt (tgt := 22) hx hb dX10_imageOf_1 (by decide) (fun c2 => ?_) (fun c2 => ?_)
  · refine lv_null hx hb dX10_imageOf_22 ?_
    exact hret _ _ _ _ hP hD hS dX10_imageOf_23
  refine lv_iload_n hx hb dX10_imageOf_4 rfl (lv_at hl 1 rfl) ?_
  refine lv_aload_n hx hb dX10_imageOf_5 rfl (lv_at hl 0 rfl) ?_
  refine g_get hX hiX10 hP 0 rfl rfl 5 (by decide) hk1 rfl rfl dX10_imageOf_6 ?_
  refine g_alen hX hP 1 3 rfl rfl dX10_imageOf_9 ?_
  refine lv_icmp_ge (tgt := 22) hx hb dX10_imageOf_10 (by decide) (fun c3 => ?_) (fun c3 => ?_)
  · refine lv_null hx hb dX10_imageOf_22 ?_
    exact hret _ _ _ _ hP hD hS dX10_imageOf_23
  obtain ⟨j, hj, rfl⟩ := nI_of c2
  exfalso
  have h2 : ¬ 2 ≤ j := fun h => c3 (nI_le (a := 2) h hj)
  have h0 : j ≠ 0 := fun h => c0 (by rw [h]; rfl)
  have h1 : j ≠ 1 := fun h => c1 (by rw [h]; rfl)
  omega
