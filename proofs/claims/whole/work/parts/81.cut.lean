/-! a cut of many places, in two steps -/
theorem upw_nil (w : va_W) : ∀ is : List Nat, upw w is [] = w
  | [] => rfl
  | _ :: _ => rfl
theorem upw_nil0 (w : va_W) : ∀ qs : va_W, upw w [] qs = w
  | [] => rfl
  | _ :: _ => rfl
theorem upw_split (k : Nat) : ∀ (is : List Nat) (w qs : va_W), upw w is qs = upw (upw w (is.take k) (qs.take k)) (is.drop k) (qs.drop k) := by
  induction k with
  | zero => intro is w qs; rfl
  | succ k ih =>
    intro is w qs
    cases is with
    | nil => rw [List.take_nil, List.drop_nil, upw_nil0, upw_nil0, upw_nil0]
    | cons i is =>
      cases qs with
      | nil =>
        show w = upw w (is.drop k) []
        rw [upw_nil]
      | cons q qs => exact ih is (w.set i q) qs
theorem Cut.of2 {D : va_G} {A : Nat → Prop} {W0 Wc Wc' Wa W' : va_W} {H0 H : Heap} {locs : List Loc} (hA : ∀ q, H0.size ≤ q → A q) (hP : va_P D vwCl W0 H) (hD : va_D A W0) (hS : va_S A H0 H locs) (is : List Nat) (k : Nat) (hn : is.Nodup) (hC : is.map (fun i => W0[i]?) = Wc.map some) (hadr : Wc'.map Prod.fst = Wc.map Prod.fst) (h1 : upw W0 (is.take k) (Wc'.take k) = Wa) (h2 : upw Wa (is.drop k) (Wc'.drop k) = W') : Cut D A H Wc Wc' W' :=
  Cut.of hA hP hD hS is hn hC hadr ((upw_split k is W0 Wc').trans (by rw [h1, h2]))
