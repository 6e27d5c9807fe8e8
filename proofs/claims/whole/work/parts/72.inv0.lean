theorem inv0 : Inv (0 : Int32) (0 : Int32) (0 : Int32) (fun _ => (0 : Int32)) (fun _ => (0 : Int32)) (fun _ => (0 : Int32)) (0 : Int32) (0 : Int32) (0 : Int32) (fun _ => (0 : Int32)) (fun _ => (0 : Int32)) (fun _ => (0 : Int32)) (0 : Int32) (0 : Int32) (-1 : Int32) (0 : Int32) (0 : Int32) (0 : Int32) (0 : Int32) (fun _ => (0 : Int32)) (upd (fun _ => (0 : Int32)) (14 : Int32).toNatClampNeg (-1 : Int32)) (0 : Int32) (0 : Int32) (0 : Int32) S0 SP0 (0 : Int32) (0 : Int32) (0 : Int32) (0 : Int32) (0 : Int32) (-1 : Int32) (0 : Int32) (0 : Int32) (0 : Int32) (0 : Int32) (fun _ => (0 : Int32)) (0 : Int32) (0 : Int32) (0 : Int32) (0 : Int32) (-1 : Int32) (0 : Int32) (0 : Int32) (0 : Int32) (0 : Int32) (fun _ => (0 : Int32)) (fun _ => (0 : Int32)) (0 : Int32) (fun _ => (0 : Int32)) (0 : Int32) (fun _ => (0 : Int32)) (-1 : Int32) (-1 : Int32) (0 : Int32) (fun _ => (0 : Int32)) (0 : Int32) (fun _ => (0 : Int32)) (0 : Int32) (fun _ => (0 : Int32)) (0 : Int32) (fun _ => (0 : Int32)) (fun _ => (0 : Int32)) (fun _ => (0 : Int32)) (0 : Int32) (fun _ => (0 : Int32)) (0 : Int32) (fun _ => (0 : Int32)) := by
  have hw : upd (fun _ => (0 : Int32)) (14 : Int32).toNatClampNeg (-1 : Int32) = upd (fun _ => (0 : Int32)) 14 (-1 : Int32) := rfl
  rw [hw]
  refine mkInv (u := 0) (c := 0) (h := 0) ⟨by decide, by decide, by decide, rfl, rfl, rfl, rfl, rfl, rfl, fun j hj => absurd hj (Nat.not_lt_zero j), fun j hj => absurd hj (Nat.not_lt_zero j)⟩ (rs_mk0 ?_ ?_ ?_ ?_ ?_ ?_ ?_ (fun j hj => absurd hj (Nat.not_lt_zero j)) ⟨0, by decide, rfl⟩) ⟨?_, 0, by decide, rfl⟩ ⟨0, 0, by decide, by decide, rfl, rfl, rfl, fun j hj => absurd hj (Nat.not_lt_zero j)⟩ ⟨rfl, Or.inl rfl, fun z => absurd rfl z⟩ ⟨rfl, Or.inl rfl, fun z => absurd rfl z⟩ ⟨0, by decide, rfl, rfl, fun j hj => absurd hj (Nat.not_lt_zero j)⟩ rfl ⟨0, by decide, rfl, rfl, rfl, rfl, fun j hj => absurd hj (Nat.not_lt_zero j)⟩ ⟨0, by decide, rfl, rfl, fun j hj => absurd hj (Nat.not_lt_zero j)⟩
  · rw [upd_n _ _ (by decide)]
  · rw [upd_n _ _ (by decide)]
  · rw [upd_s]
  · rw [upd_n _ _ (by decide)]
  · rw [upd_n _ _ (by decide)]
  · rw [upd_n _ _ (by decide)]
  · rw [upd_n _ _ (by decide)]
  · rw [upd_n _ _ (by decide)]
