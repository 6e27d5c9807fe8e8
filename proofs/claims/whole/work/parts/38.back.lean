/-! taking back, keeping, going back -/
theorem nsub {a b : Nat} (h : b ≤ a) : nI a - nI b = nI (a - b) := by
  have e : nI (a - b) + nI b = nI a := by rw [nI_add, Nat.sub_add_cancel h]
  rw [← e]
  grind
theorem in1 {n : Nat} (hn : n < 2 ^ 31) {B : Int64} (hB : B = Int32.toInt64 (nI n)) (y : Int32) : (f_X11_in (Int32.toInt64 y) (1 : Int64) B = some 0 ∧ (y < 1 ∨ (¬ y < 1 ∧ ¬ y ≤ nI n))) ∨ ∃ j, 1 ≤ j ∧ j ≤ n ∧ y = nI j ∧ ¬ y < 1 ∧ y ≤ nI n ∧ f_X11_in (Int32.toInt64 y) (1 : Int64) B = some 1 := by
  have e := in_eq y 1 (nI n)
  rw [show Int32.toInt64 1 = (1 : Int64) from rfl, ← hB] at e
  rw [e]
  by_cases h1 : y < 1
  · left; rw [if_pos h1]; exact ⟨rfl, Or.inl h1⟩
  · by_cases h2 : nI n < y
    · left; rw [if_neg h1, if_pos h2]
      refine ⟨rfl, Or.inr ⟨h1, fun z => ?_⟩⟩
      have a := Int32.lt_iff_toInt_lt.mp h2
      have b := Int32.le_iff_toInt_le.mp z
      omega
    · right
      have h3 : ¬ y < 0 := fun z => h1 (by
        have a := Int32.lt_iff_toInt_lt.mp z
        refine Int32.lt_iff_toInt_lt.mpr ?_
        have : (1 : Int32).toInt = 1 := rfl
        have : (0 : Int32).toInt = 0 := rfl
        omega)
      obtain ⟨j, hj, rfl⟩ := nI_of h3
      have hjn : j ≤ n := Nat.le_of_not_lt fun z => h2 (nI_lt z hj)
      refine ⟨j, ?_, hjn, rfl, h1, nI_le hjn hn, by rw [if_neg h1, if_neg h2]⟩
      exact Nat.le_of_not_lt fun z => h1 (nI_lt (b := 1) z (by decide))
theorem q_undo {h : Nat} {next count und rounds months law holds hoarse keptIn colds : Int32} {S SP : Nat → Nat → Int32} {places w : Nat → Int32} (hh : h ≤ 9) (hN : RS h (srow rounds months law holds hoarse keptIn colds) places w 0) (hP : RP h next count S SP und w) (y : Int32) :
    ∃ (r rounds' months' law' holds' hoarse' keptIn' colds' next' count' : Int32) (places' : Nat → Int32) (und' : Int32) (w' : Nat → Int32), f_X10_undo rounds months law holds hoarse keptIn colds next count places SP S y = some (r, rounds', months', law', holds', hoarse', keptIn', colds', next', count', places') ∧ f_X11_undo und w y = some (r, und', w') ∧ RS h (srow rounds' months' law' holds' hoarse' keptIn' colds') places' w' 0 ∧ RP h next' count' S SP und' w' ∧ ∀ j, 16 ≤ j → w' j = w j := by
  have hP0 := hP
  obtain ⟨nx, ct, hnx, hct, rfl, rfl, rfl, hr⟩ := hP
  unfold f_X10_undo f_X11_undo
  rcases in1 (n := 30) (by decide) (B := 30) rfl y with ⟨h1, h2⟩ | ⟨k, hk1, hk, rfl, g1, g2, h1⟩
  · rw [h1, Option.bind_some, if_pos rfl]
    refine ⟨_, _, _, _, _, _, _, _, _, _, _, _, _, ?_, rfl, hN, hP0, fun j _ => rfl⟩
    rcases h2 with h2 | ⟨h2, h3⟩
    · rw [if_pos h2]
    · rw [if_neg h2, if_neg (show ¬ y ≤ (30 : Int32) from h3)]
  · rw [h1, Option.bind_some, if_neg one_ne, if_neg g1, if_pos (show nI k ≤ (30 : Int32) from g2)]
    by_cases c : k ≤ ct
    · rw [if_pos (nI_le c (by omega)), if_pos (nI_le c (by omega))]
      have T : f_X3_takeBack (nI nx) (nI ct) SP S rounds months law holds hoarse keptIn colds places (nI k) = f_X3_takeBack_27 SP S (nI nx) (nI ct) rounds months law holds hoarse keptIn colds places (nI k) (nI ((nx + 30 - k) % 30)) := by
        unfold f_X3_takeBack
        by_cases z : k ≤ nx
        · rw [nsub z, if_pos (nI_pos' (by omega)), show (nx + 30 - k) % 30 = nx - k by omega]
        · rw [if_neg, subadd, show (30 : Int32) = nI 30 from rfl, nI_add, nsub (by omega), show (nx + 30 - k) % 30 = nx + 30 - k by omega]
          intro q
          have a := Int32.le_iff_toInt_le.mp q
          rw [pk_sub_toInt (by omega) (by omega)] at a
          have : (0 : Int32).toInt = 0 := rfl
          omega
      rw [T]
      unfold f_X3_takeBack_27
      rw [if_neg (nI_pos (by omega)), if_pos (show nI ((nx + 30 - k) % 30) < Int32.ofNat 30 from nI_lt (by omega) (by decide)), ix_in (by omega) (by decide), Option.bind_some, become_eq]
      simp only [Option.bind_some, o_nm]
      rw [nsub c, row_at, (l_w w).2.2.2.2.2.2.2, Option.bind_some, show (0 : Int32) = nI 0 from rfl, copy_eq (by omega) (by omega) (Or.inr (by omega)), Option.bind_some, (s_w _ _).2.2.2.2.2.2.2, Option.bind_some, (l_w _).2.2.2.1, Option.bind_some]
      have H := hr (ct - k) (by omega)
      rw [show (nx + 30 - ct + (ct - k)) % 30 = (nx + 30 - k) % 30 by omega] at H
      obtain ⟨n0, n1, n2, n3, n4, n5, n6, n7, n8⟩ := H
      have E : ∀ i, i < 16 → upd (cp w (68 + 17 * (ct - k)) 0) 16 (w 16) i = w (68 + 17 * (ct - k) + i) := by
        intro i hi
        have := cp_in w (a := 68 + 17 * (ct - k)) (b := 0) (i := i) (by omega)
        rw [Nat.zero_add] at this
        rw [upd_n _ _ (by omega), this]
      have E2 : ∀ j, 16 ≤ j → upd (cp w (68 + 17 * (ct - k)) 0) 16 (w 16) j = w j := by
        intro j hj
        by_cases z : j = 16
        · subst z; rw [upd_s]
        · rw [upd_n _ _ z, cp_out _ (Or.inr (by omega))]
      rw [E 12 (by decide), ← n0]
      refine ⟨_, _, _, _, _, _, _, _, _, _, _, _, _, rfl, rfl, rs_mk0 ?_ ?_ ?_ ?_ ?_ ?_ ?_ (fun j hj => ?_) n8, ⟨(nx + 30 - k) % 30, ct - k, by omega, by omega, rfl, rfl, rfl, fun j hj => ?_⟩, E2⟩
      · rw [E 12 (by decide)]; exact n0
      · rw [E 13 (by decide)]; exact n1
      · rw [E 14 (by decide)]; exact n2
      · rw [E 15 (by decide)]; exact n3
      · rw [E 9 (by decide)]; exact n4
      · rw [E 10 (by decide)]; exact n5
      · rw [E 11 (by decide)]; exact n6
      · rw [E j (by omega), if_pos (by omega)]; exact n7 j hj
      · rw [show ((nx + 30 - k) % 30 + 30 - (ct - k) + j) % 30 = (nx + 30 - ct + j) % 30 by omega]
        exact rs_w hh (fun i _ => E2 _ (by omega)) (hr j (by omega))
    · rw [if_neg (nI_ge (by omega) (by omega)), if_neg (nI_ge (by omega) (by omega))]
      exact ⟨_, _, _, _, _, _, _, _, _, _, _, _, _, rfl, rfl, hN, hP0, fun j _ => rfl⟩
theorem rp_0 {h : Nat} {next count und : Int32} {S SP : Nat → Nat → Int32} {w w' : Nat → Int32} (H : RP h next count S SP und w) : RP h next 0 S SP 0 w' := by
  obtain ⟨nx, ct, a1, a2, a3, a4, a5, a6⟩ := H
  exact ⟨nx, 0, a1, by omega, a3, rfl, rfl, fun j hj => by omega⟩
theorem q_keep {h : Nat} {next count und rounds months law holds hoarse keptIn colds dv : Int32} {S SP : Nat → Nat → Int32} {places w kept p0 p1 : Nat → Int32} {s0 t0 a0 a1 a2 a3 a4 a5 a6 s1 t1 b0 b1 b2 b3 b4 b5 b6 : Int32} (hh : h ≤ 9) (hN : RS h (srow rounds months law holds hoarse keptIn colds) places w 0) (hS : dv = w 16 ∧ ∃ v, v < 2147483648 ∧ dv = nI v) (hP : RP h next count S SP und w) (h0 : RI h s0 t0 (srow a0 a1 a2 a3 a4 a5 a6) p0 (kept 0) w 34) (h1 : RI h s1 t1 (srow b0 b1 b2 b3 b4 b5 b6) p1 (kept 1) w 51) (y : Int32) :
    ∃ (r count' s0' t0' s1' t1' a0' a1' a2' a3' a4' a5' a6' b0' b1' b2' b3' b4' b5' b6' : Int32) (p0' p1' : Nat → Int32) (und' : Int32) (kept' w' : Nat → Int32), f_X10_keep dv rounds months law holds hoarse keptIn colds count s0 t0 s1 t1 places a0 a1 a2 a3 a4 a5 a6 b0 b1 b2 b3 b4 b5 b6 p0 p1 y = some (r, count', s0', t0', s1', t1', a0', a1', a2', a3', a4', a5', a6', b0', b1', b2', b3', b4', b5', b6', p0', p1') ∧ f_X11_keep und kept w y = some (r, und', kept', w') ∧ RP h next count' S SP und' w' ∧ RI h s0' t0' (srow a0' a1' a2' a3' a4' a5' a6') p0' (kept' 0) w' 34 ∧ RI h s1' t1' (srow b0' b1' b2' b3' b4' b5' b6') p1' (kept' 1) w' 51 ∧ ∀ j, j < 17 → w' j = w j := by
  obtain ⟨n0, n1, n2, n3, n4, n5, n6, n7, n8⟩ := rs_now hN
  have mk : ∀ (o : Nat) (p : Nat → Int32), 17 ≤ o → RS h (srow rounds months law holds hoarse keptIn colds) (fun j => if j < 9 then places j else p j) (cp w 0 o) o := by
    intro o p ho
    have E : ∀ i, i < 17 → cp w 0 o (o + i) = w i := fun i hi => by rw [cp_in _ hi, Nat.zero_add]
    refine rs_mk ?_ ?_ ?_ ?_ ?_ ?_ ?_ (fun j hj => ?_) n8
    · rw [E 12 (by decide)]; exact n0
    · rw [E 13 (by decide)]; exact n1
    · rw [E 14 (by decide)]; exact n2
    · rw [E 15 (by decide)]; exact n3
    · rw [E 9 (by decide)]; exact n4
    · rw [E 10 (by decide)]; exact n5
    · rw [E 11 (by decide)]; exact n6
    · rw [E j (by omega), if_pos (by omega)]; exact n7 j hj
  have sd : ∀ (o : Nat), cp w 0 o (o + 16) = dv := fun o => by rw [cp_in _ (by decide), Nat.zero_add, hS.1]
  unfold f_X10_keep f_X11_keep f_X2_take f_X3_forget
  rcases in_cases (n := 1) (by decide) (B := 1) rfl y with ⟨g1, g2⟩ | ⟨j, hj, rfl, g1⟩
  · rw [g1, Option.bind_some, if_pos rfl]
    have y0 : ¬ y = 0 := by
      intro z; subst z
      rcases g2 with g2 | ⟨_, g3⟩
      · exact absurd g2 (by decide)
      · exact absurd g3 (by decide)
    have y1 : ¬ y = 1 := by
      intro z; subst z
      rcases g2 with g2 | ⟨_, g3⟩
      · exact absurd g2 (by decide)
      · exact absurd g3 (by decide)
    rw [if_neg y0, if_neg y1]
    exact ⟨_, _, _, _, _, _, _, _, _, _, _, _, _, _, _, _, _, _, _, _, _, _, _, _, _, rfl, rfl, hP, h0, h1, fun j _ => rfl⟩
  · rw [g1, Option.bind_some, if_neg one_ne]
    by_cases hj0 : j = 0
    · subst hj0
      have C : f_X11_copy w (0 : Int32) ((34 : Int32) + (17 : Int32) * nI 0) = some (cp w 0 34) := copy_eq (a := 0) (b := 34) (by decide) (by decide) (Or.inl (by decide))
      rw [if_pos (show nI 0 = (0 : Int32) from rfl), become_eq, C, st_in (show 0 < 2 by decide) (by decide)]
      simp only [Option.bind_some]
      refine ⟨_, _, _, _, _, _, _, _, _, _, _, _, _, _, _, _, _, _, _, _, _, _, _, _, _, rfl, rfl, rp_0 hP, ⟨(upd_s _ _ _).symm, Or.inr rfl, fun _ => ⟨mk 34 p0 (by decide), (sd 34).symm, hS.2⟩⟩, ?_, fun j hj => cp_out _ (Or.inl (by omega))⟩
      rw [upd_n _ _ (by decide)]
      exact ri_w hh (fun j hj => cp_out _ (Or.inr (by omega))) h1
    · have e : j = 1 := by omega
      subst e
      have C : f_X11_copy w (0 : Int32) ((34 : Int32) + (17 : Int32) * nI 1) = some (cp w 0 51) := copy_eq (a := 0) (b := 51) (by decide) (by decide) (Or.inl (by decide))
      rw [if_neg (show ¬ nI 1 = (0 : Int32) by decide), if_pos (show nI 1 = (1 : Int32) from rfl), become_eq, C, st_in (show 1 < 2 by decide) (by decide)]
      simp only [Option.bind_some]
      refine ⟨_, _, _, _, _, _, _, _, _, _, _, _, _, _, _, _, _, _, _, _, _, _, _, _, _, rfl, rfl, rp_0 hP, ?_, ⟨(upd_s _ _ _).symm, Or.inr rfl, fun _ => ⟨mk 51 p1 (by decide), (sd 51).symm, hS.2⟩⟩, fun j hj => cp_out _ (Or.inl (by omega))⟩
      rw [upd_n _ _ (by decide)]
      exact ri_w hh (fun j hj => cp_out _ (Or.inl (by omega))) h0
theorem q_goBack {h : Nat} {next count und rounds months law holds hoarse keptIn colds dv : Int32} {S SP : Nat → Nat → Int32} {places w kept p0 p1 : Nat → Int32} {s0 t0 a0 a1 a2 a3 a4 a5 a6 s1 t1 b0 b1 b2 b3 b4 b5 b6 : Int32} (hh : h ≤ 9) (hN : RS h (srow rounds months law holds hoarse keptIn colds) places w 0) (hS : dv = w 16 ∧ ∃ v, v < 2147483648 ∧ dv = nI v) (hP : RP h next count S SP und w) (h0 : RI h s0 t0 (srow a0 a1 a2 a3 a4 a5 a6) p0 (kept 0) w 34) (h1 : RI h s1 t1 (srow b0 b1 b2 b3 b4 b5 b6) p1 (kept 1) w 51) (y : Int32) :
    ∃ (r dv' rounds' months' law' holds' hoarse' keptIn' colds' count' : Int32) (places' : Nat → Int32) (und' : Int32) (w' : Nat → Int32), f_X10_goBack dv rounds months law holds hoarse keptIn colds count s0 t0 s1 t1 places a0 a1 a2 a3 a4 a5 a6 b0 b1 b2 b3 b4 b5 b6 p0 p1 y = some (r, dv', rounds', months', law', holds', hoarse', keptIn', colds', count', places') ∧ f_X11_goBack und kept w y = some (r, und', w') ∧ RS h (srow rounds' months' law' holds' hoarse' keptIn' colds') places' w' 0 ∧ (dv' = w' 16 ∧ ∃ v, v < 2147483648 ∧ dv' = nI v) ∧ RP h next count' S SP und' w' ∧ ∀ j, 17 ≤ j → w' j = w j := by
  have mk : ∀ (o : Nat) (a0 a1 a2 a3 a4 a5 a6 : Int32) (p : Nat → Int32), RS h (srow a0 a1 a2 a3 a4 a5 a6) p w o → RS h (srow a0 a1 a2 a3 a4 a5 a6) (fun j => if j < 9 then p j else places j) (cp w o 0) 0 := by
    intro o a0 a1 a2 a3 a4 a5 a6 p H
    obtain ⟨n0, n1, n2, n3, n4, n5, n6, n7, n8⟩ := H
    have E : ∀ i, i < 17 → cp w o 0 i = w (o + i) := fun i hi => by have := cp_in w (a := o) (b := 0) hi; rwa [Nat.zero_add] at this
    refine rs_mk0 ?_ ?_ ?_ ?_ ?_ ?_ ?_ (fun j hj => ?_) n8
    · rw [E 12 (by decide)]; exact n0
    · rw [E 13 (by decide)]; exact n1
    · rw [E 14 (by decide)]; exact n2
    · rw [E 15 (by decide)]; exact n3
    · rw [E 9 (by decide)]; exact n4
    · rw [E 10 (by decide)]; exact n5
    · rw [E 11 (by decide)]; exact n6
    · rw [E j (by omega), if_pos (by omega)]; exact n7 j hj
  have sd : ∀ (o : Nat), cp w o 0 16 = w (o + 16) := fun o => by have := cp_in w (a := o) (b := 0) (i := 16) (by decide); rwa [Nat.zero_add] at this
  unfold f_X10_goBack f_X11_goBack f_X3_forget
  rcases in_cases (n := 1) (by decide) (B := 1) rfl y with ⟨g1, g2⟩ | ⟨j, hj, rfl, g1⟩
  · rw [g1, Option.bind_some, if_pos rfl]
    have y0 : ¬ y = 0 := by
      intro z; subst z
      rcases g2 with g2 | ⟨_, g3⟩
      · exact absurd g2 (by decide)
      · exact absurd g3 (by decide)
    have y1 : ¬ y = 1 := by
      intro z; subst z
      rcases g2 with g2 | ⟨_, g3⟩
      · exact absurd g2 (by decide)
      · exact absurd g3 (by decide)
    rw [if_neg y0, if_neg y1]
    exact ⟨_, _, _, _, _, _, _, _, _, _, _, _, _, rfl, rfl, hN, hS, hP, fun j _ => rfl⟩
  · rw [g1, Option.bind_some, if_neg one_ne]
    by_cases hj0 : j = 0
    · subst hj0
      obtain ⟨i1, i2, i3⟩ := h0
      rw [if_pos (show nI 0 = (0 : Int32) from rfl), ld_in (show 0 < 2 by decide) (by decide), Option.bind_some, ← i1]
      by_cases t : t0 = 0
      · rw [if_pos t, if_pos t]
        exact ⟨_, _, _, _, _, _, _, _, _, _, _, _, _, rfl, rfl, hN, hS, hP, fun j _ => rfl⟩
      · obtain ⟨i4, i5, i6⟩ := i3 t
        have C : f_X11_copy w ((34 : Int32) + (17 : Int32) * nI 0) (0 : Int32) = some (cp w 34 0) := copy_eq (a := 34) (b := 0) (by decide) (by decide) (Or.inr (by decide))
        rw [if_neg t, if_neg t, become_eq, C]
        simp only [Option.bind_some]
        exact ⟨_, _, _, _, _, _, _, _, _, _, _, _, _, rfl, rfl, mk 34 _ _ _ _ _ _ _ _ i4, ⟨by rw [sd]; exact i5, i6⟩, rp_0 hP, fun j hj => cp_out _ (Or.inr (by omega))⟩
    · have e : j = 1 := by omega
      subst e
      obtain ⟨i1, i2, i3⟩ := h1
      rw [if_neg (show ¬ nI 1 = (0 : Int32) by decide), if_pos (show nI 1 = (1 : Int32) from rfl), ld_in (show 1 < 2 by decide) (by decide), Option.bind_some, ← i1]
      by_cases t : t1 = 0
      · rw [if_pos t, if_pos t]
        exact ⟨_, _, _, _, _, _, _, _, _, _, _, _, _, rfl, rfl, hN, hS, hP, fun j _ => rfl⟩
      · obtain ⟨i4, i5, i6⟩ := i3 t
        have C : f_X11_copy w ((34 : Int32) + (17 : Int32) * nI 1) (0 : Int32) = some (cp w 51 0) := copy_eq (a := 51) (b := 0) (by decide) (by decide) (Or.inr (by decide))
        rw [if_neg t, if_neg t, become_eq, C]
        simp only [Option.bind_some]
        exact ⟨_, _, _, _, _, _, _, _, _, _, _, _, _, rfl, rfl, mk 51 _ _ _ _ _ _ _ _ i4, ⟨by rw [sd]; exact i5, i6⟩, rp_0 hP, fun j hj => cp_out _ (Or.inr (by omega))⟩
