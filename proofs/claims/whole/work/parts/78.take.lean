/-! the town that was told is taken -/
theorem tw_cr8_loop {a b : Nat → Int32} : ∀ (n i : Nat), i ≤ 8 → 8 < n + i → f_X10_copyRow_2 8 8 a n (fun j => if j < i then a j else b j) (nI i) = some (fun j => if j < 8 then a j else b j) := by
  intro n
  induction n with
  | zero => intro i h1 h2; omega
  | succ n ih =>
    intro i hi hn
    rw [f_X10_copyRow_2]
    simp only [o_nm]
    by_cases hlt : i < 8
    · rw [if_neg (show ¬ Int32.ofNat 8 ≤ nI i from nI_ge hlt (by decide)), if_neg (show ¬ Int32.ofNat 8 ≤ nI i from nI_ge hlt (by decide)), ld_in hlt (by decide), Option.bind_some, st_in hlt (by decide), Option.bind_some, nI_1, ← ih (i + 1) (by omega) (by omega)]
      congr 1
      funext j
      by_cases e : j = i
      · subst e; rw [upd_s]; simp
      · rw [upd_n _ _ e]
        by_cases e2 : j < i
        · simp [e2, show j < i + 1 by omega]
        · simp [e2, show ¬ j < i + 1 by omega]
    · have e : i = 8 := by omega
      subst e
      rw [if_pos (show Int32.ofNat 8 ≤ nI 8 from nI_le (Nat.le_refl 8) (by decide))]
theorem tw_cr8 (a b : Nat → Int32) : f_X10_copyRow 8 8 a b = some (fun j => if j < 8 then a j else b j) := by
  have h := tw_cr8_loop (a := a) (b := b) 1000 0 (by omega) (by omega)
  unfold f_X10_copyRow
  rw [← h]
  congr 1
theorem tw_cr9 (a b : Nat → Int32) : f_X10_copyRow 9 9 a b = some (fun j => if j < 9 then a j else b j) := by
  have h := cr_loop (a := a) (b := b) 1000 0 (by omega) (by omega)
  unfold f_X10_copyRow
  rw [← h]
  congr 1
theorem tw_tk2 {al co he um se wr x1 : Int32} {beer cold isKept : Nat → Int32} : ∀ (N i : Nat) (pinched says stands w : Nat → Int32), i ≤ 9 → 9 < N + i →
    ∃ isKept' pinched' says' stands' w', f_X11_take_103 N al co he um se wr beer cold isKept pinched says stands w x1 (nI i) = some (al, co, he, 0, 0, 0, beer, cold, isKept', pinched', says', stands', w') ∧
      (∀ j, i ≤ j → j < 9 → pinched' j = pinched (9 + j) ∧ says' j = says (9 + j) ∧ w' j = stands (9 + j)) ∧ (∀ j, j < i → pinched' j = pinched j ∧ says' j = says j ∧ w' j = w j) ∧
      w' 9 = 0 ∧ w' 10 = 0 ∧ w' 11 = x1 ∧ w' 12 = 0 ∧ w' 13 = 0 ∧ w' 14 = -1 ∧ w' 15 = 0 ∧ (∀ j, 16 ≤ j → w' j = w j) ∧ isKept' 0 = 0 ∧ isKept' 1 = 0 := by
  intro N
  induction N with
  | zero => intro i pinched says stands w h1 h2; omega
  | succ N ih =>
    intro i pinched says stands w hi hN
    rw [f_X11_take_103]
    by_cases h : i < 9
    · have ld : ∀ f : Nat → Int32, o_ld f 18 ((9 : Int32) + nI i) = some (f (9 + i)) := fun f => ld_at (nI_add 9 i) (by omega) (by decide)
      rw [if_neg (show ¬ (9 : Int32) ≤ nI i from nI_ge (b := 9) h (by decide)), ld, Option.bind_some, st_in (show i < 18 by omega) (by decide), Option.bind_some,
        ld, Option.bind_some, st_in (show i < 18 by omega) (by decide), Option.bind_some,
        ld, Option.bind_some, st_in (show i < 18 by omega) (by decide), Option.bind_some,
        ld_in (show i < 18 by omega) (by decide), Option.bind_some, upd_s, st_in (show i < 578 by omega) (by decide), Option.bind_some, onm, nI_1]
      obtain ⟨isKept', pinched', says', stands', w', g1, g2, g3, g4, g5, g6, g7, g8, g9, g10, g11, g12, g13⟩ := ih (i + 1) (upd pinched i (pinched (9 + i))) (upd says i (says (9 + i))) (upd stands i (stands (9 + i))) (upd w i (stands (9 + i))) (by omega) (by omega)
      refine ⟨isKept', pinched', says', stands', w', g1, fun j hj hj9 => ?_, fun j hj => ?_, g4, g5, g6, g7, g8, g9, g10, fun j hj => by rw [g11 j hj, upd_n _ _ (by omega)], g12, g13⟩
      · by_cases e : j = i
        · subst e
          obtain ⟨q1, q2, q3⟩ := g3 j (by omega)
          rw [q1, q2, q3, upd_s, upd_s, upd_s]
          exact ⟨rfl, rfl, rfl⟩
        · obtain ⟨q1, q2, q3⟩ := g2 j (by omega) hj9
          rw [q1, q2, q3, upd_n _ _ (by omega), upd_n _ _ (by omega), upd_n _ _ (by omega)]
          exact ⟨rfl, rfl, rfl⟩
      · obtain ⟨q1, q2, q3⟩ := g3 j (by omega)
        rw [q1, q2, q3, upd_n _ _ (by omega), upd_n _ _ (by omega), upd_n _ _ (by omega)]
        exact ⟨rfl, rfl, rfl⟩
    · have e : i = 9 := by omega
      subst e
      have s0 : ∀ (f : Nat → Int32) (x : Int32), o_st f 2 (0 : Int32) x = some (upd f 0 x) := fun f x => st_at (k := 0) rfl (by decide) (by decide)
      have s1 : ∀ (f : Nat → Int32) (x : Int32), o_st f 2 (1 : Int32) x = some (upd f 1 x) := fun f x => st_at (k := 1) rfl (by decide) (by decide)
      rw [if_pos (show (9 : Int32) ≤ nI 9 by decide), (s_w w 0).1, Option.bind_some, (s_w _ 0).2.1, Option.bind_some, (s_w _ x1).2.2.1, Option.bind_some, (s_w _ 0).2.2.2.1, Option.bind_some, (s_w _ 0).2.2.2.2.1, Option.bind_some, (s_w _ (-1)).2.2.2.2.2.1, Option.bind_some, (s_w _ 0).2.2.2.2.2.2.1, Option.bind_some,
        s0, Option.bind_some, s1, Option.bind_some]
      refine ⟨_, _, _, _, _, rfl, fun j hj hj9 => absurd hj9 (by omega), fun j hj => ⟨rfl, rfl, ?_⟩, ?_, ?_, ?_, ?_, ?_, ?_, ?_, fun j hj => ?_, ?_, ?_⟩
      · rw [upd_n _ _ (by omega), upd_n _ _ (by omega), upd_n _ _ (by omega), upd_n _ _ (by omega), upd_n _ _ (by omega), upd_n _ _ (by omega), upd_n _ _ (by omega)]
      · simp [upd]
      · simp [upd]
      · simp [upd]
      · simp [upd]
      · simp [upd]
      · simp [upd]
      · simp [upd]
      · rw [upd_n _ _ (by omega), upd_n _ _ (by omega), upd_n _ _ (by omega), upd_n _ _ (by omega), upd_n _ _ (by omega), upd_n _ _ (by omega), upd_n _ _ (by omega)]
      · simp [upd]
      · simp [upd]
def tw_pc (c : Nat) (cold : Nat → Int32) (k : Nat) : Bool := decide (k < c) && decide (cold (8 + k) = 1)
theorem tw_tk1 {c : Nat} (hc : c ≤ 8) {al he um se wr : Int32} {isKept pinched says stands w cold0 : Nat → Int32} : ∀ (N i : Nat) (beer cold : Nat → Int32), i ≤ 8 → 8 < N + i → (∀ j, j < 8 → cold (8 + j) = cold0 (8 + j)) →
    ∃ beer' cold', f_X11_take_28 N al (nI c) he um se wr beer cold isKept pinched says stands w (nI (bs (tw_pc c cold0) i)) (nI i) = f_X11_take_103 1000 al (nI c) he um se wr beer' cold' isKept pinched says stands w (nI (bs (tw_pc c cold0) 8)) (0 : Int32) ∧
      (∀ j, i ≤ j → j < 8 → beer' j = beer (8 + j)) ∧ (∀ j, j < i → beer' j = beer j) := by
  intro N
  induction N with
  | zero => intro i beer cold h1 h2; omega
  | succ N ih =>
    intro i beer cold hi hN hco
    rw [f_X11_take_28]
    by_cases h : i < 8
    · have ld : ∀ f : Nat → Int32, o_ld f 16 ((8 : Int32) + nI i) = some (f (8 + i)) := fun f => ld_at (nI_add 8 i) (by omega) (by decide)
      rw [if_neg (show ¬ (8 : Int32) ≤ nI i from nI_ge (b := 8) h (by decide)), ld, Option.bind_some, st_in (show i < 16 by omega) (by decide), Option.bind_some,
        ld, Option.bind_some, st_in (show i < 16 by omega) (by decide), Option.bind_some, ld_in (show i < 16 by omega) (by decide), Option.bind_some, upd_s, hco i h]
      have hco' : ∀ j, j < 8 → upd cold i (cold0 (8 + i)) (8 + j) = cold0 (8 + j) := fun j hj => by rw [upd_n _ _ (by omega), hco j hj]
      obtain ⟨beer', cold', g1, g2, g3⟩ := ih (i + 1) (upd beer i (beer (8 + i))) (upd cold i (cold0 (8 + i))) (by omega) (by omega) hco'
      refine ⟨beer', cold', ?_, fun j hj hj8 => ?_, fun j hj => ?_⟩
      · rw [← g1]
        unfold f_X11_take_88
        rw [one_0, one_1, Option.bind_some, Option.bind_some, onm, onm, onm, onm, nI_1, zshl i (by omega), or_z]
        by_cases c1 : i < c
        · rw [if_neg (nI_ge c1 (by omega))]
          by_cases c2 : cold0 (8 + i) = 1
          · rw [if_pos c2, bs_or (by simp [tw_pc, c1, c2]) (by omega)]
          · rw [if_neg c2, bs_f (by simp [tw_pc, c2])]
        · rw [if_pos (nI_le (by omega) (by omega)), bs_f (by simp [tw_pc, c1])]
      · by_cases e : j = i
        · subst e; rw [g3 j (by omega), upd_s]
        · rw [g2 j (by omega) hj8, upd_n _ _ (by omega)]
      · rw [g3 j (by omega), upd_n _ _ (by omega)]
    · have e : i = 8 := by omega
      subst e
      rw [if_pos (show (8 : Int32) ≤ nI 8 by decide)]
      exact ⟨beer, cold, rfl, fun j h1 h2 => absurd h2 (by omega), fun j _ => rfl⟩
theorem tw_pc_bs {c : Nat} (hc : c ≤ 8) (cold : Nat → Int32) : bs (tw_pc c cold) 8 = bs (fun k => decide (cold (8 + k) = 1)) c := by
  apply Nat.eq_of_testBit_eq
  intro i
  rw [bs_bit, bs_bit]
  unfold tw_pc
  by_cases h : i < c
  · simp [h, show i < 8 by omega]
  · simp [h]
theorem tw_take_all {c : Nat} (hc : c ≤ 8) (a1 a2 a3 al he um se wr : Int32) (beer cold isKept pinched says stands w : Nat → Int32) :
    ∃ beer' cold' isKept' pinched' says' stands' w', f_X11_take a1 a2 a3 al (nI c) he um se wr beer cold isKept pinched says stands w = some (al, nI c, he, 0, 0, 0, beer', cold', isKept', pinched', says', stands', w') ∧
      (∀ j, j < 8 → beer' j = beer (8 + j)) ∧ (∀ j, j < 9 → pinched' j = pinched (9 + j) ∧ says' j = says (9 + j) ∧ w' j = stands (9 + j)) ∧
      w' 9 = 0 ∧ w' 10 = 0 ∧ w' 11 = nI (bs (fun k => decide (cold (8 + k) = 1)) c) ∧ w' 12 = 0 ∧ w' 13 = 0 ∧ w' 14 = -1 ∧ w' 15 = 0 ∧ (∀ j, 16 ≤ j → w' j = w j) ∧ isKept' 0 = 0 ∧ isKept' 1 = 0 := by
  obtain ⟨beer', cold', g1, g2, g3⟩ := tw_tk1 (cold0 := cold) hc (al := al) (he := he) (um := um) (se := se) (wr := wr) (isKept := isKept) (pinched := pinched) (says := says) (stands := stands) (w := w) 1000 0 beer cold (by omega) (by omega) (fun j _ => rfl)
  obtain ⟨isKept', pinched', says', stands', w', k1, k2, k3, k4, k5, k6, k7, k8, k9, k10, k11, k12, k13⟩ := tw_tk2 (al := al) (co := nI c) (he := he) (um := um) (se := se) (wr := wr) (x1 := nI (bs (tw_pc c cold) 8)) (beer := beer') (cold := cold') (isKept := isKept) 1000 0 pinched says stands w (by omega) (by omega)
  have z : bs (tw_pc c cold) 0 = 0 := rfl
  rw [z, nI_0] at g1
  rw [nI_0] at k1
  rw [tw_pc_bs hc] at k6 k1 g1
  unfold f_X11_take
  rw [g1, k1]
  exact ⟨_, _, _, _, _, _, _, rfl, fun j hj => g2 j (by omega) hj, fun j hj => k2 j (by omega) hj, k4, k5, k6, k7, k8, k9, k10, k11, k12, k13⟩
theorem tw_bec7 (a1 a2 a3 a4 : Int32) (b1 b2 b3 b4 : Nat → Int32) (c1 c2 c3 c4 : Int32) (d1 d2 d3 d4 : Nat → Int32) : f_X7_become a1 a2 a3 a4 b1 b2 b3 b4 c1 c2 c3 c4 d1 d2 d3 d4 = some (c1, c2, c3, c4, (fun j => if j < 8 then d1 j else b1 j), (fun j => if j < 9 then d2 j else b2 j), (fun j => if j < 9 then d3 j else b3 j), (fun j => if j < 9 then d4 j else b4 j)) := by
  unfold f_X7_become
  rw [tw_cr8, Option.bind_some, tw_cr9, Option.bind_some, tw_cr9, Option.bind_some, tw_cr9, Option.bind_some]
theorem tw_beg6 (a1 a2 a3 a4 a5 a6 a7 : Int32) (p : Nat → Int32) (c : Int32) (q : Nat → Int32) : f_X6_begin a1 a2 a3 a4 a5 a6 a7 p c q = some (0, 0, -1, 0, 0, 0, c, fun j => if j < 9 then q j else p j) := by
  unfold f_X6_begin
  rw [tw_cr9, Option.bind_some]
