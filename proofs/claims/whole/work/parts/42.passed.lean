/-! who can be passed -/
section PAS
variable {u c h x o : Nat} {sil keptIn colds : Int32} {places pinches sayings pinched says w : Nat → Int32}
theorem read2 (hu : u < 256) (hh : h ≤ 9) (ho : o + 17 ≤ 578) (hT : TR h pinches sayings pinched says) {d kk : Nat} (hd : d < 256) (hkk : kk < 8) (hW : RW h o x sil colds places w) :
    ∃ (sp : Nat) (rr dA hA xA : Int32), sp < 512 ∧ f_X0_readAt sil 0 (nI d) 0 0 (nI x) colds (nI u) (nI h) places pinches sayings (nI kk) = some (rr, dA, hA, nI (pc sp), xA) ∧ f_X11_speakers (nI h) pinched w (nI o) (nI kk) (nI d) 0 = some (nI sp) ∧ rr = (if pc sp % 2 = 1 then 1 else 0) := by
  obtain ⟨w1, w2, w3, w4⟩ := hW
  have e0 : (if nI d = 0 then (0 : Int32) else if bt (0 : Int32) kk then 1 else 0) = 0 := by
    rw [b_0]
    by_cases z : nI d = 0
    · rw [if_pos z]
    · rw [if_neg z]; rfl
  have S := speakers_eq (lf := 0) (lh := 0) (d := d) (places := places) (pinches := pinches) (colds := colds) (sil := sil) hh hkk ho (fun j hj => (hT j hj).1) w1 w2 w3 w4 ⟨fun _ => Or.inl rfl, fun _ => rfl⟩
  have R := read_eq (sil := sil) (liars := 0) (holds := 0) (spoke := 0) (d := d) (x := x) (u := u) (colds := colds) (places := places) (pinches := pinches) (sayings := sayings) hh hkk
  rw [e0] at R
  have hlt := SPn_lt (places := places) (pinches := pinches) (colds := colds) (sil := sil) (x := x) (d := d) (lh := 0) (kk := kk) (h := h) hh
  have hbit : ∀ j, (SPn places pinches colds sil x d 0 kk h).testBit j = true → j < h ∧ ¬ (pinches j &&& nI d) = 0 := fun j hj => SPn_bit hj
  generalize SPn places pinches colds sil x d 0 kk h = sp at S R hlt hbit
  obtain ⟨p1, p2, p3, p4⟩ := pc_all sp hlt
  rw [R]
  unfold f_X0_readAt_67
  rw [p1, Option.bind_some, onm, show nI (pc sp) + (0 : Int32) = nI (pc sp) from nI_add (pc sp) 0, onm, onm, show (0 : Int32) + nI (pc sp) = nI (pc sp) by rw [show (0 : Int32) = nI 0 from rfl, nI_add, Nat.zero_add], rm2 (by omega), Option.bind_some]
  by_cases co : pc sp % 2 = 1
  · obtain ⟨d', c1, c2, c3⟩ := comp_eq (u := u) (d := d) (h := h) (pinches := pinches) (sayings := sayings) (pinched := pinched) (says := says) hu hd hlt (fun z => by have := p4.mpr z; omega) hbit hh hT
    rw [co, if_pos (show nI 1 = (1 : Int32) from rfl), c2, Option.bind_some, onm]
    exact ⟨sp, _, _, _, _, hlt, rfl, S, by rw [if_pos co]⟩
  · have z : pc sp % 2 = 0 := by omega
    rw [z, if_neg (show ¬ nI 0 = (1 : Int32) by decide)]
    by_cases c0 : nI (pc sp) = 0
    · rw [if_pos c0]
      exact ⟨sp, _, _, _, _, hlt, rfl, S, by rw [if_neg co]⟩
    · rw [if_neg c0, onm]
      exact ⟨sp, _, _, _, _, hlt, rfl, S, by rw [if_neg co]⟩
theorem pass_tail (hu : u < 256) {hoarse kk a1 a2 a3 a4 a5 a6 : Int32} : ∀ (k i : Nat), u < i → i ≤ 256 → 256 < k + i → f_X8_isPassable_2 hoarse keptIn colds (nI u) (nI h) places pinches sayings k a1 a2 a3 a4 a5 a6 kk (nI i) = some (0, a1, a2, a3, a4, a5, a6) := by
  intro k
  induction k with
  | zero => intro i h1 h2 h3; omega
  | succ k ih =>
    intro i h1 h2 h3
    rw [f_X8_isPassable_2]
    by_cases hlt : i < 256
    · rw [if_neg (show ¬ (256 : Int32) ≤ nI i from nI_ge (b := 256) hlt (by decide))]
      have ha : f_X7_allows (nI u) (nI i) = some 0 := by
        rcases decree_cases hu (nI i) with ⟨b1, b2⟩ | ⟨d, hd, e, b1, b2⟩
        · exact b1
        · exact absurd (allow_le hu hlt b1) (by omega)
      rw [ha, Option.bind_some, if_pos rfl, onm, nI_1]
      exact ih (i + 1) (by omega) (by omega) (by omega)
    · have e : i = 256 := by omega
      subst e
      rw [if_pos (show (256 : Int32) ≤ nI 256 from nI_le (a := 256) (Nat.le_refl 256) (by decide))]
theorem pass_loop (hu : u < 256) (hh : h ≤ 9) (hT : TR h pinches sayings pinched says) {kk : Nat} (hkk : kk < 8) (hW : RW h 0 x keptIn colds places w) : ∀ (k i : Nat) (cs cl cd ch csp cho : Int32), i ≤ u + 1 → 256 < k + i → ∃ (b a1 a2 a3 a4 a5 a6 : Int32), (b = 0 ∨ b = 1) ∧ f_X8_isPassable_2 (nI x) keptIn colds (nI u) (nI h) places pinches sayings k cs cl cd ch csp cho (nI kk) (nI i) = some (b, a1, a2, a3, a4, a5, a6) ∧ f_X11_canPass_4 (nI u) (nI h) pinched w k (nI kk) 0 (nI i) = some b := by
  intro k
  induction k with
  | zero => intro i cs cl cd ch csp cho h1 h2; omega
  | succ k ih =>
    intro i cs cl cd ch csp cho hi hk2
    by_cases hlt : i ≤ u
    · rw [f_X8_isPassable_2, f_X11_canPass_4, if_neg (show ¬ (256 : Int32) ≤ nI i from nI_ge (b := 256) (by omega) (by decide)), if_neg (nI_nlt hlt (by omega)), if_pos rfl]
      rcases decree_cases hu (nI i) with ⟨b1, b2⟩ | ⟨d0, hd0, e0, b1, b2⟩
      · rw [b1, b2, Option.bind_some, Option.bind_some, if_pos rfl, if_pos rfl, onm, onm, nI_1]
        exact ih (i + 1) cs cl cd ch csp cho (by omega) (by omega)
      · obtain ⟨sp, rr, dA, hA, xA, q1, q2, q3, q4⟩ := read2 (o := 0) (u := u) hu hh (by decide) hT (show i < 256 by omega) hkk hW
        have q3 : f_X11_speakers (nI h) pinched w (0 : Int32) (nI kk) (nI i) 0 = some (nI sp) := q3
        rw [b1, b2, Option.bind_some, Option.bind_some, if_neg one_ne, if_neg one_ne]
        unfold f_X0_start
        rw [onm, Option.bind_some]
        simp only []
        rw [or_z, q2, Option.bind_some, q3, Option.bind_some, (pc_all sp q1).2.1, Option.bind_some, rm2 (by have := (pc_all sp q1).2.2.1; omega), Option.bind_some]
        by_cases co : pc sp % 2 = 1
        · rw [if_pos co] at q4
          rw [q4, co, if_pos (show nI 1 = (1 : Int32) from rfl), if_neg one_ne, onm]
          obtain ⟨k', rfl⟩ : ∃ k', k = k' + 1 := ⟨k - 1, by omega⟩
          rw [f_X11_canPass_4, show o_zb (1 : Int32) = some () from rfl, Option.bind_some, if_neg one_ne]
          refine ⟨1, _, _, _, _, _, _, Or.inr rfl, rfl, ?_⟩
          by_cases z : nI u < nI i + 1
          · rw [if_pos z]
          · rw [if_neg z]
        · rw [if_neg co] at q4
          have z : pc sp % 2 = 0 := by omega
          rw [q4, z, if_neg (show ¬ nI 0 = (1 : Int32) by decide), if_pos rfl, onm, onm, nI_1]
          exact ih (i + 1) _ _ _ _ _ _ (by omega) (by omega)
    · refine ⟨0, _, _, _, _, _, _, Or.inl rfl, pass_tail hu (k + 1) i (by omega) (by omega) hk2, ?_⟩
      rw [f_X11_canPass_4, if_pos (nI_lt (by omega) (by omega)), show o_zb (0 : Int32) = some () from rfl, Option.bind_some]
theorem passed_loop (hu : u < 256) (hc : c ≤ 8) (hh : h ≤ 9) (hT : TR h pinches sayings pinched says) (hW : RW h 0 x keptIn colds places w) : ∀ (k i : Nat) (s cs cl cd ch csp cho : Int32), i ≤ c → c < k + i → ∃ (r a1 a2 a3 a4 a5 a6 : Int32), f_X8_passableCorners_4 (nI x) keptIn colds (nI u) (nI c) (nI h) places pinches sayings k cs cl cd ch csp cho s (nI i) = some (r, a1, a2, a3, a4, a5, a6) ∧ f_X11_passed_4 (nI u) (nI c) (nI h) pinched w k s (nI i) = some r := by
  intro k
  induction k with
  | zero => intro i s cs cl cd ch csp cho h1 h2; omega
  | succ k ih =>
    intro i s cs cl cd ch csp cho hi hk2
    rw [f_X8_passableCorners_4, f_X11_passed_4]
    by_cases hlt : i < c
    · rw [if_neg (nI_ge hlt (by omega)), if_neg (nI_ge hlt (by omega))]
      obtain ⟨b, a1, a2, a3, a4, a5, a6, hb, e1, e2⟩ := pass_loop (x := x) (sayings := sayings) (kk := i) hu hh hT (by omega) hW 1000 0 cs cl cd ch csp cho (by omega) (by omega)
      have e1 : f_X8_isPassable cs cl cd ch csp cho (nI x) keptIn colds (nI u) (nI h) places pinches sayings (nI i) = some (b, a1, a2, a3, a4, a5, a6) := e1
      have e2 : f_X11_canPass (nI u) (nI h) pinched w (nI i) = some b := e2
      rw [e1, e2, Option.bind_some, Option.bind_some]
      rcases hb with rfl | rfl
      · rw [if_pos rfl, one_0, Option.bind_some, onm, onm, onm, zshl i (by omega), or_z, nI_1]
        exact ih (i + 1) s _ _ _ _ _ _ (by omega) (by omega)
      · rw [if_neg one_ne, one_1, Option.bind_some, onm, onm, onm, onm, nI_1]
        exact ih (i + 1) _ _ _ _ _ _ _ (by omega) (by omega)
    · rw [if_pos (nI_le (by omega) (by omega)), if_pos (nI_le (by omega) (by omega))]
      exact ⟨_, _, _, _, _, _, _, rfl, rfl⟩
theorem q_passed (hu : u < 256) (hc : c ≤ 8) (hh : h ≤ 9) (hT : TR h pinches sayings pinched says) (hW : RW h 0 x keptIn colds places w) {cs cl cd ch csp cho : Int32} : ∃ (r a1 a2 a3 a4 a5 a6 : Int32), f_X10_passed cs cl cd ch csp cho (nI x) keptIn colds (nI u) (nI c) (nI h) places pinches sayings = some (r, a1, a2, a3, a4, a5, a6) ∧ f_X11_passed (nI u) (nI c) (nI h) pinched w = some r := by
  obtain ⟨r, a1, a2, a3, a4, a5, a6, e1, e2⟩ := passed_loop (x := x) (sayings := sayings) hu hc hh hT hW 1000 0 0 cs cl cd ch csp cho (by omega) (by omega)
  have e1 : f_X8_passableCorners cs cl cd ch csp cho (nI x) keptIn colds (nI u) (nI c) (nI h) places pinches sayings = some (r, a1, a2, a3, a4, a5, a6) := e1
  unfold f_X10_passed f_X11_passed
  rw [e1, Option.bind_some]
  exact ⟨_, _, _, _, _, _, _, rfl, e2⟩
end PAS
