/-! the text, read here and there -/
def tw_RTx (n : Nat) (items text : Nat → Int32) : Prop := n ≤ 230 ∧ ∀ j, j < n → items j = text j ∧ ∃ x, x < 256 ∧ text j = nI x
/-- the letter at a place, or none -/
def tw_ltr (n : Nat) (text : Nat → Int32) (a : Nat) : Int32 := if a < n then text a else -1
theorem tw_ltr_in {n a : Nat} {text : Nat → Int32} (h : a < n) : tw_ltr n text a = text a := if_pos h
theorem tw_ltr_out {n a : Nat} {text : Nat → Int32} (h : n ≤ a) : tw_ltr n text a = -1 := if_neg (by omega)
theorem tw_lh {n a : Nat} {items text : Nat → Int32} (H : tw_RTx n items text) (ha : a < 1000) : f_X4_letterHere (nI a) (nI n) items = some (tw_ltr n text a) := by
  obtain ⟨hn, hx⟩ := H
  unfold f_X4_letterHere f_X5_get
  rw [if_neg (nI_pos (by omega))]
  by_cases h : a < n
  · rw [if_neg (nI_ge h (by omega)), if_neg (show ¬ Int32.ofNat 230 ≤ nI a from nI_ge (by omega) (by decide)), ld_in (show a < 230 by omega) (by decide), tw_ltr_in h, (hx a h).1, Option.bind_some, Option.bind_some]
  · rw [if_pos (nI_le (by omega) (by omega)), tw_ltr_out (by omega), Option.bind_some]
theorem tw_sk_loop {n : Nat} {items text : Nat → Int32} (H : tw_RTx n items text) : ∀ (N i a : Nat), i ≤ a → a ≤ n → n < N + a → ∃ b, a ≤ b ∧ b ≤ n ∧ f_X4_skipBlanks_2 (nI n) items N (nI a) (nI i) = some (nI b) ∧ f_X11_here_0 (nI n) text N (nI a) = some (tw_ltr n text b, nI b) ∧ ¬ tw_ltr n text b = 32 := by
  intro N
  induction N with
  | zero => intro i a h1 h2 h3; omega
  | succ N ih =>
    intro i a hi ha hN
    have hn := H.1
    rw [f_X4_skipBlanks_2, f_X11_here_0, tw_lh H (show a < 1000 by omega), Option.bind_some]
    by_cases h : a < n
    · rw [if_neg (show ¬ (230 : Int32) ≤ nI i from nI_ge (b := 230) (by omega) (by decide)), if_neg (nI_ge h (by omega)), ld_in (show a < 230 by omega) (by decide), Option.bind_some, tw_ltr_in h]
      by_cases c : text a = 32
      · rw [if_pos c, if_pos c, onm, onm, onm, nI_1, nI_1]
        obtain ⟨b, h1, h2, h3, h4, h5⟩ := ih (i + 1) (a + 1) (by omega) (by omega) (by omega)
        exact ⟨b, by omega, h2, h3, h4, h5⟩
      · rw [if_neg c, if_neg c]
        unfold f_X11_here_38
        rw [if_neg (nI_ge h (by omega)), ld_in (show a < 230 by omega) (by decide), Option.bind_some]
        exact ⟨a, Nat.le_refl a, ha, rfl, by rw [tw_ltr_in h], by rw [tw_ltr_in h]; exact c⟩
    · have e : a = n := by omega
      subst e
      rw [if_pos (nI_le (Nat.le_refl a) (by omega)), tw_ltr_out (Nat.le_refl a)]
      unfold f_X11_here_38
      rw [if_pos (nI_le (Nat.le_refl a) (by omega)), if_neg (show ¬ (-1 : Int32) = 32 by decide)]
      refine ⟨a, Nat.le_refl a, Nat.le_refl a, ?_, by rw [tw_ltr_out (Nat.le_refl a)], by rw [tw_ltr_out (Nat.le_refl a)]; decide⟩
      by_cases c : (230 : Int32) ≤ nI i
      · rw [if_pos c]
      · rw [if_neg c]
theorem tw_sk {n a : Nat} {items text : Nat → Int32} (H : tw_RTx n items text) (ha : a ≤ n) : ∃ b, a ≤ b ∧ b ≤ n ∧ f_X4_skipBlanks (nI a) (nI n) items = some (nI b) ∧ f_X11_here (nI n) (nI a) text = some (tw_ltr n text b, nI b) ∧ ¬ tw_ltr n text b = 32 :=
  tw_sk_loop H 1000 0 a (by omega) ha (by have := H.1; omega)
theorem tw_hr_at1 {n b : Nat} {items text : Nat → Int32} (H : tw_RTx n items text) (hb : b ≤ n) (h : ¬ tw_ltr n text b = 32) (N : Nat) : f_X11_here_0 (nI n) text (N + 1) (nI b) = some (tw_ltr n text b, nI b) := by
  have hn := H.1
  rw [f_X11_here_0]
  unfold f_X11_here_38
  by_cases c : b < n
  · rw [tw_ltr_in c] at h
    rw [if_neg (nI_ge c (by omega)), ld_in (show b < 230 by omega) (by decide), Option.bind_some, if_neg h, if_neg (nI_ge c (by omega)), Option.bind_some, tw_ltr_in c]
  · rw [if_pos (nI_le (by omega) (by omega)), if_pos (nI_le (by omega) (by omega)), tw_ltr_out (by omega)]
theorem tw_hr_at {n b : Nat} {items text : Nat → Int32} (H : tw_RTx n items text) (hb : b ≤ n) (h : ¬ tw_ltr n text b = 32) : f_X11_here (nI n) (nI b) text = some (tw_ltr n text b, nI b) := tw_hr_at1 H hb h 999
theorem tw_sk_far1 {n a : Nat} {items text : Nat → Int32} (H : tw_RTx n items text) (ha : n ≤ a) (h2 : a < 1000) (N : Nat) : f_X4_skipBlanks_2 (nI n) items (N + 1) (nI a) (0 : Int32) = some (nI a) := by
  rw [f_X4_skipBlanks_2, if_neg (by decide), tw_lh H h2, Option.bind_some, tw_ltr_out ha, if_neg (by decide)]
theorem tw_sk_far {n a : Nat} {items text : Nat → Int32} (H : tw_RTx n items text) (ha : n ≤ a) (h2 : a < 1000) : f_X4_skipBlanks (nI a) (nI n) items = some (nI a) := tw_sk_far1 H ha h2 999
theorem tw_sk_any {n a : Nat} {items text : Nat → Int32} (H : tw_RTx n items text) (ha : a ≤ n + 1) : ∃ b, b ≤ n + 1 ∧ f_X4_skipBlanks (nI a) (nI n) items = some (nI b) := by
  have hn := H.1
  by_cases h : a ≤ n
  · obtain ⟨b, h1, h2, h3, h4, h5⟩ := tw_sk H h
    exact ⟨b, by omega, h3⟩
  · exact ⟨a, ha, tw_sk_far H (by omega) (by omega)⟩
/-! a figure -/
def tw_dig (x : Int32) : Prop := ¬ x < 48 ∧ ¬ 57 < x
theorem tw_fig_t {x : Int32} (h : tw_dig x) : f_X4_isFigure x = some 1 ∧ f_X11_in (Int32.toInt64 x) (48 : Int64) (57 : Int64) = some 1 := by
  obtain ⟨h1, h2⟩ := h
  constructor
  · unfold f_X4_isFigure
    rw [if_neg h1, if_neg h2]
  · rw [show (48 : Int64) = Int32.toInt64 48 from rfl, show (57 : Int64) = Int32.toInt64 57 from rfl, in_eq, if_neg h1, if_neg h2]
theorem tw_fig_f {x : Int32} (h : ¬ tw_dig x) : f_X4_isFigure x = some 0 ∧ f_X11_in (Int32.toInt64 x) (48 : Int64) (57 : Int64) = some 0 := by
  rw [show (48 : Int64) = Int32.toInt64 48 from rfl, show (57 : Int64) = Int32.toInt64 57 from rfl, in_eq]
  unfold f_X4_isFigure
  by_cases h1 : x < 48
  · rw [if_pos h1, if_pos h1]; exact ⟨rfl, rfl⟩
  · rw [if_neg h1, if_neg h1]
    by_cases h2 : 57 < x
    · rw [if_pos h2, if_pos h2]; exact ⟨rfl, rfl⟩
    · exact absurd ⟨h1, h2⟩ h
theorem tw_dig_n {x : Nat} (hx : x < 256) (h : tw_dig (nI x)) : ∃ d, d < 10 ∧ nI x = nI (48 + d) := by
  obtain ⟨h1, h2⟩ := h
  have h1 : ¬ nI x < nI 48 := h1
  have h2 : ¬ nI 57 < nI x := h2
  rw [nI_ltI (by omega) (by decide)] at h1
  rw [nI_ltI (by decide) (by omega)] at h2
  exact ⟨x - 48, by omega, congrArg nI (by omega)⟩
theorem tw_dig_no : ¬ tw_dig (-1) := fun h => h.1 (by decide)
/-! a number -/
theorem tw_nl {n b : Nat} {items text : Nat → Int32} (H : tw_RTx n items text) {F A x1 x2 fi G B : Int32} : ∀ (N i v v' : Nat), b + i ≤ n → n < N + (b + i) → v < 1000 → v' < 1000009 → (i ≤ 3 → v = v' ∧ v < 10 ^ i) →
    ∃ m v2 v2', i ≤ m ∧ b + m ≤ n ∧ v2 < 1000 ∧ (m ≤ 3 → v2 = v2') ∧ (m = i → ¬ tw_dig (tw_ltr n text (b + i))) ∧
      f_X4_readNumber_15 (nI n) items N (nI (b + i)) F A x1 x2 fi (nI v) (nI i) = f_X4_readNumber_75 (nI (b + m)) F A x1 x2 fi (nI v2) ∧
      f_X11_takeNumber_49 (nI n) text N (nI (b + i)) fi G B (nI v') = f_X11_takeNumber_123 (nI (b + m)) fi G B (nI v2') := by
  intro N
  induction N with
  | zero => intro i v v' h1 h2; omega
  | succ N ih =>
    intro i v v' hi hN hv hv' he
    have hn := H.1
    rw [f_X4_readNumber_15, f_X11_takeNumber_49, tw_lh H (show b + i < 1000 by omega)]
    by_cases h : b + i < n
    · obtain ⟨ex, x, hx, et⟩ := H.2 (b + i) h
      rw [if_neg (show ¬ (230 : Int32) ≤ nI i from nI_ge (b := 230) (by omega) (by decide)), if_neg (nI_ge h (by omega)), ld_in (show b + i < 230 by omega) (by decide), tw_ltr_in h, et]
      simp only [Option.bind_some]
      by_cases hd : tw_dig (nI x)
      · obtain ⟨d, hd1, hd2⟩ := tw_dig_n hx hd
        rw [(tw_fig_t hd).1, (tw_fig_t hd).2, Option.bind_some, Option.bind_some, if_neg one_ne, if_neg one_ne, hd2]
        by_cases h3 : i < 3
        · obtain ⟨e1, e2⟩ := he (by omega)
          subst e1
          have hp : 10 ^ i ≤ 100 := Nat.le_trans (Nat.pow_le_pow_right (by decide) (show i ≤ 2 by omega)) (by decide)
          have hq : 10 ^ (i + 1) = 10 ^ i * 10 := Nat.pow_succ ..
          have a1 : nI v * (10 : Int32) + nI (48 + d) - (48 : Int32) = nI (v * 10 + d) := by
            rw [show (10 : Int32) = nI 10 from rfl, pk_mul, nI_add, show (48 : Int32) = nI 48 from rfl, pk_sub (by omega)]
            exact congrArg nI (by omega)
          have a2 : (10 : Int32) * nI v + nI (48 + d) - (48 : Int32) = nI (v * 10 + d) := by
            rw [show (10 : Int32) = nI 10 from rfl, pk_mul, nI_add, show (48 : Int32) = nI 48 from rfl, pk_sub (by omega)]
            exact congrArg nI (by omega)
          rw [if_neg (show ¬ (3 : Int32) ≤ nI i from nI_ge (b := 3) h3 (by decide)), if_pos (show nI v ≤ (99999 : Int32) from nI_le (b := 99999) (by omega) (by decide)), onm, onm, onm, onm, onm, a1, a2, nI_1, nI_1, Nat.add_assoc b i 1]
          obtain ⟨m, v2, v2', g1, g2, g3, g4, g5, g6, g7⟩ := ih (i + 1) (v * 10 + d) (v * 10 + d) (by omega) (by omega) (by omega) (by omega) (fun _ => ⟨rfl, by omega⟩)
          exact ⟨m, v2, v2', by omega, g2, g3, g4, fun z => absurd z (by omega), g6, g7⟩
        · rw [if_pos (show (3 : Int32) ≤ nI i from nI_le (a := 3) (by omega) (by omega)), onm, onm]
          by_cases h4 : v' ≤ 99999
          · have a2 : (10 : Int32) * nI v' + nI (48 + d) - (48 : Int32) = nI (v' * 10 + d) := by
              rw [show (10 : Int32) = nI 10 from rfl, pk_mul, nI_add, show (48 : Int32) = nI 48 from rfl, pk_sub (by omega)]
              exact congrArg nI (by omega)
            rw [if_pos (show nI v' ≤ (99999 : Int32) from nI_le (b := 99999) h4 (by decide)), onm, onm, a2, nI_1, nI_1, Nat.add_assoc b i 1]
            obtain ⟨m, v2, v2', g1, g2, g3, g4, g5, g6, g7⟩ := ih (i + 1) v (v' * 10 + d) (by omega) (by omega) hv (by omega) (fun z => absurd z (by omega))
            exact ⟨m, v2, v2', by omega, g2, g3, g4, fun z => absurd z (by omega), g6, g7⟩
          · rw [if_neg (show ¬ nI v' ≤ (99999 : Int32) from nI_ge (a := 99999) (by omega) (by omega)), onm, nI_1, nI_1, Nat.add_assoc b i 1]
            obtain ⟨m, v2, v2', g1, g2, g3, g4, g5, g6, g7⟩ := ih (i + 1) v v' (by omega) (by omega) hv hv' (fun z => absurd z (by omega))
            exact ⟨m, v2, v2', by omega, g2, g3, g4, fun z => absurd z (by omega), g6, g7⟩
      · rw [(tw_fig_f hd).1, (tw_fig_f hd).2, Option.bind_some, Option.bind_some, if_pos rfl, if_pos rfl]
        exact ⟨i, v, v', Nat.le_refl i, hi, hv, fun z => (he z).1, fun _ => hd, rfl, rfl⟩
    · rw [if_pos (nI_le (show n ≤ b + i by omega) (by omega)), tw_ltr_out (show n ≤ b + i by omega), Option.bind_some, (tw_fig_f tw_dig_no).1, Option.bind_some, if_pos rfl, ite_self]
      exact ⟨i, v, v', Nat.le_refl i, hi, hv, fun z => (he z).1, fun _ => tw_dig_no, rfl, rfl⟩
