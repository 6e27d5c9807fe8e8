/-! the first fault stays -/
theorem tw_bl0 (A x y : Int32) : f_X4_blame 0 A x y = some (x, y) := by unfold f_X4_blame; rw [if_pos rfl]
theorem tw_blF {F : Int32} (h : ¬ F = 0) (A x y : Int32) : f_X4_blame F A x y = some (F, A) := by unfold f_X4_blame; rw [if_neg h]
theorem tw_wt1 (A x y : Int32) : f_X11_want 0 A 1 x y = some (1, 0, A) := by unfold f_X11_want f_X11_want_21; rw [if_neg one_ne, if_pos rfl]
theorem tw_wt0 {x : Int32} (h : ¬ x = 0) (A y : Int32) : f_X11_want 0 A 0 x y = some (0, x, y) := by unfold f_X11_want f_X11_want_21; rw [if_pos rfl, if_pos rfl, if_neg h]
theorem tw_wtF {F : Int32} (h : ¬ F = 0) (A s x y : Int32) : f_X11_want F A s x y = some (0, F, A) := by
  unfold f_X11_want f_X11_want_21
  rw [if_neg h, if_neg h, ite_self]
theorem tw_nl0 {n b : Nat} {items text : Nat → Int32} (H : tw_RTx n items text) (hb : b ≤ n) (hd : ¬ tw_dig (tw_ltr n text b)) {F A x1 x2 fi x4 : Int32} (N : Nat) : f_X4_readNumber_15 (nI n) items (N + 1) (nI b) F A x1 x2 fi x4 (0 : Int32) = f_X4_readNumber_75 (nI b) F A x1 x2 fi x4 := by
  have hn := H.1
  rw [f_X4_readNumber_15, if_neg (by decide), tw_lh H (by omega), Option.bind_some, (tw_fig_f hd).1, Option.bind_some, if_pos rfl]
theorem tw_tkF {F : Int32} (hF : 0 < F) (h : ¬ F = 0) (s a fi A lo hi : Int32) (text : Nat → Int32) : f_X11_takeIn s a fi F A text lo hi = some (0, a, fi, F, A) := by
  have h2 : ¬ F ≤ 0 := fun z => by
    have a := Int32.lt_iff_toInt_lt.mp hF
    have b := Int32.le_iff_toInt_le.mp z
    omega
  unfold f_X11_takeIn f_X11_takeNumber
  rw [if_neg h2, Option.bind_some]
  dsimp only
  rw [if_pos hF]
  unfold f_X11_takeIn_25 f_X11_takeIn_30
  rw [tw_wtF h, Option.bind_some]
theorem tw_r75 {m b : Nat} {F A lo hi : Int32} {v : Int32} : f_X4_readNumber_75 (nI (b + m)) F A lo hi (nI b) v = if nI m = 0 then ((f_X4_blame F A 1 (nI b)).bind fun o7 => some (v, nI (b + m), o7.1, o7.2)) else if (3 : Int32) < nI m then (f_X4_readNumber_115 (nI (b + m)) F A (nI b) v) else if v < lo then (f_X4_readNumber_115 (nI (b + m)) F A (nI b) v) else if v ≤ hi then some (v, nI (b + m), F, A) else (f_X4_readNumber_115 (nI (b + m)) F A (nI b) v) := by
  unfold f_X4_readNumber_75
  rw [onm, pk_sub (Nat.le_add_right b m), Nat.add_sub_cancel_left]
theorem tw_r115 (F A a b v : Int32) : f_X4_readNumber_115 a F A b v = if F = 0 then some (v, a, 2, b) else some (v, a, F, A) := by
  unfold f_X4_readNumber_115 f_X4_blame
  by_cases h : F = 0
  · rw [if_pos h, if_pos h, Option.bind_some]
  · rw [if_neg h, if_neg h, Option.bind_some]
theorem tw_num {n a : Nat} {items text : Nat → Int32} (H : tw_RTx n items text) (ha : a ≤ n) (A lo hi fi : Int32) :
    (∃ (v b : Nat) (ffi : Int32), v < 1000 ∧ ¬ nI v < lo ∧ ¬ hi < nI v ∧ a ≤ b ∧ b ≤ n ∧ f_X4_readNumber (nI a) 0 A (nI n) items lo hi = some (nI v, nI b, 0, A) ∧ f_X11_takeIn (nI n) (nI a) fi 0 A text lo hi = some (nI v, nI b, ffi, 0, A)) ∨
    (∃ (F P v : Int32) (b : Nat) (v' at' ffi : Int32), ¬ F = 0 ∧ 0 < F ∧ b ≤ n ∧ f_X4_readNumber (nI a) 0 A (nI n) items lo hi = some (v, nI b, F, P) ∧ f_X11_takeIn (nI n) (nI a) fi 0 A text lo hi = some (v', at', ffi, F, P)) := by
  have hn := H.1
  obtain ⟨b, h1, h2, h3, h4, h5⟩ := tw_sk H ha
  unfold f_X4_readNumber f_X11_takeIn f_X11_takeNumber
  rw [h3, Option.bind_some, if_pos (show (0 : Int32) ≤ 0 by decide), h4, Option.bind_some]
  dsimp only
  by_cases hd : tw_dig (tw_ltr n text b)
  · rw [(tw_fig_t hd).2, Option.bind_some, tw_wt1, Option.bind_some]
    dsimp only
    rw [if_neg one_ne]
    obtain ⟨m, v2, v2', g1, g2, g3, g4, g5, g6, g7⟩ := tw_nl (b := b) (F := 0) (A := A) (x1 := lo) (x2 := hi) (fi := nI b) (G := 0) (B := A) H 1000 0 0 0 (by omega) (by omega) (by omega) (by omega) (fun _ => ⟨rfl, by decide⟩)
    simp only [Nat.add_zero, nI_0] at g5 g6 g7
    have hm : 0 < m := Nat.pos_of_ne_zero fun z => g5 z hd
    rw [g6, g7, tw_r75, if_neg (nI_ne0 hm (by omega))]
    unfold f_X11_takeNumber_123
    rw [pk_sub (Nat.le_add_right b m), Nat.add_sub_cancel_left]
    unfold f_X11_takeNumber_142
    by_cases c3 : m ≤ 3
    · have ev := g4 c3
      subst ev
      rw [if_neg (show ¬ (3 : Int32) < nI m from nI_nlt (a := 3) c3 (by decide)), if_neg (show ¬ (4 : Int32) ≤ nI m from nI_ge (b := 4) (by omega) (by decide)), tw_wt1, Option.bind_some, Option.bind_some]
      dsimp only
      rw [if_neg (show ¬ (0 : Int32) < 0 by decide), in_eq, Option.bind_some, tw_r115, if_pos rfl]
      unfold f_X11_takeIn_25 f_X11_takeIn_30
      by_cases c1 : nI v2 < lo
      · right
        rw [if_pos c1, if_pos c1, if_pos rfl, tw_wt0 (by decide), Option.bind_some]
        exact ⟨_, _, _, _, _, _, _, by decide, by decide, g2, rfl, rfl⟩
      · rw [if_neg c1, if_neg c1]
        by_cases c2 : hi < nI v2
        · right
          rw [if_neg (Int32.not_le.mpr c2), if_pos c2, if_pos rfl, tw_wt0 (by decide), Option.bind_some]
          exact ⟨_, _, _, _, _, _, _, by decide, by decide, g2, rfl, rfl⟩
        · left
          rw [if_pos (Int32.not_lt.mp c2), if_neg c2, if_neg one_ne, tw_wt1, Option.bind_some]
          exact ⟨v2, b + m, _, g3, c1, c2, by omega, g2, rfl, rfl⟩
    · right
      rw [if_pos (show (3 : Int32) < nI m from nI_lt (a := 3) (by omega) (by omega)), if_pos (show (4 : Int32) ≤ nI m from nI_le (a := 4) (by omega) (by omega)), tw_wt0 (by decide), Option.bind_some, Option.bind_some, tw_r115, if_pos rfl]
      dsimp only
      rw [if_pos (show (0 : Int32) < 2 by decide)]
      unfold f_X11_takeIn_25 f_X11_takeIn_30
      rw [tw_wtF (by decide), Option.bind_some]
      exact ⟨_, _, _, _, _, _, _, by decide, by decide, g2, rfl, rfl⟩
  · right
    have e := tw_nl0 (F := 0) (A := A) (x1 := lo) (x2 := hi) (fi := nI b) (x4 := 0) H h2 hd 999
    rw [show (999 + 1 : Nat) = 1000 from rfl] at e
    have e2 : f_X4_readNumber_75 (nI b) 0 A lo hi (nI b) (0 : Int32) = some (0, nI b, 1, nI b) := by
      have e3 := tw_r75 (m := 0) (b := b) (F := 0) (A := A) (lo := lo) (hi := hi) (v := 0)
      rw [Nat.add_zero, nI_0, if_pos rfl, tw_bl0, Option.bind_some] at e3
      exact e3
    rw [e, e2, (tw_fig_f hd).2, Option.bind_some, tw_wt0 (by decide), Option.bind_some]
    dsimp only
    rw [if_pos rfl, Option.bind_some]
    dsimp only
    rw [if_pos (show (0 : Int32) < 1 by decide)]
    unfold f_X11_takeIn_25 f_X11_takeIn_30
    rw [tw_wtF (by decide), Option.bind_some]
    exact ⟨_, _, _, _, _, _, _, by decide, by decide, h2, rfl, rfl⟩
theorem tw_numF {n a : Nat} {items text : Nat → Int32} (H : tw_RTx n items text) (ha : a ≤ n) {F : Int32} (hF : ¬ F = 0) (A lo hi : Int32) : ∃ v b, b ≤ n ∧ f_X4_readNumber (nI a) F A (nI n) items lo hi = some (v, nI b, F, A) := by
  have hn := H.1
  obtain ⟨b, h1, h2, h3, h4, h5⟩ := tw_sk H ha
  unfold f_X4_readNumber
  rw [h3, Option.bind_some]
  obtain ⟨m, v2, v2', g1, g2, g3, g4, g5, g6, g7⟩ := tw_nl (b := b) (F := F) (A := A) (x1 := lo) (x2 := hi) (fi := nI b) (G := 0) (B := A) H 1000 0 0 0 (by omega) (by omega) (by omega) (by omega) (fun _ => ⟨rfl, by decide⟩)
  simp only [Nat.add_zero, nI_0] at g6
  refine ⟨nI v2, b + m, g2, ?_⟩
  rw [g6, tw_r75, tw_r115, if_neg hF, tw_blF hF, Option.bind_some]
  dsimp only
  simp only [ite_self]
/-! the end of a tw_clause -/
def tw_OutT (n a : Nat) (text : Nat → Int32) (hC FC AC atR FR AR : Int32) : Prop :=
  (¬ FR = 0 ∧ 0 < FR ∧ FC = FR ∧ AC = AR ∧ ∃ b, b ≤ n + 1 ∧ hC = nI b) ∨
  (FR = 0 ∧ ∃ b, a ≤ b ∧ b ≤ n ∧ f_X11_here (nI n) atR text = some (tw_ltr n text b, nI b) ∧ hC = nI (b + 1) ∧ ((tw_ltr n text b = 59 ∧ b < n ∧ FC = 0 ∧ AC = AR) ∨ (¬ tw_ltr n text b = 59 ∧ FC = 1 ∧ AC = nI b)))
theorem tw_out0 {n a a0 : Nat} {items text : Nat → Int32} (H : tw_RTx n items text) (ha : a ≤ n) (h0 : a0 ≤ a) (A : Int32) : ∃ hC FC AC, f_X4_readEnd (nI a) 0 A (nI n) items = some (hC, FC, AC) ∧ tw_OutT n a0 text hC FC AC (nI a) 0 A := by
  have hn := H.1
  obtain ⟨b, h1, h2, h3, h4, h5⟩ := tw_sk H ha
  unfold f_X4_readEnd
  rw [h3, Option.bind_some, tw_lh H (by omega), Option.bind_some]
  by_cases c : tw_ltr n text b = 59
  · rw [if_pos c, onm, nI_1]
    refine ⟨_, _, _, rfl, Or.inr ⟨rfl, b, by omega, h2, h4, rfl, Or.inl ⟨c, ?_, rfl, rfl⟩⟩⟩
    by_cases z : b < n
    · exact z
    · rw [tw_ltr_out (by omega)] at c
      exact absurd c (by decide)
  · rw [if_neg c, tw_bl0, Option.bind_some, onm, nI_1]
    exact ⟨_, _, _, rfl, Or.inr ⟨rfl, b, by omega, h2, h4, rfl, Or.inr ⟨c, rfl, rfl⟩⟩⟩
theorem tw_outF {n b : Nat} {items text : Nat → Int32} (H : tw_RTx n items text) (hb : b ≤ n) {F : Int32} (hF : ¬ F = 0) (hF2 : 0 < F) (A : Int32) (a0 : Nat) (atR : Int32) : ∃ hC, f_X4_readEnd (nI b) F A (nI n) items = some (hC, F, A) ∧ tw_OutT n a0 text hC F A atR F A := by
  have hn := H.1
  obtain ⟨b2, h1, h2, h3, h4, h5⟩ := tw_sk H hb
  unfold f_X4_readEnd
  rw [h3, Option.bind_some, tw_lh H (by omega), Option.bind_some]
  refine ⟨nI (b2 + 1), ?_, Or.inl ⟨hF, hF2, rfl, rfl, b2 + 1, by omega, rfl⟩⟩
  by_cases c : tw_ltr n text b2 = 59
  · rw [if_pos c, onm, nI_1]
  · rw [if_neg c, tw_blF hF, Option.bind_some, onm, nI_1]
