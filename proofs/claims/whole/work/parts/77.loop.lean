/-! a tw_clause, and all of them -/
section LPT
variable {n : Nat} {items text : Nat → Int32}
theorem tw_ne3 : ¬ (3 : Int32) = 0 := by decide
theorem tw_clause {a : Nat} (H : tw_RTx n items text) (ha : a < n) (hb : ¬ text a = 32) (A fi : Int32) {u c h : Nat} (hu : u < 256) (hc : c ≤ 8) (hh : h ≤ 9) {fc : Int32} {beers fp pi sa beer cold pinched says stands : Nat → Int32} (rc : tw_RC c beers fc beer cold) (rh : tw_RH h fp pi sa pinched says stands) :
    ∃ hC FC AC cl co he fc' beers' fp' pi' sa' nA nC nH atR fi' FR AR beer' cold' pinched' says' stands',
      f_X4_readClause (nI a) 0 A (nI n) items (nI u) (nI c) (nI h) fc beers fp pi sa = some (hC, FC, AC, cl, co, he, fc', beers', fp', pi', sa') ∧
      f_X11_takeClause (nI u) (nI c) (nI h) (nI n) (nI a) fi 0 A beer cold pinched says stands text = some (nA, nC, nH, atR, fi', FR, AR, beer', cold', pinched', says', stands') ∧
      tw_OutT n (a + 1) text hC FC AC atR FR AR ∧
      (FC = 0 → ∃ u' c' h', u' < 256 ∧ c' ≤ 8 ∧ h' ≤ 9 ∧ cl = nI u' ∧ nA = nI u' ∧ co = nI c' ∧ nC = nI c' ∧ he = nI h' ∧ nH = nI h' ∧ tw_RC c' beers' fc' beer' cold' ∧ tw_RH h' fp' pi' sa' pinched' says' stands') ∧
      (∀ k, k < 8 → beer' k = beer k) ∧ (∀ k, k < 9 → pinched' k = pinched k ∧ says' k = says k) := by
  have hn := H.1
  have e0 := tw_hr_at H (Nat.le_of_lt ha) (by rw [tw_ltr_in ha]; exact hb)
  rw [tw_ltr_in ha] at e0
  have hF : ∀ F : Int32, ¬ F = 0 → 0 < F → ∀ atR, tw_OutT n (a + 1) text (nI a) F (nI a) atR F (nI a) := fun F h1 h2 atR => Or.inl ⟨h1, h2, rfl, rfl, a, by omega, rfl⟩
  unfold f_X4_readClause f_X11_takeClause
  rw [tw_lh H (show a < 1000 by omega), tw_ltr_in ha, Option.bind_some, e0, Option.bind_some]
  dsimp only
  rw [onm, onm, nI_1]
  unfold f_X4_wordFault f_X7_stands f_X11_takeClause_34 f_X11_takeClause_39
  generalize text a = x
  by_cases hu0 : u = 0
  · subst hu0
    rw [nI_0, if_pos (show (0 : Int32) = 0 from rfl), Option.bind_some, if_pos (show (0 : Int32) = 0 from rfl)]
    by_cases h1 : x = 116
    · simp only [if_pos h1]
      rw [Option.bind_some, if_pos rfl, tw_wt1, Option.bind_some]
      dsimp only
      rw [if_neg one_ne]
      obtain ⟨hC, FC, AC, cl, nA, atR, fi', FR, AR, g1, g2, g3, g4⟩ := tw_cl_all (a := a + 1) H (by omega) (Nat.le_refl (a + 1)) A fi (nI a)
      rw [g1, g2, Option.bind_some, Option.bind_some]
      dsimp only
      refine ⟨_, _, _, _, _, _, _, _, _, _, _, _, _, _, _, _, _, _, _, _, _, _, _, rfl, rfl, g3, fun z => ?_, fun k hk => rfl, fun k hk => ⟨rfl, rfl⟩⟩
      obtain ⟨u', h1, h2, h3⟩ := g4 z
      exact ⟨u', c, h, h1, hc, hh, h2, h3, rfl, rfl, rfl, rfl, rc, rh⟩
    · simp only [if_neg h1]
      rw [Option.bind_some, if_neg one_ne, tw_bl0, Option.bind_some, if_pos (show (0 : Int32) ≤ 0 by decide), tw_wt0 one_ne, Option.bind_some]
      dsimp only
      rw [if_pos rfl]
      exact ⟨_, _, _, _, _, _, _, _, _, _, _, _, _, _, _, _, _, _, _, _, _, _, _, rfl, rfl, hF 1 one_ne (by decide) _, fun z => absurd z one_ne, fun k hk => rfl, fun k hk => ⟨rfl, rfl⟩⟩
  · have hu1 : ¬ nI u = 0 := nI_ne0 (by omega) (by omega)
    rw [if_neg hu1, Option.bind_some, if_neg one_ne, if_neg (nI_nle (show 0 < u by omega) (by omega))]
    by_cases h1 : x = 116
    · have h2 : ¬ x = 99 := by rw [h1]; decide
      have h3 : ¬ x = 104 := by rw [h1]; decide
      simp only [if_pos h1, if_neg h2, if_neg h3]
      rw [Option.bind_some, if_neg tw_ne3, tw_bl0, Option.bind_some, tw_wt1, Option.bind_some]
      dsimp only
      rw [if_neg one_ne]
      unfold f_X11_takeClauses f_X11_takeClauses_13
      rw [if_neg hu1, tw_wt0 tw_ne3, Option.bind_some]
      dsimp only
      rw [if_pos rfl, Option.bind_some]
      exact ⟨_, _, _, _, _, _, _, _, _, _, _, _, _, _, _, _, _, _, _, _, _, _, _, rfl, rfl, hF 3 tw_ne3 (by decide) _, fun z => absurd z tw_ne3, fun k hk => rfl, fun k hk => ⟨rfl, rfl⟩⟩
    · simp only [if_neg h1]
      by_cases h2 : x = 99
      · simp only [if_pos h2]
        rw [tw_wt1, Option.bind_some]
        dsimp only
        rw [if_neg one_ne]
        by_cases hc8 : c < 8
        · rw [if_neg (show ¬ (8 : Int32) ≤ nI c from nI_ge (b := 8) hc8 (by decide)), Option.bind_some, if_pos rfl]
          obtain ⟨hC, FC, AC, co, fc', beers', nC, atR, fi', FR, AR, beer', cold', g1, g2, g3, g4, g5⟩ := tw_cl_cor (a := a + 1) H (by omega) (Nat.le_refl (a + 1)) A fi (nI a) hc8 rc
          rw [g1, g2, Option.bind_some, Option.bind_some]
          dsimp only
          refine ⟨_, _, _, _, _, _, _, _, _, _, _, _, _, _, _, _, _, _, _, _, _, _, _, rfl, rfl, g3, fun z => ?_, g5, fun k hk => ⟨rfl, rfl⟩⟩
          obtain ⟨h4, h5, h6⟩ := g4 z
          exact ⟨u, c + 1, h, hu, by omega, hh, rfl, rfl, h4, h5, rfl, rfl, h6, rh⟩
        · have e8 : c = 8 := by omega
          subst e8
          rw [if_pos (show (8 : Int32) ≤ nI 8 by decide), Option.bind_some, if_neg tw_ne3, tw_bl0, Option.bind_some]
          unfold f_X11_takeCorner f_X11_takeCorner_15
          rw [if_pos (show (8 : Int32) ≤ nI 8 by decide), tw_wt0 tw_ne3, Option.bind_some]
          dsimp only
          rw [if_pos rfl, Option.bind_some]
          exact ⟨_, _, _, _, _, _, _, _, _, _, _, _, _, _, _, _, _, _, _, _, _, _, _, rfl, rfl, hF 3 tw_ne3 (by decide) _, fun z => absurd z tw_ne3, fun k hk => rfl, fun k hk => ⟨rfl, rfl⟩⟩
      · simp only [if_neg h2]
        by_cases h3 : x = 104
        · simp only [if_pos h3]
          rw [tw_wt1, Option.bind_some]
          dsimp only
          rw [if_neg one_ne]
          unfold f_X11_takeClause_88
          rw [tw_wt1, Option.bind_some]
          dsimp only
          rw [if_neg one_ne]
          by_cases hh9 : h < 9
          · rw [if_neg (show ¬ (9 : Int32) ≤ nI h from nI_ge (b := 9) hh9 (by decide)), Option.bind_some, if_pos rfl]
            obtain ⟨hC, FC, AC, he, fp', pi', sa', nH, atR, fi', FR, AR, pinched', says', stands', g1, g2, g3, g4, g5⟩ := tw_cl_hea (a := a + 1) H (by omega) (Nat.le_refl (a + 1)) A fi (nI a) (nI c) hh9 rh
            rw [g1, g2, Option.bind_some, Option.bind_some]
            dsimp only
            refine ⟨_, _, _, _, _, _, _, _, _, _, _, _, _, _, _, _, _, _, _, _, _, _, _, rfl, rfl, g3, fun z => ?_, fun k hk => rfl, g5⟩
            obtain ⟨h4, h5, h6⟩ := g4 z
            exact ⟨u, c, h + 1, hu, hc, by omega, rfl, rfl, rfl, rfl, h4, h5, rc, h6⟩
          · have e9 : h = 9 := by omega
            subst e9
            rw [if_pos (show (9 : Int32) ≤ nI 9 by decide), Option.bind_some, if_neg tw_ne3, tw_bl0, Option.bind_some]
            unfold f_X11_takeHearer f_X11_takeHearer_15
            rw [if_pos (show (9 : Int32) ≤ nI 9 by decide), tw_wt0 tw_ne3, Option.bind_some]
            dsimp only
            rw [if_pos rfl, Option.bind_some]
            exact ⟨_, _, _, _, _, _, _, _, _, _, _, _, _, _, _, _, _, _, _, _, _, _, _, rfl, rfl, hF 3 tw_ne3 (by decide) _, fun z => absurd z tw_ne3, fun k hk => rfl, fun k hk => ⟨rfl, rfl⟩⟩
        · simp only [if_neg h3]
          rw [Option.bind_some, if_neg one_ne, tw_bl0, Option.bind_some, tw_wt1, Option.bind_some]
          dsimp only
          rw [if_neg one_ne]
          unfold f_X11_takeClause_88
          rw [tw_wt0 one_ne, Option.bind_some]
          dsimp only
          rw [if_pos rfl]
          exact ⟨_, _, _, _, _, _, _, _, _, _, _, _, _, _, _, _, _, _, _, _, _, _, _, rfl, rfl, hF 1 one_ne (by decide) _, fun z => absurd z one_ne, fun k hk => rfl, fun k hk => ⟨rfl, rfl⟩⟩
theorem tw_stopC {F : Int32} (hF : ¬ F = 0) (N : Nat) (here A cl co he fc x2 : Int32) (beers fp pi sa : Nat → Int32) : f_X4_readInto_25 (nI n) items (N + 1) here F A cl co he fc beers fp pi sa x2 = some (F, here, F, A, cl, co, he, fc, beers, fp, pi, sa) := by
  rw [f_X4_readInto_25, if_neg hF, ite_self, ite_self]
theorem tw_stopM {F : Int32} (hF : ¬ F = 0) (N : Nat) (al co he nA nC nH ts at' fi A um se wr : Int32) (beer cold isKept pinched says stands w : Nat → Int32) : f_X11_town_30 text (N + 1) al co he nA nC nH ts at' fi F A um se wr beer cold isKept pinched says stands w = f_X11_town_94 al co he nA nC nH ts at' fi F A um se wr beer cold isKept pinched says stands w := by
  rw [f_X11_town_30, if_neg hF]
theorem tw_loopT (H : tw_RTx n items text) {al mco mhe um se wr : Int32} {isKept w : Nat → Int32} : ∀ (N i a b u c h : Nat) (A fi fc : Int32) (beers fp pi sa beer cold pinched says stands : Nat → Int32), i ≤ a → a ≤ b → b ≤ n → n < N + a → f_X11_here (nI n) (nI a) text = some (tw_ltr n text b, nI b) → ¬ tw_ltr n text b = 32 → u < 256 → c ≤ 8 → h ≤ 9 → tw_RC c beers fc beer cold → tw_RH h fp pi sa pinched says stands →
    ∃ F A' here cl co he fc' beers' fp' pi' sa' nA nC nH at' fi' beer' cold' pinched' says' stands',
      f_X4_readInto_25 (nI n) items N (nI b) 0 A (nI u) (nI c) (nI h) fc beers fp pi sa (nI i) = some (F, here, F, A', cl, co, he, fc', beers', fp', pi', sa') ∧
      f_X11_town_30 text N al mco mhe (nI u) (nI c) (nI h) (nI n) (nI a) fi 0 A um se wr beer cold isKept pinched says stands w = f_X11_town_94 al mco mhe nA nC nH (nI n) at' fi' F A' um se wr beer' cold' isKept pinched' says' stands' w ∧
      ((F = 0 ∧ ∃ u' c' h', u' < 256 ∧ c' ≤ 8 ∧ h' ≤ 9 ∧ cl = nI u' ∧ nA = nI u' ∧ co = nI c' ∧ nC = nI c' ∧ he = nI h' ∧ nH = nI h' ∧ tw_RC c' beers' fc' beer' cold' ∧ tw_RH h' fp' pi' sa' pinched' says' stands') ∨ (¬ F = 0 ∧ 0 < F)) ∧
      (∀ k, k < 8 → beer' k = beer k) ∧ (∀ k, k < 9 → pinched' k = pinched k ∧ says' k = says k) := by
  have hn := H.1
  intro N
  induction N with
  | zero => intro i a b u c h A fi fc beers fp pi sa beer cold pinched says stands h1 h2 h3 h4; omega
  | succ N ih =>
    intro i a b u c h A fi fc beers fp pi sa beer cold pinched says stands hi hab hbn hN e0 e32 hu hc hh rc rh
    by_cases hb : b < n
    · obtain ⟨N', rfl⟩ : ∃ N', N = N' + 1 := ⟨N - 1, by omega⟩
      have hx : ¬ text b = 32 := by rw [tw_ltr_in hb] at e32; exact e32
      obtain ⟨hC, FC, AC, cl, co, he, fc', beers', fp', pi', sa', nA, nC, nH, atR, fi', FR, AR, beer', cold', pinched', says', stands', g1, g2, g3, g4, g5, g6⟩ := tw_clause H hb hx A fi hu hc hh rc rh
      have hpos : ¬ text b < 0 := by
        obtain ⟨_, x, hx, et⟩ := H.2 b hb
        rw [et]; exact nI_pos (by omega)
      rw [f_X4_readInto_25, f_X11_town_30, if_neg (show ¬ (230 : Int32) ≤ nI i from nI_ge (b := 230) (by omega) (by decide)), if_neg (nI_ge hb (by omega)), if_pos rfl, if_pos rfl, e0, g1, Option.bind_some, Option.bind_some]
      dsimp only
      rw [tw_ltr_in hb, if_neg hpos, g2, Option.bind_some]
      dsimp only
      rcases g3 with ⟨k1, k2, k3, k4, b2, k5, k6⟩ | ⟨k1, b2, k2, k3, k4, k5, k6⟩
      · subst k3 k4 k6
        obtain ⟨b3, q1, q2⟩ := tw_sk_any H k5
        rw [q2, Option.bind_some, onm, tw_stopC k1, if_neg k1, tw_stopM k1]
        exact ⟨_, _, _, _, _, _, _, _, _, _, _, _, _, _, _, _, _, _, _, _, _, rfl, rfl, Or.inr ⟨k1, k2⟩, g5, g6⟩
      · subst k1 k5
        rw [if_pos rfl, k4, Option.bind_some]
        dsimp only
        unfold f_X11_town_70
        rcases k6 with ⟨k7, k8, k9, k10⟩ | ⟨k7, k8, k9⟩
        · subst k9
          rw [if_pos k7, ← k10, tw_wt1, Option.bind_some]
          dsimp only
          obtain ⟨b3, q1, q2, q3, q4, q5⟩ := tw_sk (a := b2 + 1) H (by omega)
          rw [if_neg one_ne, onm, nI_1, q3, Option.bind_some, onm, nI_1]
          obtain ⟨u', c', h', r1, r2, r3, r4, r5, r6, r7, r8, r9, r10, r11⟩ := g4 rfl
          subst r4 r5 r6 r7 r8 r9
          obtain ⟨F2, A2, here2, cl2, co2, he2, fc2, beers2, fp2, pi2, sa2, nA2, nC2, nH2, at2, fi2, beer2, cold2, pinched2, says2, stands2, t1, t2, t3, t4, t5⟩ := ih (i + 1) (b2 + 1) b3 u' c' h' AC fi' fc' beers' fp' pi' sa' beer' cold' pinched' says' stands' (by omega) q1 q2 (by omega) q4 q5 r1 r2 r3 r10 r11
          refine ⟨F2, A2, here2, cl2, co2, he2, fc2, beers2, fp2, pi2, sa2, nA2, nC2, nH2, at2, fi2, beer2, cold2, pinched2, says2, stands2, t1, t2, t3, fun k hk => by rw [t4 k hk, g5 k hk], fun k hk => ?_⟩
          rw [(t5 k hk).1, (t5 k hk).2]
          exact g6 k hk
        · subst k8 k9
          obtain ⟨b3, q1, q2⟩ := tw_sk_any H (show b2 + 1 ≤ n + 1 by omega)
          rw [if_neg k7, tw_wt0 one_ne, Option.bind_some]
          dsimp only
          rw [if_pos rfl, q2, Option.bind_some, onm, tw_stopC one_ne, tw_stopM one_ne]
          exact ⟨_, _, _, _, _, _, _, _, _, _, _, _, _, _, _, _, _, _, _, _, _, rfl, rfl, Or.inr ⟨one_ne, by decide⟩, g5, g6⟩
    · have eb : b = n := by omega
      subst eb
      rw [f_X4_readInto_25, f_X11_town_30, if_pos (nI_le (Nat.le_refl b) (by omega)), ite_self, if_pos rfl, e0, Option.bind_some]
      dsimp only
      rw [tw_ltr_out (Nat.le_refl b), if_pos (show (-1 : Int32) < 0 by decide)]
      exact ⟨_, _, _, _, _, _, _, _, _, _, _, _, _, _, _, _, _, _, _, _, _, rfl, rfl, Or.inl ⟨rfl, u, c, h, hu, hc, hh, rfl, rfl, rfl, rfl, rfl, rfl, rc, rh⟩, fun k hk => rfl, fun k hk => ⟨rfl, rfl⟩⟩
end LPT
