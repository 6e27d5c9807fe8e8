/-! drifting -/
theorem rng {v : Nat} (hv : v < 2147483648) : ∃ v', v' < 2147483648 ∧ Int64.toInt32 (((Int32.toInt64 (nI v)) * (1103515245 : Int64) + (12345 : Int64)) &&& (2147483647 : Int64)) = nI v' ∧ (o_rmL ((Int32.toInt64 (nI v)) * (1103515245 : Int64) + (12345 : Int64)) (2147483648 : Int64)) = some (lN v') := by
  have e : (Int32.toInt64 (nI v)) * (1103515245 : Int64) + (12345 : Int64) = lN (v * 1103515245 + 12345) := by
    rw [nI_l (by omega), show (1103515245 : Int64) = lN 1103515245 from rfl, show (12345 : Int64) = lN 12345 from rfl, lN_mul, lN_add]
  rw [e]
  refine ⟨(v * 1103515245 + 12345) % 2147483648, by omega, ?_, ?_⟩
  · have a : lN (v * 1103515245 + 12345) &&& (2147483647 : Int64) = lN ((v * 1103515245 + 12345) % 2147483648) := by
      apply Int64.toBitVec_inj.mp
      rw [Int64.toBitVec_and]
      show BitVec.ofNat 64 (v * 1103515245 + 12345) &&& BitVec.ofNat 64 2147483647 = BitVec.ofNat 64 ((v * 1103515245 + 12345) % 2147483648)
      apply BitVec.eq_of_toNat_eq
      rw [BitVec.toNat_and, BitVec.toNat_ofNat, BitVec.toNat_ofNat, BitVec.toNat_ofNat, Nat.mod_eq_of_lt (show v * 1103515245 + 12345 < 2 ^ 64 by omega), Nat.mod_eq_of_lt (show 2147483647 < 2 ^ 64 by decide), Nat.mod_eq_of_lt (show (v * 1103515245 + 12345) % 2147483648 < 2 ^ 64 by omega)]
      exact Nat.and_two_pow_sub_one_eq_mod (v * 1103515245 + 12345) 31
    rw [a, lN_i]
  · unfold o_rmL
    rw [if_neg (by decide), show (2147483648 : Int64) = lN 2147483648 from rfl, pk_lRem (by omega) (by decide) (by decide)]
theorem draw1 {v m : Nat} (hv : v < 2147483648) (hm : 0 < m) (hm2 : m < 1000) : ∃ v' q, v' < 2147483648 ∧ q < m ∧ f_X1_next (nI v) (nI m) = some (nI q, nI v') ∧ ∀ w : Nat → Int32, w 16 = nI v → f_X11_draw w (nI m) = some (nI q, upd w 16 (nI v')) := by
  obtain ⟨v', h1, h2, h3⟩ := rng hv
  have d : o_dv (nI v') (65536 : Int32) = some (nI (v' / 65536)) := by
    unfold o_dv
    rw [if_neg (by decide), show (65536 : Int32) = nI 65536 from rfl, pk_div (by omega) (by decide) (by decide)]
  have r : o_rm (nI (v' / 65536)) (nI m) = some (nI (v' / 65536 % m)) := by
    unfold o_rm
    rw [if_neg (nI_ne0 hm (by omega)), pk_rem (by omega) hm (by omega)]
  refine ⟨v', v' / 65536 % m, h1, Nat.mod_lt _ hm, ?_, fun w hw => ?_⟩
  · unfold f_X1_next
    rw [h2, onm, if_neg (nI_nle hm (by omega)), d, Option.bind_some, r, Option.bind_some]
  · unfold f_X11_draw
    rw [(l_w w).2.2.2.2.2.2.2, Option.bind_some, hw, h3, Option.bind_some, lN_i, (s_w w _).2.2.2.2.2.2.2, Option.bind_some, (l_w _).2.2.2.2.2.2.2, Option.bind_some, upd_s, d, Option.bind_some, r, Option.bind_some]
theorem pass1 {h : Nat} {rounds months law holds hoarse keptIn colds : Int32} {places w : Nat → Int32} (hh : h ≤ 9) (hN : RS h (srow rounds months law holds hoarse keptIn colds) places w 0) : ∃ w', f_X11_passMonth w = some w' ∧ RS h (srow rounds (months + 1) law holds 0 keptIn colds) places w' 0 ∧ ∀ j, 16 ≤ j → w' j = w j := by
  obtain ⟨n0, n1, n2, n3, n4, n5, n6, n7, n8⟩ := rs_now hN
  unfold f_X11_passMonth
  rw [(s_w w 0).1, Option.bind_some, (l_w _).2.2.2.2.1, Option.bind_some, (s_w _ _).2.2.2.2.1, Option.bind_some]
  have e13 : upd w 9 (0 : Int32) 13 = months := by rw [upd_n _ _ (by decide), n1]
  rw [e13]
  refine ⟨_, rfl, rs_mk0 ?_ ?_ ?_ ?_ ?_ ?_ ?_ (fun j hj => ?_) ⟨0, by decide, rfl⟩, fun j hj => ?_⟩
  · rw [upd_n _ _ (by decide), upd_n _ _ (by decide)]; exact n0
  · rw [upd_s]
  · rw [upd_n _ _ (by decide), upd_n _ _ (by decide)]; exact n2
  · rw [upd_n _ _ (by decide), upd_n _ _ (by decide)]; exact n3
  · rw [upd_n _ _ (by decide), upd_s]
  · rw [upd_n _ _ (by decide), upd_n _ _ (by decide)]; exact n5
  · rw [upd_n _ _ (by decide), upd_n _ _ (by decide)]; exact n6
  · rw [upd_n _ _ (by omega), upd_n _ _ (by omega)]; exact n7 j hj
  · rw [upd_n _ _ (by omega), upd_n _ _ (by omega)]
section DRF
variable {u c h : Nat} {keptIn colds : Int32} {places pinches sayings pinched says : Nat → Int32}
theorem drift1 (hu : u < 256) (hc : c ≤ 8) (hh : h ≤ 9) (hT : TR h pinches sayings pinched says) {N i : Nat} (hi : i < N) (hN2 : N < 1000) {cs cl cd ch csp cho dv rounds months law holds hoarse next count sp hq und : Int32} {S SP : Nat → Nat → Int32} {w : Nat → Int32} (hN : RS h (srow rounds months law holds hoarse keptIn colds) places w 0) (hS : dv = w 16 ∧ ∃ v, v < 2147483648 ∧ dv = nI v) (hP : RP h next count S SP und w) :
    ∃ (a1 a2 a3 a4 a5 a6 dv' rounds' months' law' holds' hoarse' next' count' : Int32) (SP' S' : Nat → Nat → Int32) (sp' hq' und' : Int32) (w' : Nat → Int32),
      f_X10_driftOneMonth cs cl cd ch csp cho dv rounds months law holds hoarse keptIn colds next count (nI u) (nI c) (nI h) places pinches sayings SP S = some (a1, a2, a3, a4, a5, a6, dv', rounds', months', law', holds', hoarse', next', count', SP', S') ∧
      (∀ n, f_X11_drift_56 (nI u) (nI c) (nI h) pinched says (n + 1) sp hq und w (nI N) (nI i) = f_X11_drift_56 (nI u) (nI c) (nI h) pinched says n sp' hq' und' w' (nI N) (nI (i + 1))) ∧
      RS h (srow rounds' months' law' holds' hoarse' keptIn colds) places w' 0 ∧ (dv' = w' 16 ∧ ∃ v, v < 2147483648 ∧ dv' = nI v) ∧ RP h next' count' S' SP' und' w' ∧ ∀ j, (17 ≤ j ∧ j < 68) → w' j = w j := by
  obtain ⟨next', count', SP', S', und', w1, e1, e2, e3, e4⟩ := rem hh hN hP
  have hN1 : RS h (srow rounds months law holds hoarse keptIn colds) places w1 0 := rs_w hh (fun j hj => e4 _ (by omega)) hN
  obtain ⟨hS1, v, hv, rfl⟩ := hS
  have E : ∀ n, f_X11_drift_56 (nI u) (nI c) (nI h) pinched says (n + 1) sp hq und w (nI N) (nI i) = if nI c ≤ 0 then (f_X11_drift_107 (nI u) (nI c) (nI h) pinched says (f_X11_drift_56 (nI u) (nI c) (nI h) pinched says n) sp hq und' w1 (nI N) (nI i)) else ((f_X11_draw w1 (256 : Int32)).bind fun o7 => o_nm ((o7.1 &&& nI u)) fun v8 => (f_X11_draw o7.2 (nI c)).bind fun o9 => (f_X11_draw o9.2 (2 : Int32)).bind fun o10 => (f_X11_roundNow (nI u) (nI c) (nI h) sp hq pinched says o10.2 v8 o9.1 o10.1).bind fun o11 => f_X11_drift_107 (nI u) (nI c) (nI h) pinched says (f_X11_drift_56 (nI u) (nI c) (nI h) pinched says n) o11.1 o11.2.1 und' o11.2.2 (nI N) (nI i)) := by
    intro n
    rw [f_X11_drift_56, if_neg (nI_ge hi (by omega)), e2, Option.bind_some]
  unfold f_X10_driftOneMonth
  rw [e1, Option.bind_some]
  by_cases hc0 : c = 0
  · subst hc0
    rw [if_pos (show nI 0 ≤ (0 : Int32) by decide)]
    obtain ⟨w2, p1, p2, p3⟩ := pass1 hh hN1
    refine ⟨_, _, _, _, _, _, _, _, _, _, _, _, _, _, _, _, sp, hq, und', w2, rfl, fun n => ?_, p2, ⟨by rw [p3 16 (by omega), e4 16 (by omega)]; exact hS1, v, hv, rfl⟩, rp_w hh (fun j hj => p3 j (by omega)) e3, fun j hj => by rw [p3 j (by omega), e4 j hj.2]⟩
    rw [E n, if_pos (show nI 0 ≤ (0 : Int32) by decide)]
    unfold f_X11_drift_107
    rw [p1, Option.bind_some, onm, nI_1]
  · rw [if_neg (nI_nle (show 0 < c by omega) (by omega))]
    obtain ⟨v1, q1, a1, a2, a3, a4⟩ := draw1 (v := v) (m := 256) hv (by decide) (by decide)
    obtain ⟨v2, q2, b1, b2, b3, b4⟩ := draw1 (v := v1) (m := c) a1 (by omega) (by omega)
    obtain ⟨v3, q3, c1, c2, c3, c4⟩ := draw1 (v := v2) (m := 2) b1 (by decide) (by decide)
    have a3 : f_X1_next (nI v) (256 : Int32) = some (nI q1, nI v1) := a3
    have c3 : f_X1_next (nI v2) (2 : Int32) = some (nI q3, nI v3) := c3
    have w16 : w1 16 = nI v := by rw [e4 16 (by omega), ← hS1]
    have a5 : f_X11_draw w1 (256 : Int32) = some (nI q1, upd w1 16 (nI v1)) := a4 w1 w16
    have b5 := b4 (upd w1 16 (nI v1)) (upd_s _ _ _)
    have c5 : f_X11_draw (upd (upd w1 16 (nI v1)) 16 (nI v2)) (2 : Int32) = some (nI q3, upd (upd (upd w1 16 (nI v1)) 16 (nI v2)) 16 (nI v3)) := c4 _ (upd_s _ _ _)
    rw [upd_upd, upd_upd] at c5
    rw [upd_upd] at b5
    obtain ⟨d, hd, ed⟩ := small_and (d := u) (n := 8) hu (by decide) (nI q1)
    rw [and_cm] at ed
    have hN3 : RS h (srow rounds months law holds hoarse keptIn colds) places (upd w1 16 (nI v3)) 0 := rs_w hh (fun j hj => upd_n _ _ (by omega)) hN1
    obtain ⟨g1, g2, g4, g5, g6, rounds', law', holds', hoarse', w4, f1, f2, f3, f4⟩ := send (cs := cs) (cl := cl) (cd := cd) (ch := ch) (csp := csp) (cho := cho) (sp := sp) (hq := hq) (way := nI q3) hu hc hh hT hd b2 hN3
    obtain ⟨w5, p1, p2, p3⟩ := pass1 hh f3
    rw [a3, Option.bind_some, onm, ed, b3, Option.bind_some, c3, Option.bind_some, f1, Option.bind_some]
    refine ⟨_, _, _, _, _, _, _, _, _, _, _, _, _, _, _, _, g5, holds', und', w5, rfl, fun n => ?_, p2, ⟨by rw [p3 16 (by omega), f4 16 (by omega), upd_s], v3, c1, rfl⟩, rp_w hh (fun j hj => by rw [p3 j (by omega), f4 j (by omega), upd_n _ _ (by omega)]) e3, fun j hj => by rw [p3 j (by omega), f4 j (by omega), upd_n _ _ (by omega), e4 j hj.2]⟩
    rw [E n, if_neg (nI_nle (show 0 < c by omega) (by omega)), a5, Option.bind_some, onm, ed, b5, Option.bind_some, c5, Option.bind_some, f2, Option.bind_some]
    unfold f_X11_drift_107
    rw [p1, Option.bind_some, onm, nI_1]
theorem drift2 (hu : u < 256) (hc : c ≤ 8) (hh : h ≤ 9) (hT : TR h pinches sayings pinched says) {N : Nat} (hN2 : N < 1000) : ∀ (n i : Nat) (cs cl cd ch csp cho dv rounds months law holds hoarse next count sp hq und : Int32) (S SP : Nat → Nat → Int32) (w : Nat → Int32), i ≤ N → N < n + i → RS h (srow rounds months law holds hoarse keptIn colds) places w 0 → (dv = w 16 ∧ ∃ v, v < 2147483648 ∧ dv = nI v) → RP h next count S SP und w →
    ∃ (r a1 a2 a3 a4 a5 a6 dv' rounds' months' law' holds' hoarse' next' count' : Int32) (SP' S' : Nat → Nat → Int32) (sp' hq' und' : Int32) (w' : Nat → Int32),
      f_X10_drift_58 keptIn colds (nI u) (nI c) (nI h) places pinches sayings n cs cl cd ch csp cho dv rounds months law holds hoarse next count SP S (nI N) (nI i) = some (r, a1, a2, a3, a4, a5, a6, dv', rounds', months', law', holds', hoarse', next', count', SP', S') ∧
      f_X11_drift_56 (nI u) (nI c) (nI h) pinched says n sp hq und w (nI N) (nI i) = some (r, sp', hq', und', w') ∧
      RS h (srow rounds' months' law' holds' hoarse' keptIn colds) places w' 0 ∧ (dv' = w' 16 ∧ ∃ v, v < 2147483648 ∧ dv' = nI v) ∧ RP h next' count' S' SP' und' w' ∧ ∀ j, (17 ≤ j ∧ j < 68) → w' j = w j := by
  intro n
  induction n with
  | zero => intro i cs cl cd ch csp cho dv rounds months law holds hoarse next count sp hq und S SP w h1 h2; omega
  | succ n ih =>
    intro i cs cl cd ch csp cho dv rounds months law holds hoarse next count sp hq und S SP w hi hn hN hS hP
    by_cases hlt : i < N
    · obtain ⟨a1, a2, a3, a4, a5, a6, dv', rounds', months', law', holds', hoarse', next', count', SP', S', sp', hq', und', w', b1, b2, b3, b4, b5, b6⟩ := drift1 (cs := cs) (cl := cl) (cd := cd) (ch := ch) (csp := csp) (cho := cho) (sp := sp) (hq := hq) hu hc hh hT hlt hN2 hN hS hP
      obtain ⟨r, c1, c2, c3, c4, c5, c6, dv2, rounds2, months2, law2, holds2, hoarse2, next2, count2, SP2, S2, sp2, hq2, und2, w2, d1, d2, d3, d4, d5, d6⟩ := ih (i + 1) a1 a2 a3 a4 a5 a6 dv' rounds' months' law' holds' hoarse' next' count' sp' hq' und' S' SP' w' (by omega) (by omega) b3 b4 b5
      refine ⟨r, c1, c2, c3, c4, c5, c6, dv2, rounds2, months2, law2, holds2, hoarse2, next2, count2, SP2, S2, sp2, hq2, und2, w2, ?_, ?_, d3, d4, d5, fun j hj => by rw [d6 j hj, b6 j hj]⟩
      · rw [f_X10_drift_58, if_neg (nI_ge hlt (by omega)), b1, Option.bind_some, onm, nI_1]
        exact d1
      · rw [b2 n]; exact d2
    · have e : i = N := by omega
      subst e
      rw [f_X10_drift_58, f_X11_drift_56, if_pos (nI_le (Nat.le_refl i) (by omega)), if_pos (nI_le (Nat.le_refl i) (by omega)), (l_w w).2.2.2.2.2.1, Option.bind_some, ← (rs_now hN).2.2.1]
      exact ⟨_, _, _, _, _, _, _, _, _, _, _, _, _, _, _, _, _, _, _, _, _, rfl, rfl, hN, hS, hP, fun j _ => rfl⟩
theorem q_drift (hu : u < 256) (hc : c ≤ 8) (hh : h ≤ 9) (hT : TR h pinches sayings pinched says) {cs cl cd ch csp cho dv rounds months law holds hoarse next count sp hq und : Int32} {S SP : Nat → Nat → Int32} {w : Nat → Int32} (hN : RS h (srow rounds months law holds hoarse keptIn colds) places w 0) (hS : dv = w 16 ∧ ∃ v, v < 2147483648 ∧ dv = nI v) (hP : RP h next count S SP und w) (y : Int32) :
    ∃ (r a1 a2 a3 a4 a5 a6 dv' rounds' months' law' holds' hoarse' next' count' : Int32) (SP' S' : Nat → Nat → Int32) (sp' hq' und' : Int32) (w' : Nat → Int32),
      f_X10_drift cs cl cd ch csp cho dv rounds months law holds hoarse keptIn colds next count (nI u) (nI c) (nI h) places pinches sayings SP S y = some (r, a1, a2, a3, a4, a5, a6, dv', rounds', months', law', holds', hoarse', next', count', SP', S') ∧
      f_X11_drift (nI u) (nI c) (nI h) sp hq und pinched says w y = some (r, sp', hq', und', w') ∧
      RS h (srow rounds' months' law' holds' hoarse' keptIn colds) places w' 0 ∧ (dv' = w' 16 ∧ ∃ v, v < 2147483648 ∧ dv' = nI v) ∧ RP h next' count' S' SP' und' w' ∧ ∀ j, (17 ≤ j ∧ j < 68) → w' j = w j := by
  obtain ⟨n0, n1, n2, n3, n4, n5, n6, n7, n8⟩ := rs_now hN
  unfold f_X10_drift f_X11_drift f_X7_stands
  rcases in1 (n := 20) (by decide) (B := 20) rfl y with ⟨h1, h2⟩ | ⟨k, hk1, hk, rfl, g1, g2, h1⟩
  · rw [h1, Option.bind_some, if_pos rfl]
    rcases h2 with h2 | ⟨h2, h3⟩
    · rw [if_pos h2]
      exact ⟨_, _, _, _, _, _, _, _, _, _, _, _, _, _, _, _, _, _, _, _, _, rfl, rfl, hN, hS, hP, fun j _ => rfl⟩
    · rw [if_neg h2, if_neg (show ¬ y ≤ (20 : Int32) from h3)]
      exact ⟨_, _, _, _, _, _, _, _, _, _, _, _, _, _, _, _, _, _, _, _, _, rfl, rfl, hN, hS, hP, fun j _ => rfl⟩
  · rw [h1, Option.bind_some, if_neg one_ne, if_neg g1, if_pos (show nI k ≤ (20 : Int32) from g2)]
    by_cases c0 : nI u = 0
    · rw [if_pos c0, if_pos c0, Option.bind_some, if_pos rfl]
      exact ⟨_, _, _, _, _, _, _, _, _, _, _, _, _, _, _, _, _, _, _, _, _, rfl, rfl, hN, hS, hP, fun j _ => rfl⟩
    · rw [if_neg c0, if_neg c0, Option.bind_some, if_neg one_ne, (l_w w).2.2.2.1, Option.bind_some, ← n0]
      by_cases c1 : (9000 : Int32) < rounds
      · rw [if_pos c1, if_pos c1]
        exact ⟨_, _, _, _, _, _, _, _, _, _, _, _, _, _, _, _, _, _, _, _, _, rfl, rfl, hN, hS, hP, fun j _ => rfl⟩
      · rw [if_neg c1, if_neg c1, (l_w w).2.2.2.2.1, Option.bind_some, ← n1]
        by_cases c2 : months ≤ (9000 : Int32)
        · rw [if_pos c2, if_pos c2]
          exact drift2 hu hc hh hT (show k < 1000 by omega) 1000 0 _ _ _ _ _ _ _ _ _ _ _ _ _ _ _ _ _ _ _ _ (by omega) (by omega) hN hS hP
        · rw [if_neg c2, if_neg c2]
          exact ⟨_, _, _, _, _, _, _, _, _, _, _, _, _, _, _, _, _, _, _, _, _, rfl, rfl, hN, hS, hP, fun j _ => rfl⟩
end DRF
