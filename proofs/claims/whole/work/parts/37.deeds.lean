/-! the calls that change the state by hand -/
theorem q_month {h u : Nat} {next count und rounds months law holds hoarse keptIn colds : Int32} {S SP : Nat → Nat → Int32} {places w : Nat → Int32} (hu : u < 256) (hh : h ≤ 9) (hN : RS h (srow rounds months law holds hoarse keptIn colds) places w 0) (hP : RP h next count S SP und w) :
    ∃ r months' hoarse' next' count' SP' S' und' w', f_X10_month rounds months law holds hoarse keptIn colds next count (nI u) places SP S = some (r, months', hoarse', next', count', SP', S') ∧ f_X11_month (nI u) und w = some (r, und', w') ∧ RS h (srow rounds months' law holds hoarse' keptIn colds) places w' 0 ∧ RP h next' count' S' SP' und' w' ∧ ∀ j, (16 ≤ j ∧ j < 68) → w' j = w j := by
  obtain ⟨n0, n1, n2, n3, n4, n5, n6, n7, x, hx, n8⟩ := rs_now hN
  obtain ⟨l9, l10, l11, l12, l13, l14, l15, l16⟩ := l_w w
  unfold f_X10_month f_X11_month f_X7_stands
  by_cases c0 : nI u = 0
  · rw [if_pos c0, if_pos c0, Option.bind_some, if_pos rfl]
    exact ⟨_, _, _, _, _, _, _, _, _, rfl, rfl, hN, hP, fun j _ => rfl⟩
  · rw [if_neg c0, if_neg c0, Option.bind_some, if_neg one_ne, l13, Option.bind_some, ← n1]
    by_cases c1 : months ≤ (9000 : Int32)
    · rw [if_pos c1, if_pos c1]
      obtain ⟨next', count', SP', S', und', w', e1, e2, e3, e4⟩ := rem hh hN hP
      obtain ⟨k9, k10, k11, k12, k13, k14, k15, k16⟩ := l_w w'
      rw [e1, e2, n8, (pc_all x hx).1]
      simp only [Option.bind_some]
      rw [k9, Option.bind_some, e4 9 (by omega), ← n4, n8, (pc_all x hx).2.1, Option.bind_some]
      unfold f_X6_passMonth f_X11_passMonth
      obtain ⟨s9, _⟩ := s_w w' 0
      rw [s9, Option.bind_some, (l_w (upd w' 9 0)).2.2.2.2.1, Option.bind_some, (s_w (upd w' 9 0) _).2.2.2.2.1, Option.bind_some]
      simp only [o_nm, Option.bind_some]
      have e13 : upd w' 9 (0 : Int32) 13 = months := by rw [upd_n _ _ (by decide), e4 13 (by omega), n1]
      rw [e13]
      refine ⟨_, _, _, _, _, _, _, _, _, rfl, rfl, rs_mk0 ?_ ?_ ?_ ?_ ?_ ?_ ?_ (fun j hj => ?_) ⟨0, by decide, rfl⟩, rp_w hh (fun j hj => ?_) e3, fun j hj => ?_⟩
      · rw [upd_n _ _ (by decide), upd_n _ _ (by decide), e4 12 (by omega)]; exact n0
      · rw [upd_s]
      · rw [upd_n _ _ (by decide), upd_n _ _ (by decide), e4 14 (by omega)]; exact n2
      · rw [upd_n _ _ (by decide), upd_n _ _ (by decide), e4 15 (by omega)]; exact n3
      · rw [upd_n _ _ (by decide), upd_s]
      · rw [upd_n _ _ (by decide), upd_n _ _ (by decide), e4 10 (by omega)]; exact n5
      · rw [upd_n _ _ (by decide), upd_n _ _ (by decide), e4 11 (by omega)]; exact n6
      · rw [upd_n _ _ (by omega), upd_n _ _ (by omega), e4 j (by omega)]; exact n7 j hj
      · rw [upd_n _ _ (by omega), upd_n _ _ (by omega)]
      · rw [upd_n _ _ (by omega), upd_n _ _ (by omega), e4 j (by omega)]
    · rw [if_neg c1, if_neg c1]
      exact ⟨_, _, _, _, _, _, _, _, _, rfl, rfl, hN, hP, fun j _ => rfl⟩
theorem onm {α β : Type} (x : α) (k : α → Option β) : o_nm x k = k x := rfl
theorem wb_eq (x y z : Int32) : f_X10_withBit x y z = f_X11_withOrNot x y z := rfl
theorem wb_some (x y z : Int32) : ∃ r, f_X11_withOrNot x y z = some r := by
  unfold f_X11_withOrNot; rw [si]; exact ⟨_, rfl⟩
theorem q_keepIn {h : Nat} {next count und rounds months law holds hoarse keptIn colds : Int32} {S SP : Nat → Nat → Int32} {places w : Nat → Int32} (hh : h ≤ 9) (hN : RS h (srow rounds months law holds hoarse keptIn colds) places w 0) (hP : RP h next count S SP und w) (y1 y2 : Int32) :
    ∃ r keptIn' next' count' SP' S' und' w', f_X10_keepIn rounds months law holds hoarse keptIn colds next count (nI h) places SP S y1 y2 = some (r, keptIn', next', count', SP', S') ∧ f_X11_keepIn (nI h) und w y1 y2 = some (r, und', w') ∧ RS h (srow rounds months law holds hoarse keptIn' colds) places w' 0 ∧ RP h next' count' S' SP' und' w' ∧ ∀ j, (16 ≤ j ∧ j < 68) → w' j = w j := by
  obtain ⟨n0, n1, n2, n3, n4, n5, n6, n7, n8⟩ := rs_now hN
  unfold f_X10_keepIn f_X11_keepIn
  rcases hearer_cases (show h < 1000 by omega) y1 with ⟨b1, b2⟩ | ⟨k, hk, rfl, b1, b2⟩
  · rw [b1, b2, Option.bind_some, Option.bind_some, if_pos rfl, if_pos rfl]
    exact ⟨_, _, _, _, _, _, _, _, rfl, rfl, hN, hP, fun j _ => rfl⟩
  · obtain ⟨next', count', SP', S', und', w', e1, e2, e3, e4⟩ := rem hh hN hP
    obtain ⟨k9, k10, k11, k12, k13, k14, k15, k16⟩ := l_w w'
    obtain ⟨r, hr⟩ := wb_some keptIn (nI k) y2
    rw [b1, b2, Option.bind_some, Option.bind_some, if_neg one_ne, if_neg one_ne]
    have eb : f_X10_bit keptIn (nI k) = some ((keptIn >>> (nI k &&& 31)) &&& (1 : Int32)) := rfl
    have er : w' 10 = keptIn := by rw [e4 10 (by omega), n5]
    rw [eb, Option.bind_some, e1, Option.bind_some, wb_eq, hr, Option.bind_some, e2, Option.bind_some, k10, Option.bind_some, er, onm, Option.bind_some, hr, Option.bind_some, (s_w w' r).2.1, Option.bind_some]
    refine ⟨_, _, _, _, _, _, _, _, rfl, rfl, rs_mk0 ?_ ?_ ?_ ?_ ?_ ?_ ?_ (fun j hj => ?_) n8, rp_w hh (fun j hj => ?_) e3, fun j hj => ?_⟩
    · rw [upd_n _ _ (by decide), e4 12 (by omega)]; exact n0
    · rw [upd_n _ _ (by decide), e4 13 (by omega)]; exact n1
    · rw [upd_n _ _ (by decide), e4 14 (by omega)]; exact n2
    · rw [upd_n _ _ (by decide), e4 15 (by omega)]; exact n3
    · rw [upd_n _ _ (by decide), e4 9 (by omega)]; exact n4
    · rw [upd_s]
    · rw [upd_n _ _ (by decide), e4 11 (by omega)]; exact n6
    · rw [upd_n _ _ (by omega), e4 j (by omega)]; exact n7 j hj
    · rw [upd_n _ _ (by omega)]
    · rw [upd_n _ _ (by omega), e4 j (by omega)]
theorem q_cold {c h : Nat} {next count und rounds months law holds hoarse keptIn colds : Int32} {S SP : Nat → Nat → Int32} {places w : Nat → Int32} (hc : c ≤ 8) (hh : h ≤ 9) (hN : RS h (srow rounds months law holds hoarse keptIn colds) places w 0) (hP : RP h next count S SP und w) (y1 y2 : Int32) :
    ∃ r colds' next' count' SP' S' und' w', f_X10_cold rounds months law holds hoarse keptIn colds next count (nI c) places SP S y1 y2 = some (r, colds', next', count', SP', S') ∧ f_X11_cold (nI c) und w y1 y2 = some (r, und', w') ∧ RS h (srow rounds months law holds hoarse keptIn colds') places w' 0 ∧ RP h next' count' S' SP' und' w' ∧ ∀ j, (16 ≤ j ∧ j < 68) → w' j = w j := by
  obtain ⟨n0, n1, n2, n3, n4, n5, n6, n7, n8⟩ := rs_now hN
  unfold f_X10_cold f_X11_cold
  rcases corner_cases (show c < 1000 by omega) y1 with ⟨b1, b2⟩ | ⟨k, hk, rfl, b1, b2⟩
  · rw [b1, b2, Option.bind_some, Option.bind_some, if_pos rfl, if_pos rfl]
    exact ⟨_, _, _, _, _, _, _, _, rfl, rfl, hN, hP, fun j _ => rfl⟩
  · obtain ⟨next', count', SP', S', und', w', e1, e2, e3, e4⟩ := rem hh hN hP
    obtain ⟨k9, k10, k11, k12, k13, k14, k15, k16⟩ := l_w w'
    obtain ⟨r, hr⟩ := wb_some colds (nI k) y2
    rw [b1, b2, Option.bind_some, Option.bind_some, if_neg one_ne, if_neg one_ne]
    have eb : f_X10_bit colds (nI k) = some ((colds >>> (nI k &&& 31)) &&& (1 : Int32)) := rfl
    have er : w' 11 = colds := by rw [e4 11 (by omega), n6]
    rw [eb, Option.bind_some, e1, Option.bind_some, wb_eq, hr, Option.bind_some, e2, Option.bind_some, k11, Option.bind_some, er, onm, Option.bind_some, hr, Option.bind_some, (s_w w' r).2.2.1, Option.bind_some]
    refine ⟨_, _, _, _, _, _, _, _, rfl, rfl, rs_mk0 ?_ ?_ ?_ ?_ ?_ ?_ ?_ (fun j hj => ?_) n8, rp_w hh (fun j hj => ?_) e3, fun j hj => ?_⟩
    · rw [upd_n _ _ (by decide), e4 12 (by omega)]; exact n0
    · rw [upd_n _ _ (by decide), e4 13 (by omega)]; exact n1
    · rw [upd_n _ _ (by decide), e4 14 (by omega)]; exact n2
    · rw [upd_n _ _ (by decide), e4 15 (by omega)]; exact n3
    · rw [upd_n _ _ (by decide), e4 9 (by omega)]; exact n4
    · rw [upd_n _ _ (by decide), e4 10 (by omega)]; exact n5
    · rw [upd_s]
    · rw [upd_n _ _ (by omega), e4 j (by omega)]; exact n7 j hj
    · rw [upd_n _ _ (by omega)]
    · rw [upd_n _ _ (by omega), e4 j (by omega)]
theorem q_move {c h : Nat} {next count und rounds months law holds hoarse keptIn colds : Int32} {S SP : Nat → Nat → Int32} {places w : Nat → Int32} (hc : c ≤ 8) (hh : h ≤ 9) (hN : RS h (srow rounds months law holds hoarse keptIn colds) places w 0) (hP : RP h next count S SP und w) (y1 y2 : Int32) :
    ∃ r next' count' places' SP' S' und' w', f_X10_move rounds months law holds hoarse keptIn colds next count (nI c) (nI h) places SP S y1 y2 = some (r, next', count', places', SP', S') ∧ f_X11_move (nI c) (nI h) und w y1 y2 = some (r, und', w') ∧ RS h (srow rounds months law holds hoarse keptIn colds) places' w' 0 ∧ RP h next' count' S' SP' und' w' ∧ ∀ j, (16 ≤ j ∧ j < 68) → w' j = w j := by
  obtain ⟨n0, n1, n2, n3, n4, n5, n6, n7, n8⟩ := rs_now hN
  unfold f_X10_move f_X11_move
  rcases hearer_cases (show h < 1000 by omega) y1 with ⟨b1, b2⟩ | ⟨k, hk, rfl, b1, b2⟩
  · rw [b1, b2, Option.bind_some, Option.bind_some, if_pos rfl, if_pos rfl]
    exact ⟨_, _, _, _, _, _, _, _, rfl, rfl, hN, hP, fun j _ => rfl⟩
  · rw [b1, b2, Option.bind_some, Option.bind_some, if_neg one_ne, if_neg one_ne]
    rcases corner_cases (show c < 1000 by omega) y2 with ⟨d1, d2⟩ | ⟨k2, hk2, rfl, d1, d2⟩
    · rw [d1, d2, Option.bind_some, Option.bind_some, if_pos rfl, if_pos rfl]
      exact ⟨_, _, _, _, _, _, _, _, rfl, rfl, hN, hP, fun j _ => rfl⟩
    · obtain ⟨next', count', SP', S', und', w', e1, e2, e3, e4⟩ := rem hh hN hP
      rw [d1, d2, Option.bind_some, Option.bind_some, if_neg one_ne, if_neg one_ne, e1, e2, at_in (show k < 9 by omega) (by decide), put_in (show k < 9 by omega) (by decide)]
      simp only [Option.bind_some]
      rw [ld_in (show k < 578 by omega) (by decide), Option.bind_some, st_in (show k < 578 by omega) (by decide), Option.bind_some, e4 k (by omega), ← n7 k hk]
      refine ⟨_, _, _, _, _, _, _, _, rfl, rfl, rs_mk0 ?_ ?_ ?_ ?_ ?_ ?_ ?_ (fun j hj => ?_) n8, rp_w hh (fun j hj => ?_) e3, fun j hj => ?_⟩
      · rw [upd_n _ _ (by omega), e4 12 (by omega)]; exact n0
      · rw [upd_n _ _ (by omega), e4 13 (by omega)]; exact n1
      · rw [upd_n _ _ (by omega), e4 14 (by omega)]; exact n2
      · rw [upd_n _ _ (by omega), e4 15 (by omega)]; exact n3
      · rw [upd_n _ _ (by omega), e4 9 (by omega)]; exact n4
      · rw [upd_n _ _ (by omega), e4 10 (by omega)]; exact n5
      · rw [upd_n _ _ (by omega), e4 11 (by omega)]; exact n6
      · by_cases z : j = k
        · subst z; rw [upd_s, upd_s]
        · rw [upd_n _ _ z, upd_n _ _ z, e4 j (by omega)]; exact n7 j hj
      · rw [upd_n _ _ (by omega)]
      · rw [upd_n _ _ (by omega), e4 j (by omega)]
/-! the crier is sent -/
theorem send {u c h d k0 : Nat} {cs cl cd ch csp cho sp hq way rounds months law holds hoarse keptIn colds : Int32} {places w pinches sayings pinched says : Nat → Int32} (hu : u < 256) (hc : c ≤ 8) (hh : h ≤ 9) (hT : TR h pinches sayings pinched says) (hd : d < 256) (hk : k0 < c) (hN : RS h (srow rounds months law holds hoarse keptIn colds) places w 0) :
    ∃ (a1 a2 a4 a5 a6 rounds' law' holds' hoarse' : Int32) (w' : Nat → Int32), f_X10_sendCrier cs cl cd ch csp cho rounds law holds hoarse keptIn colds (nI u) (nI c) (nI h) places pinches sayings (nI d) (nI k0) way = some (a1, a2, law', a4, a5, a6, rounds', law', holds', hoarse') ∧ f_X11_roundNow (nI u) (nI c) (nI h) sp hq pinched says w (nI d) (nI k0) way = some (a5, holds', w') ∧ RS h (srow rounds' months law' holds' hoarse' keptIn colds) places w' 0 ∧ ∀ j, 16 ≤ j → w' j = w j := by
  obtain ⟨n0, n1, n2, n3, n4, n5, n6, n7, x, hx, n8⟩ := rs_now hN
  have hW : RW h 0 x keptIn colds places w := ⟨fun j hj => by rw [Nat.zero_add]; exact n7 j hj, n5.symm, n6.symm, by rw [← n8]; exact n4.symm⟩
  obtain ⟨d', x', h', s', b1, b2, b3, b4⟩ := round1 (liars := 0) (way := way) (sp := sp) (ho2 := hq) hu hh (show 0 + 17 ≤ 578 by decide) hT hc hk hd hx hW
  have b4 : f_X11_roundIn (nI u) (nI c) (nI h) sp hq pinched says w (0 : Int32) (nI d) (nI k0) way 0 = some (nI d', s', h', upd w 9 (nI x')) := b4
  unfold f_X10_sendCrier f_X11_roundNow f_X0_start
  simp only [o_nm, Option.bind_some]
  rw [or_z, n8, b3, b4]
  simp only [Option.bind_some]
  rw [(s_w _ _).2.2.2.2.2.1, Option.bind_some, (s_w _ _).2.2.2.2.2.2.1, Option.bind_some, (l_w _).2.2.2.1, Option.bind_some, (s_w _ _).2.2.2.1, Option.bind_some]
  have e12 : upd (upd (upd w 9 (nI x')) 14 (nI d')) 15 h' 12 = rounds := by rw [upd_n _ _ (by decide), upd_n _ _ (by decide), upd_n _ _ (by decide), n0]
  rw [e12]
  refine ⟨_, _, _, _, _, _, _, _, _, _, rfl, rfl, rs_mk0 ?_ ?_ ?_ ?_ ?_ ?_ ?_ (fun j hj => ?_) ⟨x', b2, rfl⟩, fun j hj => ?_⟩
  · rw [upd_s]
  · rw [upd_n _ _ (by decide), upd_n _ _ (by decide), upd_n _ _ (by decide), upd_n _ _ (by decide)]; exact n1
  · rw [upd_n _ _ (by decide), upd_n _ _ (by decide), upd_s]
  · rw [upd_n _ _ (by decide), upd_s]
  · rw [upd_n _ _ (by decide), upd_n _ _ (by decide), upd_n _ _ (by decide), upd_s]
  · rw [upd_n _ _ (by decide), upd_n _ _ (by decide), upd_n _ _ (by decide), upd_n _ _ (by decide)]; exact n5
  · rw [upd_n _ _ (by decide), upd_n _ _ (by decide), upd_n _ _ (by decide), upd_n _ _ (by decide)]; exact n6
  · rw [upd_n _ _ (by omega), upd_n _ _ (by omega), upd_n _ _ (by omega), upd_n _ _ (by omega)]; exact n7 j hj
  · rw [upd_n _ _ (by omega), upd_n _ _ (by omega), upd_n _ _ (by omega), upd_n _ _ (by omega)]
theorem q_cry {u c h : Nat} {cs cl cd ch csp cho sp hq next count und rounds months law holds hoarse keptIn colds : Int32} {S SP : Nat → Nat → Int32} {places w pinches sayings pinched says : Nat → Int32} (hu : u < 256) (hc : c ≤ 8) (hh : h ≤ 9) (hT : TR h pinches sayings pinched says) (hN : RS h (srow rounds months law holds hoarse keptIn colds) places w 0) (hP : RP h next count S SP und w) (y1 y2 y3 : Int32) :
    ∃ (r a1 a2 a3 a4 a5 a6 rounds' law' holds' hoarse' next' count' : Int32) (SP' S' : Nat → Nat → Int32) (sp' hq' und' : Int32) (w' : Nat → Int32), f_X10_cry cs cl cd ch csp cho rounds months law holds hoarse keptIn colds next count (nI u) (nI c) (nI h) places pinches sayings SP S y1 y2 y3 = some (r, a1, a2, a3, a4, a5, a6, rounds', law', holds', hoarse', next', count', SP', S') ∧ f_X11_cry (nI u) (nI c) (nI h) sp hq und pinched says w y1 y2 y3 = some (r, sp', hq', und', w') ∧ RS h (srow rounds' months law' holds' hoarse' keptIn colds) places w' 0 ∧ RP h next' count' S' SP' und' w' ∧ ∀ j, (16 ≤ j ∧ j < 68) → w' j = w j := by
  obtain ⟨n0, n1, n2, n3, n4, n5, n6, n7, n8⟩ := rs_now hN
  unfold f_X10_cry f_X11_cry
  rcases rr_cases hu (show c < 1000 by omega) y1 y2 y3 with ⟨a1, a2⟩ | ⟨a1, a2, a3, a4⟩ | ⟨d, k, hd, hk, rfl, rfl, hy, a1, a2, a3, a4⟩
  · rw [a1, Option.bind_some, if_neg (by decide)]
    rcases a2 with a2 | ⟨a2, a3⟩
    · rw [a2, Option.bind_some, if_pos rfl]
      exact ⟨_, _, _, _, _, _, _, _, _, _, _, _, _, _, _, _, _, _, _, rfl, rfl, hN, hP, fun j _ => rfl⟩
    · rw [a2, Option.bind_some, if_neg one_ne, a3, Option.bind_some, if_pos rfl]
      exact ⟨_, _, _, _, _, _, _, _, _, _, _, _, _, _, _, _, _, _, _, rfl, rfl, hN, hP, fun j _ => rfl⟩
  · rw [a1, Option.bind_some, if_neg (by decide), a2, Option.bind_some, if_neg one_ne, a3, Option.bind_some, if_neg one_ne, a4, Option.bind_some, if_pos rfl]
    exact ⟨_, _, _, _, _, _, _, _, _, _, _, _, _, _, _, _, _, _, _, rfl, rfl, hN, hP, fun j _ => rfl⟩
  · rw [a1, Option.bind_some, if_pos rfl, a2, Option.bind_some, if_neg one_ne, a3, Option.bind_some, if_neg one_ne, a4, Option.bind_some, if_neg one_ne, (l_w w).2.2.2.1, Option.bind_some, ← n0]
    by_cases c1 : rounds ≤ (9000 : Int32)
    · rw [if_pos c1, if_pos c1]
      obtain ⟨next', count', SP', S', und', w', e1, e2, e3, e4⟩ := rem hh hN hP
      have hN' : RS h (srow rounds months law holds hoarse keptIn colds) places w' 0 := rs_w hh (fun j hj => e4 _ (by omega)) hN
      obtain ⟨b1, b2, b4, b5, b6, rounds', law', holds', hoarse', w2, f1, f2, f3, f4⟩ := send (cs := cs) (cl := cl) (cd := cd) (ch := ch) (csp := csp) (cho := cho) (sp := sp) (hq := hq) (way := y3) hu hc hh hT hd hk hN'
      rw [e1, e2]
      simp only [Option.bind_some]
      rw [f1, f2]
      simp only [Option.bind_some]
      rw [(l_w w2).2.2.2.2.2.1, Option.bind_some, ← (rs_now f3).2.2.1]
      exact ⟨_, _, _, _, _, _, _, _, _, _, _, _, _, _, _, _, _, _, _, rfl, rfl, f3, rp_w hh (fun j hj => f4 j (by omega)) e3, fun j hj => by rw [f4 j hj.1, e4 j hj.2]⟩
    · rw [if_neg c1, if_neg c1]
      exact ⟨_, _, _, _, _, _, _, _, _, _, _, _, _, _, _, _, _, _, _, rfl, rfl, hN, hP, fun j _ => rfl⟩
