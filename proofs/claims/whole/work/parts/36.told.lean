/-! the calls: what is told -/
theorem si {α : Type} {c : Prop} [Decidable c] (a b : α) : (if c then some a else some b) = some (if c then a else b) := by split <;> rfl
theorem rs_now {h : Nat} {a b c d e f g : Int32} {p w : Nat → Int32} (H : RS h (srow a b c d e f g) p w 0) : a = w 12 ∧ b = w 13 ∧ c = w 14 ∧ d = w 15 ∧ e = w 9 ∧ f = w 10 ∧ g = w 11 ∧ (∀ j, j < h → p j = w j) ∧ ∃ x, x < 512 ∧ e = nI x := by
  obtain ⟨n0, n1, n2, n3, n4, n5, n6, n7, n8⟩ := H
  exact ⟨n0, n1, n2, n3, n4, n5, n6, fun j hj => by have := n7 j hj; rwa [Nat.zero_add] at this, n8⟩
theorem rs_mk {h : Nat} {a b c d e f g : Int32} {p w : Nat → Int32} {o : Nat} (n0 : a = w (o + 12)) (n1 : b = w (o + 13)) (n2 : c = w (o + 14)) (n3 : d = w (o + 15)) (n4 : e = w (o + 9)) (n5 : f = w (o + 10)) (n6 : g = w (o + 11)) (n7 : ∀ j, j < h → p j = w (o + j)) (n8 : ∃ x, x < 512 ∧ e = nI x) : RS h (srow a b c d e f g) p w o := ⟨n0, n1, n2, n3, n4, n5, n6, n7, n8⟩
theorem rs_mk0 {h : Nat} {a b c d e f g : Int32} {p w : Nat → Int32} (n0 : a = w 12) (n1 : b = w 13) (n2 : c = w 14) (n3 : d = w 15) (n4 : e = w 9) (n5 : f = w 10) (n6 : g = w 11) (n7 : ∀ j, j < h → p j = w j) (n8 : ∃ x, x < 512 ∧ e = nI x) : RS h (srow a b c d e f g) p w 0 := ⟨n0, n1, n2, n3, n4, n5, n6, fun j hj => by rw [Nat.zero_add]; exact n7 j hj, n8⟩
theorem rs_w {h : Nat} {s p w w' : Nat → Int32} {o : Nat} (hh : h ≤ 9) (e : ∀ j, j < 16 → w' (o + j) = w (o + j)) (H : RS h s p w o) : RS h s p w' o := by
  obtain ⟨n0, n1, n2, n3, n4, n5, n6, n7, n8⟩ := H
  refine ⟨?_, ?_, ?_, ?_, ?_, ?_, ?_, fun j hj => ?_, n8⟩
  · rw [e 12 (by decide)]; exact n0
  · rw [e 13 (by decide)]; exact n1
  · rw [e 14 (by decide)]; exact n2
  · rw [e 15 (by decide)]; exact n3
  · rw [e 9 (by decide)]; exact n4
  · rw [e 10 (by decide)]; exact n5
  · rw [e 11 (by decide)]; exact n6
  · rw [e j (by omega)]; exact n7 j hj
theorem rp_w {h : Nat} {next count und : Int32} {S SP : Nat → Nat → Int32} {w w' : Nat → Int32} (hh : h ≤ 9) (e : ∀ j, 68 ≤ j → w' j = w j) (H : RP h next count S SP und w) : RP h next count S SP und w' := by
  obtain ⟨nx, ct, a1, a2, a3, a4, a5, a6⟩ := H
  exact ⟨nx, ct, a1, a2, a3, a4, a5, fun j hj => rs_w hh (fun i _ => e _ (by omega)) (a6 j hj)⟩
theorem ri_w {h : Nat} {seed taken kept : Int32} {s p w w' : Nat → Int32} {o : Nat} (hh : h ≤ 9) (e : ∀ j, j < 17 → w' (o + j) = w (o + j)) (H : RI h seed taken s p kept w o) : RI h seed taken s p kept w' o := by
  obtain ⟨a1, a2, a3⟩ := H
  refine ⟨a1, a2, fun z => ?_⟩
  obtain ⟨b1, b2, b3⟩ := a3 z
  exact ⟨rs_w hh (fun j hj => e j (by omega)) b1, by rw [e 16 (by decide)]; exact b2, b3⟩
theorem l_w (w : Nat → Int32) : o_ld w 578 (9 : Int32) = some (w 9) ∧ o_ld w 578 (10 : Int32) = some (w 10) ∧ o_ld w 578 (11 : Int32) = some (w 11) ∧ o_ld w 578 (12 : Int32) = some (w 12) ∧ o_ld w 578 (13 : Int32) = some (w 13) ∧ o_ld w 578 (14 : Int32) = some (w 14) ∧ o_ld w 578 (15 : Int32) = some (w 15) ∧ o_ld w 578 (16 : Int32) = some (w 16) :=
  ⟨ld_in (k := 9) (by decide) (by decide), ld_in (k := 10) (by decide) (by decide), ld_in (k := 11) (by decide) (by decide), ld_in (k := 12) (by decide) (by decide), ld_in (k := 13) (by decide) (by decide), ld_in (k := 14) (by decide) (by decide), ld_in (k := 15) (by decide) (by decide), ld_in (k := 16) (by decide) (by decide)⟩
theorem s_w (w : Nat → Int32) (v : Int32) : o_st w 578 (9 : Int32) v = some (upd w 9 v) ∧ o_st w 578 (10 : Int32) v = some (upd w 10 v) ∧ o_st w 578 (11 : Int32) v = some (upd w 11 v) ∧ o_st w 578 (12 : Int32) v = some (upd w 12 v) ∧ o_st w 578 (13 : Int32) v = some (upd w 13 v) ∧ o_st w 578 (14 : Int32) v = some (upd w 14 v) ∧ o_st w 578 (15 : Int32) v = some (upd w 15 v) ∧ o_st w 578 (16 : Int32) v = some (upd w 16 v) :=
  ⟨st_in (k := 9) (by decide) (by decide), st_in (k := 10) (by decide) (by decide), st_in (k := 11) (by decide) (by decide), st_in (k := 12) (by decide) (by decide), st_in (k := 13) (by decide) (by decide), st_in (k := 14) (by decide) (by decide), st_in (k := 15) (by decide) (by decide), st_in (k := 16) (by decide) (by decide)⟩
theorem q_told {h : Nat} {bc rounds months law holds hoarse keptIn colds pc' cl co he lc dc all mco mhe ts und seen wr : Int32} {places w : Nat → Int32} (hN : RS h (srow rounds months law holds hoarse keptIn colds) places w 0) (e0 : cl = all) (e1 : co = mco) (e2 : he = mhe) (e3 : lc = ts) (e11 : dc = seen) (e12 : bc = wr) (e13 : pc' = und) (y : Int32) :
    ∃ r, f_X10_told bc rounds months law holds hoarse keptIn colds pc' cl co he lc dc y = some r ∧ f_X11_told all mco mhe ts und seen wr w y = some r := by
  obtain ⟨n0, n1, n2, n3, n4, n5, n6, _⟩ := rs_now hN
  subst e0 e1 e2 e3 e11 e12 e13 n0 n1 n2 n3 n4 n5 n6
  obtain ⟨l9, l10, l11, l12, l13, l14, l15, l16⟩ := l_w w
  unfold f_X10_told f_X11_told
  simp only [l9, l10, l11, l12, l13, l14, l15, Option.bind_some, si]
  exact ⟨_, rfl, rfl⟩
theorem q_hearer {h : Nat} {rounds months law holds hoarse keptIn colds : Int32} {places w pinches sayings pinched says : Nat → Int32} (hh : h ≤ 9) (hT : TR h pinches sayings pinched says) (hN : RS h (srow rounds months law holds hoarse keptIn colds) places w 0) (y1 y2 : Int32) :
    ∃ r, f_X10_hearer hoarse keptIn (nI h) places pinches sayings y1 y2 = some r ∧ f_X11_hearer (nI h) pinched says w y1 y2 = some r := by
  obtain ⟨n0, n1, n2, n3, n4, n5, n6, n7, _⟩ := rs_now hN
  obtain ⟨l9, l10, l11, l12, l13, l14, l15, l16⟩ := l_w w
  unfold f_X10_hearer f_X11_hearer
  rcases hearer_cases (show h < 1000 by omega) y1 with ⟨b1, b2⟩ | ⟨k, hk, rfl, b1, b2⟩
  · rw [b1, b2, Option.bind_some, Option.bind_some, if_pos rfl, if_pos rfl]
    exact ⟨_, rfl, rfl⟩
  · rw [b1, b2, Option.bind_some, Option.bind_some, if_neg one_ne, if_neg one_ne, at_in (show k < 9 by omega) (by decide), at_in (show k < 9 by omega) (by decide), at_in (show k < 9 by omega) (by decide), ld_in (show k < 578 by omega) (by decide), ld_in (show k < 18 by omega) (by decide), ld_in (show k < 18 by omega) (by decide)]
    obtain ⟨t1, t2, q, hq, t3, t4⟩ := hT k hk
    unfold f_X10_bit
    simp only [l9, l10, Option.bind_some]
    rw [n7 k hk, t1, t3, t4, n4, n5]
    have e8 : (nI q = (8 : Int32)) ↔ q = 8 := nI_eq (b := 8) (by omega) (by decide)
    by_cases hq8 : q = 8
    · simp only [e8, hq8, if_true, si]
      exact ⟨_, rfl, rfl⟩
    · simp only [e8, hq8, if_false, si]
      exact ⟨_, rfl, rfl⟩
theorem sta_loop {places : Nat → Int32} {k : Int32} {h : Nat} (hh : h ≤ 9) : ∀ (n i : Nat), i ≤ h → h < n + i → f_X6_standingAt_5 places n k (nI h) (nI (bs (fun j => decide (places j = k)) i)) (nI i) = some (nI (bs (fun j => decide (places j = k)) h)) := by
  intro n
  induction n with
  | zero => intro i h1 h2; omega
  | succ n ih =>
    intro i hi hn
    rw [f_X6_standingAt_5]
    simp only [o_nm]
    by_cases hlt : i < h
    · rw [if_neg (nI_ge hlt (by omega)), at_in (show i < 9 by omega) (by decide), Option.bind_some]
      by_cases c1 : places i = k
      · rw [if_pos c1, nI_1, bs_or (p := fun j => decide (places j = k)) (by simp [c1]) (by omega)]
        exact ih (i + 1) (by omega) (by omega)
      · rw [if_neg c1, nI_1, ← ih (i + 1) (by omega) (by omega), bs_f (p := fun j => decide (places j = k)) (by simp [c1])]
    · have e : i = h := by omega
      subst e
      rw [if_pos (nI_le (by omega) (by omega))]
theorem sta {places : Nat → Int32} {k : Int32} {h : Nat} (hh : h ≤ 9) : f_X6_standingAt places k (nI h) = some (nI (bs (fun j => decide (places j = k)) h)) :=
  sta_loop hh 1000 0 (by omega) (by omega)
theorem q_corner {c h : Nat} {rounds months law holds hoarse keptIn colds : Int32} {places w beers beer : Nat → Int32} (hc : c ≤ 8) (hh : h ≤ 9) (hB : ∀ k, k < c → beers k = beer k) (hN : RS h (srow rounds months law holds hoarse keptIn colds) places w 0) (y1 y2 : Int32) :
    ∃ r, f_X10_corner colds (nI c) (nI h) places beers y1 y2 = some r ∧ f_X11_corner (nI c) (nI h) beer w y1 y2 = some r := by
  obtain ⟨n0, n1, n2, n3, n4, n5, n6, n7, _⟩ := rs_now hN
  obtain ⟨l9, l10, l11, l12, l13, l14, l15, l16⟩ := l_w w
  unfold f_X10_corner f_X11_corner
  rcases corner_cases (show c < 1000 by omega) y1 with ⟨b1, b2⟩ | ⟨k, hk, rfl, b1, b2⟩
  · rw [b1, b2, Option.bind_some, Option.bind_some, if_pos rfl, if_pos rfl]
    exact ⟨_, rfl, rfl⟩
  · have s := std (w := w) (k := nI k) (h := h) (o := 0) hh (by omega)
    have e : bs (fun j => decide (w (0 + j) = nI k)) h = bs (fun j => decide (places j = nI k)) h := bs_cong h fun i hi => by rw [Nat.zero_add, n7 i hi]
    rw [e] at s
    have s : f_X11_standing (nI h) w (0 : Int32) (nI k) = some (nI (bs (fun j => decide (places j = nI k)) h)) := s
    rw [b1, b2, Option.bind_some, Option.bind_some, if_neg one_ne, if_neg one_ne, at_in (show k < 8 by omega) (by decide), ld_in (show k < 16 by omega) (by decide), sta hh, s]
    unfold f_X10_bit
    simp only [l11, Option.bind_some]
    rw [hB k hk, n6]
    simp only [si]
    exact ⟨_, rfl, rfl⟩
theorem q_tear {dc : Int32} {d : Nat → Int32} {cc : Int32} {co : Nat → Int32} {vc : Int32} {v : Nat → Int32} {seen : Int32} {sd sa ss : Nat → Int32} {cnt : Int32} {items : Nat → Int32} {wr : Int32} {book : Nat → Int32} (hS : RSe dc d cc co vc v seen sd sa ss) (hB : RB cnt items wr book) :
    ∃ r dc' cc' vc' seen' cnt' wr', f_X10_tear cnt cc dc vc = some (r, cnt', cc', dc', vc') ∧ f_X11_tear seen wr = some (r, seen', wr') ∧ RSe dc' d cc' co vc' v seen' sd sa ss ∧ RB cnt' items wr' book := by
  obtain ⟨n, hn, rfl, rfl, rfl, rfl, hj⟩ := hS
  obtain ⟨m, hm, rfl, rfl, hi⟩ := hB
  exact ⟨_, _, _, _, _, _, _, rfl, rfl, ⟨0, by omega, rfl, rfl, rfl, rfl, fun j hj => by omega⟩, 0, by omega, rfl, rfl, fun j hj => by omega⟩
theorem q_seed {h : Nat} {s p w : Nat → Int32} {dv : Int32} (hh : h ≤ 9) (hN : RS h s p w 0) (hS : dv = w 16 ∧ ∃ v, v < 2147483648 ∧ dv = nI v) (y : Int32) :
    ∃ r dv' w', f_X10_seed dv y = some (r, dv') ∧ f_X11_seed w y = some (r, w') ∧ RS h s p w' 0 ∧ (dv' = w' 16 ∧ ∃ v, v < 2147483648 ∧ dv' = nI v) ∧ ∀ j, 17 ≤ j → w' j = w j := by
  unfold f_X10_seed f_X11_seed
  obtain ⟨l9, l10, l11, l12, l13, l14, l15, l16⟩ := l_w w
  obtain ⟨s9, s10, s11, s12, s13, s14, s15, s16⟩ := s_w w y
  by_cases c : 0 ≤ y
  · rw [if_pos c, if_pos c, l16, Option.bind_some, s16, Option.bind_some]
    refine ⟨_, _, _, rfl, by rw [hS.1], rs_w hh (fun j hj => upd_n _ _ (by omega)) hN, ⟨(upd_s _ _ _).symm, ?_⟩, fun j hj => upd_n _ _ (by omega)⟩
    obtain ⟨j, hj, e⟩ := nI_of (x := y) (fun z => by
      have a := Int32.lt_iff_toInt_lt.mp z
      have b := Int32.le_iff_toInt_le.mp c
      omega)
    exact ⟨j, by omega, e⟩
  · rw [if_neg c, if_neg c]
    exact ⟨_, _, _, rfl, rfl, hN, hS, fun j _ => rfl⟩
/-! what is remembered -/
theorem cr_loop {a b : Nat → Int32} : ∀ (n i : Nat), i ≤ 9 → 9 < n + i → f_X10_copyRow_2 9 9 a n (fun j => if j < i then a j else b j) (nI i) = some (fun j => if j < 9 then a j else b j) := by
  intro n
  induction n with
  | zero => intro i h1 h2; omega
  | succ n ih =>
    intro i hi hn
    rw [f_X10_copyRow_2]
    simp only [o_nm]
    by_cases hlt : i < 9
    · rw [if_neg (show ¬ Int32.ofNat 9 ≤ nI i from nI_ge hlt (by decide)), if_neg (show ¬ Int32.ofNat 9 ≤ nI i from nI_ge hlt (by decide)), ld_in hlt (by decide), Option.bind_some, st_in hlt (by decide), Option.bind_some, nI_1, ← ih (i + 1) (by omega) (by omega)]
      congr 1
      funext j
      by_cases e : j = i
      · subst e; rw [upd_s]; simp
      · rw [upd_n _ _ e]
        by_cases e2 : j < i
        · simp [e2, show j < i + 1 by omega]
        · simp [e2, show ¬ j < i + 1 by omega]
    · have e : i = 9 := by omega
      subst e
      rw [if_pos (show Int32.ofNat 9 ≤ nI 9 from nI_le (Nat.le_refl 9) (by decide))]
theorem become_eq (a b c d e f g : Int32) (p : Nat → Int32) (a' b' c' d' e' f' g' : Int32) (p' : Nat → Int32) : f_X6_become a b c d e f g p a' b' c' d' e' f' g' p' = some (a', b', c', d', e', f', g', fun j => if j < 9 then p' j else p j) := by
  have h := cr_loop (a := p') (b := p) 1000 0 (by omega) (by omega)
  have h : f_X10_copyRow 9 9 p' p = some (fun j => if j < 9 then p' j else p j) := by
    unfold f_X10_copyRow
    rw [← h]
    congr 1
  unfold f_X6_become
  rw [h]
  rfl
theorem row_at (x : Nat) : (68 : Int32) + (17 : Int32) * nI x = nI (68 + 17 * x) := by
  rw [show (17 : Int32) = nI 17 from rfl, pk_mul, show (68 : Int32) = nI 68 from rfl, nI_add]
theorem shift_loop : ∀ (n x : Nat) (w : Nat → Int32), 1 ≤ x → x ≤ 30 → 30 < n + x → ∃ w', f_X11_remember_11 n (nI 30) w (nI x) = f_X11_remember_53 (nI 29) w' ∧ (∀ j i, x ≤ j + 1 → j < 29 → i < 17 → w' (68 + 17 * j + i) = w (68 + 17 * (j + 1) + i)) ∧ (∀ j, (j < 68 + 17 * (x - 1) ∨ 561 ≤ j) → w' j = w j) := by
  intro n
  induction n with
  | zero => intro x w h1 h2 h3; omega
  | succ n ih =>
    intro x w h1 h2 h3
    rw [f_X11_remember_11]
    simp only [o_nm]
    by_cases hlt : x < 30
    · obtain ⟨y, rfl⟩ : ∃ y, x = y + 1 := ⟨x - 1, by omega⟩
      rw [if_neg (show ¬ (30 : Int32) ≤ nI (y + 1) from nI_ge (b := 30) hlt (by decide)), nI_pred, row_at, row_at, copy_eq (by omega) (by omega) (Or.inr (by omega)), Option.bind_some, nI_1]
      obtain ⟨w', e1, e2, e3⟩ := ih (y + 1 + 1) (cp w (68 + 17 * (y + 1)) (68 + 17 * y)) (by omega) (by omega) (by omega)
      refine ⟨w', e1, fun j i hj hj2 hi => ?_, fun j hj => ?_⟩
      · by_cases c : j = y
        · subst c
          rw [e3 _ (Or.inl (by omega)), cp_in _ hi]
        · rw [e2 j i (by omega) hj2 hi, cp_out _ (Or.inr (by omega))]
      · rw [e3 _ (by omega), cp_out _ (by omega)]
    · have e : x = 30 := by omega
      subst e
      rw [if_pos (show (30 : Int32) ≤ nI 30 from nI_le (a := 30) (Nat.le_refl 30) (by decide))]
      exact ⟨w, rfl, fun j i h1 h2 _ => by omega, fun j _ => rfl⟩
theorem ix_in {n k : Nat} (h : k < n) (hn : n < 2 ^ 31) : o_ix n (nI k) = some k := by
  unfold o_ix
  rw [if_neg (nI_in h hn), nI_clamp (by omega)]
/-- both remember alike -/
theorem rem {h : Nat} {next count und : Int32} {S SP : Nat → Nat → Int32} {w p : Nat → Int32} {a b c d e f g : Int32} (hh : h ≤ 9) (hN : RS h (srow a b c d e f g) p w 0) (hP : RP h next count S SP und w) :
    ∃ next' count' SP' S' und' w', f_X3_remember next count SP S a b c d e f g p = some (next', count', SP', S') ∧ f_X11_remember und w = some (und', w') ∧ RP h next' count' S' SP' und' w' ∧ ∀ j, j < 68 → w' j = w j := by
  obtain ⟨nx, ct, hnx, hct, rfl, rfl, rfl, hr⟩ := hP
  have X : f_X3_remember (nI nx) (nI ct) SP S a b c d e f g p = some (nI ((nx + 1) % 30), nI (min 30 (ct + 1)), va_up SP nx (fun j => if j < 9 then p j else SP nx j), va_up S nx (srow a b c d e f g)) := by
    unfold f_X3_remember f_X3_remember_61
    rw [if_neg (nI_pos (by omega)), if_pos (show nI nx < Int32.ofNat 30 from nI_lt hnx (by decide)), ix_in hnx (by decide), Option.bind_some, become_eq, Option.bind_some]
    simp only [o_nm]
    rw [nI_1, nI_1]
    have e1 : (if (30 : Int32) < nI (ct + 1) then (30 : Int32) else nI (ct + 1)) = nI (min 30 (ct + 1)) := by
      by_cases z : 30 < ct + 1
      · rw [if_pos (show (30 : Int32) < nI (ct + 1) from nI_lt (a := 30) z (by omega)), Nat.min_eq_left (by omega)]; rfl
      · rw [if_neg (show ¬ (30 : Int32) < nI (ct + 1) from nI_nlt (a := 30) (by omega) (by decide)), Nat.min_eq_right (by omega)]
    rw [e1]
    by_cases z : 30 ≤ nx + 1
    · rw [if_pos (show (30 : Int32) ≤ nI (nx + 1) from nI_le (a := 30) z (by omega)), show (nx + 1) % 30 = 0 by omega]; rfl
    · rw [if_neg (show ¬ (30 : Int32) ≤ nI (nx + 1) from nI_ge (b := 30) (by omega) (by decide)), show (nx + 1) % 30 = nx + 1 by omega]
  have hself : ∀ (w' : Nat → Int32) (o : Nat), (∀ i, i < 17 → w' (o + i) = w i) → RS h (va_up S nx (srow a b c d e f g) nx) (va_up SP nx (fun j => if j < 9 then p j else SP nx j) nx) w' o := by
    intro w' o ho
    rw [va_up_self, va_up_self]
    obtain ⟨n0, n1, n2, n3, n4, n5, n6, n7, n8⟩ := rs_now hN
    refine rs_mk ?_ ?_ ?_ ?_ ?_ ?_ ?_ (fun j hj => ?_) n8
    · rw [ho 12 (by decide)]; exact n0
    · rw [ho 13 (by decide)]; exact n1
    · rw [ho 14 (by decide)]; exact n2
    · rw [ho 15 (by decide)]; exact n3
    · rw [ho 9 (by decide)]; exact n4
    · rw [ho 10 (by decide)]; exact n5
    · rw [ho 11 (by decide)]; exact n6
    · rw [ho j (by omega), if_pos (by omega)]; exact n7 j hj
  have hne : ∀ (w' : Nat → Int32) (o o' k : Nat), k ≠ nx → (∀ i, i < 17 → w' (o' + i) = w (o + i)) → RS h (S k) (SP k) w o → RS h (va_up S nx (srow a b c d e f g) k) (va_up SP nx (fun j => if j < 9 then p j else SP nx j) k) w' o' := by
    intro w' o o' k hk ho H
    rw [va_up_ne _ _ hk, va_up_ne _ _ hk]
    obtain ⟨n0, n1, n2, n3, n4, n5, n6, n7, n8⟩ := H
    refine ⟨?_, ?_, ?_, ?_, ?_, ?_, ?_, fun j hj => ?_, n8⟩
    · rw [ho 12 (by decide)]; exact n0
    · rw [ho 13 (by decide)]; exact n1
    · rw [ho 14 (by decide)]; exact n2
    · rw [ho 15 (by decide)]; exact n3
    · rw [ho 9 (by decide)]; exact n4
    · rw [ho 10 (by decide)]; exact n5
    · rw [ho 11 (by decide)]; exact n6
    · rw [ho j (by omega)]; exact n7 j hj
  have M53 : ∀ (m : Nat) (v : Nat → Int32), m < 30 → f_X11_remember_53 (nI m) v = some (nI (m + 1), cp v 0 (68 + 17 * m)) := by
    intro m v hm
    unfold f_X11_remember_53
    rw [row_at, show (0 : Int32) = nI 0 from rfl, copy_eq (by omega) (by omega) (Or.inl (by omega)), Option.bind_some]
    simp only [o_nm]
    rw [nI_1]
  unfold f_X11_remember
  by_cases hf : ct = 30
  · subst hf
    obtain ⟨w', e1, e2, e3⟩ := shift_loop 1000 1 w (by omega) (by omega) (by omega)
    have e1 : f_X11_remember_11 1000 (nI 30) w (1 : Int32) = f_X11_remember_53 (nI 29) w' := e1
    rw [if_pos (show nI 30 = (30 : Int32) from rfl), e1, M53 29 w' (by decide)]
    refine ⟨_, _, _, _, _, _, X, rfl, ⟨(nx + 1) % 30, 30, by omega, by omega, rfl, rfl, rfl, fun j hj => ?_⟩, fun j hj => ?_⟩
    · by_cases c : j = 29
      · subst c
        rw [show ((nx + 1) % 30 + 30 - 30 + 29) % 30 = nx by omega]
        exact hself _ _ fun i hi => by rw [cp_in _ hi, Nat.zero_add, e3 _ (Or.inl (by omega))]
      · have H := hr (j + 1) (by omega)
        rw [show (nx + 30 - 30 + (j + 1)) % 30 = ((nx + 1) % 30 + 30 - 30 + j) % 30 by omega] at H
        exact hne _ _ _ _ (by omega) (fun i hi => by rw [cp_out _ (Or.inl (by omega)), e2 j i (by omega) (by omega) hi]) H
    · rw [cp_out _ (Or.inl (by omega)), e3 _ (Or.inl (by omega))]
  · rw [if_neg (show ¬ nI ct = (30 : Int32) from fun z => hf ((nI_eq (b := 30) (by omega) (by decide)).mp z)), M53 ct w (by omega)]
    rw [Nat.min_eq_right (by omega)] at X
    refine ⟨_, _, _, _, _, _, X, rfl, ⟨(nx + 1) % 30, ct + 1, by omega, by omega, rfl, rfl, rfl, fun j hj => ?_⟩, fun j hj => cp_out _ (Or.inl (by omega))⟩
    by_cases c : j = ct
    · subst c
      rw [show ((nx + 1) % 30 + 30 - (j + 1) + j) % 30 = nx by omega]
      exact hself _ _ fun i hi => by rw [cp_in _ hi, Nat.zero_add]
    · have H := hr j (by omega)
      rw [show (nx + 30 - ct + j) % 30 = ((nx + 1) % 30 + 30 - (ct + 1) + j) % 30 by omega] at H
      exact hne _ _ _ _ (by omega) (fun i hi => by rw [cp_out _ (Or.inl (by omega))]) H
