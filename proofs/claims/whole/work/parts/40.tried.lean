/-! what is only tried -/
theorem tr_cases {u c m : Nat} (hu : u < 256) (hc : c < 1000) (hm : m < 2 ^ 31) {M : Int64} (hM : M = Int32.toInt64 (nI m)) (y1 y2 y3 y4 : Int32) :
    (∃ r : Int32, ¬ r = 0 ∧ f_X10_triedRefusal (nI u) (nI c) y1 y2 y3 y4 (nI m) = some r ∧ ∀ (β : Type) (ref : Int32 → Option β) (body : Option β), ((f_X11_isDecree (nI u) y1).bind fun o1 => if o1 = 0 then ref (-1000000001 : Int32) else ((f_X11_isCorner (nI c) y2).bind fun o3 => if o3 = 0 then ref (-1000000001 : Int32) else ((f_X11_isWay y3).bind fun o5 => if o5 = 0 then ref (-1000000002 : Int32) else ((f_X11_in (Int32.toInt64 y4) (0 : Int64) M).bind fun o7 => if o7 = 0 then ref (-1000000002 : Int32) else body)))) = ref r) ∨
    (∃ d k j, d < 256 ∧ k < c ∧ j ≤ m ∧ y1 = nI d ∧ y2 = nI k ∧ y4 = nI j ∧ f_X10_triedRefusal (nI u) (nI c) y1 y2 y3 y4 (nI m) = some 0 ∧ ∀ (β : Type) (ref : Int32 → Option β) (body : Option β), ((f_X11_isDecree (nI u) y1).bind fun o1 => if o1 = 0 then ref (-1000000001 : Int32) else ((f_X11_isCorner (nI c) y2).bind fun o3 => if o3 = 0 then ref (-1000000001 : Int32) else ((f_X11_isWay y3).bind fun o5 => if o5 = 0 then ref (-1000000002 : Int32) else ((f_X11_in (Int32.toInt64 y4) (0 : Int64) M).bind fun o7 => if o7 = 0 then ref (-1000000002 : Int32) else body)))) = body) := by
  unfold f_X10_triedRefusal
  rcases rr_cases hu hc y1 y2 y3 with ⟨a1, a2⟩ | ⟨a1, a2, a3, a4⟩ | ⟨d, k, hd, hk, e1, e2, hy, a1, a2, a3, a4⟩
  · left
    refine ⟨_, ?_, by rw [a1, Option.bind_some, if_neg (by decide)], fun β ref body => ?_⟩
    · decide
    · rcases a2 with a2 | ⟨a2, a3⟩
      · rw [a2, Option.bind_some, if_pos rfl]
      · rw [a2, Option.bind_some, if_neg one_ne, a3, Option.bind_some, if_pos rfl]
  · left
    refine ⟨_, ?_, by rw [a1, Option.bind_some, if_neg (by decide)], fun β ref body => ?_⟩
    · decide
    · rw [a2, Option.bind_some, if_neg one_ne, a3, Option.bind_some, if_neg one_ne, a4, Option.bind_some, if_pos rfl]
  · rcases in_cases hm hM y4 with ⟨g1, g2⟩ | ⟨j, hj, e4, g1⟩
    · left
      refine ⟨(-1000000002 : Int32), by decide, ?_, fun β ref body => ?_⟩
      · rw [a1, Option.bind_some, if_pos rfl]
        rcases g2 with g2 | ⟨g2, g3⟩
        · rw [if_pos g2]
        · rw [if_neg g2, if_neg]
          intro z
          have a := Int32.lt_iff_toInt_lt.mp g3
          have b := Int32.le_iff_toInt_le.mp z
          omega
      · rw [a2, Option.bind_some, if_neg one_ne, a3, Option.bind_some, if_neg one_ne, a4, Option.bind_some, if_neg one_ne, g1, Option.bind_some, if_pos rfl]
    · right
      refine ⟨d, k, j, hd, hk, hj, e1, e2, e4, ?_, fun β ref body => ?_⟩
      · rw [a1, Option.bind_some, if_pos rfl, e4, if_neg (nI_pos (by omega)), if_pos (nI_le hj hm)]
      · rw [a2, Option.bind_some, if_neg one_ne, a3, Option.bind_some, if_neg one_ne, a4, Option.bind_some, if_neg one_ne, g1, Option.bind_some, if_neg one_ne]
theorem rw_now {h : Nat} {rounds months law holds hoarse keptIn colds : Int32} {places w : Nat → Int32} (hN : RS h (srow rounds months law holds hoarse keptIn colds) places w 0) : ∃ x, x < 512 ∧ hoarse = nI x ∧ RW h 0 x keptIn colds places w := by
  obtain ⟨n0, n1, n2, n3, n4, n5, n6, n7, x, hx, n8⟩ := rs_now hN
  exact ⟨x, hx, n8, fun j hj => by rw [Nat.zero_add]; exact n7 j hj, n5.symm, n6.symm, by rw [← n8]; exact n4.symm⟩
theorem rw_wok {h x : Nat} {keptIn colds : Int32} {places w w' : Nat → Int32} (hh : h ≤ 9) (hw : wok w w') (hW : RW h 0 x keptIn colds places w) : RW h 0 x keptIn colds places w' := by
  obtain ⟨a1, a2, a3, a4⟩ := hW
  exact ⟨fun j hj => by rw [hw _ (Or.inl (by omega))]; exact a1 j hj, by rw [hw _ (Or.inl (by omega))]; exact a2, by rw [hw _ (Or.inl (by omega))]; exact a3, by rw [hw _ (Or.inl (by omega))]; exact a4⟩
theorem wok_rfl (w : Nat → Int32) : wok w w := fun _ _ => rfl
theorem wok_tr {a b c : Nat → Int32} (h1 : wok a b) (h2 : wok b c) : wok a c := fun j hj => by rw [h2 j hj, h1 j hj]
section TRY
variable {u c h x : Nat} {keptIn colds : Int32} {places pinches sayings pinched says : Nat → Int32}
theorem q_would (hu : u < 256) (hc : c ≤ 8) (hh : h ≤ 9) (hT : TR h pinches sayings pinched says) {cs cl cd ch csp cho sp hq : Int32} {w : Nat → Int32} (hx : x < 512) (hW : RW h 0 x keptIn colds places w) (y1 y2 y3 y4 : Int32) :
    ∃ (r a1 a2 a3 a4 a5 a6 sp' hq' : Int32) (w' : Nat → Int32), f_X10_would cs cl cd ch csp cho (nI x) keptIn colds (nI u) (nI c) (nI h) places pinches sayings y1 y2 y3 y4 = some (r, a1, a2, a3, a4, a5, a6) ∧ f_X11_would (nI u) (nI c) (nI h) sp hq pinched says w y1 y2 y3 y4 = some (r, sp', hq', w') ∧ wok w w' := by
  unfold f_X10_would f_X11_would
  rcases tr_cases hu (show c < 1000 by omega) (show 2 < 2 ^ 31 by decide) (M := 2) rfl y1 y2 y3 y4 with ⟨r, hr, e1, e2⟩ | ⟨d, k, j, hd, hk, hj, rfl, rfl, rfl, e1, e2⟩
  · have e1 : f_X10_triedRefusal (nI u) (nI c) y1 y2 y3 y4 (2 : Int32) = some r := e1
    rw [e1, Option.bind_some, if_neg hr]
    exact ⟨_, _, _, _, _, _, _, _, _, _, rfl, e2 _ (fun r => some (r, sp, hq, w)) _, wok_rfl w⟩
  · have e1 : f_X10_triedRefusal (nI u) (nI c) (nI d) (nI k) y3 (nI j) (2 : Int32) = some 0 := e1
    obtain ⟨d', x', g', s', A, dA, hA, sA, xA, w', a1, a2, a3, a4, a5, a6, a7, a8, a9⟩ := try2 (liars := 0) (kept := 0) (way := y3) (sp := sp) (hq := hq) hu hh hT hc hk hd hx hW
    rw [e1, Option.bind_some, if_pos rfl]
    unfold f_X0_start
    simp only [o_nm, Option.bind_some]
    rw [a4]
    simp only [Option.bind_some]
    by_cases j0 : nI j = 0
    · rw [if_pos j0]
      exact ⟨_, _, _, _, _, _, _, s', nI g', w', rfl, (e2 _ (fun r => some (r, sp, hq, w)) _).trans (by rw [a6, Option.bind_some, if_pos j0]), a7⟩
    · rw [if_neg j0]
      by_cases j1 : nI j = (1 : Int32)
      · rw [if_pos j1]
        exact ⟨_, _, _, _, _, _, _, s', nI g', w', rfl, (e2 _ (fun r => some (r, sp, hq, w)) _).trans (by rw [a6, Option.bind_some, if_neg j0, if_pos j1]), a7⟩
      · rw [if_neg j1]
        exact ⟨_, _, _, _, _, _, _, s', nI g', w', rfl, (e2 _ (fun r => some (r, sp, hq, w)) _).trans (by rw [a6, Option.bind_some, if_neg j0, if_neg j1]), a7⟩
/-! where a law began -/
def pk (y : Int32) (n : Nat) (items : Nat → Int32) : Int32 := if y < 0 then -1 else if nI n ≤ y then -1 else items y.toNatClampNeg
theorem get_pk {N n : Nat} {items : Nat → Int32} (y : Int32) (hn : n ≤ N) (hN : N < 2 ^ 31) : f_X5_get N (nI n) items y = some (pk y n items) := by
  unfold pk
  by_cases h1 : y < 0
  · rw [if_pos h1]; exact get_out hn hN (Or.inl h1)
  · rw [if_neg h1]
    by_cases h2 : nI n ≤ y
    · rw [if_pos h2]; exact get_out hn hN (Or.inr h2)
    · rw [if_neg h2]
      obtain ⟨j, hj, rfl⟩ := nI_of h1
      have : j < n := Nat.lt_of_not_le fun z => h2 (nI_le z hj)
      rw [get_ok this hn hN, nI_clamp hj]
theorem pk_step {n : Nat} {items : Nat → Int32} (y v : Int32) (hn : n < 1000000) : pk y (n + 1) (upd items n v) = if nI n = y then v else pk y n items := by
  unfold pk
  by_cases h1 : y < 0
  · rw [if_pos h1, if_pos h1, if_neg (fun z => nI_pos (n := n) (by omega) (by rw [z]; exact h1))]
  · rw [if_neg h1, if_neg h1]
    obtain ⟨j, hj, rfl⟩ := nI_of h1
    rw [nI_clamp hj]
    by_cases e : n = j
    · subst e
      rw [if_pos rfl, if_neg (nI_ge (by omega) (by omega)), upd_s]
    · rw [if_neg (fun z => e ((nI_eq (by omega) hj).mp z)), upd_n _ _ (fun z => e z.symm)]
      by_cases l : j < n
      · rw [if_neg (nI_ge (by omega) (by omega)), if_neg (nI_ge l (by omega))]
      · rw [if_pos (nI_le (by omega) hj), if_pos (nI_le (by omega) hj)]
theorem pk_0 (y : Int32) (items : Nat → Int32) : pk y 0 items = -1 := by
  unfold pk
  by_cases z : y < 0
  · rw [if_pos z]
  · rw [if_neg z, if_pos]
    refine Int32.le_iff_toInt_le.mpr ?_
    have : ¬ y.toInt < (0 : Int32).toInt := fun q => z (Int32.lt_iff_toInt_lt.mpr q)
    have : (nI 0).toInt = (0 : Int32).toInt := rfl
    omega
def gand (u : Nat) (items : Nat → Int32) : Nat → Int32
  | 0 => nI u
  | n + 1 => gand u items n &&& items n
theorem gand_cong {u : Nat} {a b : Nat → Int32} : ∀ n, (∀ j, j < n → a j = b j) → gand u a n = gand u b n
  | 0, _ => rfl
  | n + 1, h => by
    unfold gand
    rw [gand_cong n (fun j hj => h j (by omega)), h n (by omega)]
theorem sure_loop {u n : Nat} {items : Nat → Int32} (hn : n ≤ 256) : ∀ (k i : Nat), i ≤ n → n < k + i → f_X8_sureClauses_24 (nI n) items k (gand u items i) (nI i) = some (gand u items n) := by
  intro k
  induction k with
  | zero => intro i h1 h2; omega
  | succ k ih =>
    intro i hi hk
    rw [f_X8_sureClauses_24]
    by_cases hlt : i < n
    · rw [if_neg (nI_ge hlt (by omega)), get_ok hlt hn (by decide), Option.bind_some, onm, onm, nI_1]
      exact ih (i + 1) (by omega) (by omega)
    · have e : i = n := by omega
      subst e
      rw [if_pos (nI_le (Nat.le_refl i) (by omega))]
theorem allow_le {u d : Nat} (hu : u < 256) (hd : d < 256) (h : f_X7_allows (nI u) (nI d) = some 1) : d ≤ u := by
  unfold f_X7_allows at h
  by_cases c : (nI d &&& (nI u ^^^ (-1 : Int32))) = 0
  · have e : d &&& u = d := by
      apply Nat.eq_of_testBit_eq
      intro i
      rw [Nat.testBit_and]
      by_cases hi : i < 8
      · have z : bt (nI d &&& (nI u ^^^ (-1 : Int32))) i = false := by rw [c]; exact b_0 i
        rw [b_and, b_not _ (by omega), bt_nI _ (by omega), bt_nI _ (by omega)] at z
        cases h1 : d.testBit i <;> cases h2 : u.testBit i <;> simp_all
      · have : d.testBit i = false := Nat.testBit_lt_two_pow (Nat.lt_of_lt_of_le hd (show 2 ^ 8 ≤ 2 ^ i from Nat.pow_le_pow_right (by decide) (by omega)))
        rw [this]; rfl
    rw [← e]
    exact Nat.and_le_right
  · rw [if_neg c] at h
    exact absurd h (by decide)
theorem began_tail (hu : u < 256) {hoarse : Int32} {d k0 : Int32} {way : Int32} {n : Int32} {items : Nat → Int32} {a1 a2 a3 a4 a5 a6 : Int32} : ∀ (k i : Nat), u < i → i ≤ 256 → 256 < k + i → f_X8_gatherBeginnings_10 hoarse keptIn colds (nI u) (nI c) (nI h) places pinches sayings k n a1 a2 a3 a4 a5 a6 items d k0 way (nI i) = some (n, a1, a2, a3, a4, a5, a6, items) := by
  intro k
  induction k with
  | zero => intro i h1 h2 h3; omega
  | succ k ih =>
    intro i h1 h2 h3
    rw [f_X8_gatherBeginnings_10]
    by_cases hlt : i < 256
    · rw [if_neg (show ¬ (256 : Int32) ≤ nI i from nI_ge (b := 256) hlt (by decide))]
      have ha : f_X7_allows (nI u) (nI i) = some 0 := by
        rcases decree_cases hu (nI i) with ⟨b1, b2⟩ | ⟨d, hd, e, b1, b2⟩
        · exact b1
        · exact absurd (allow_le hu hlt b1) (by omega)
      unfold f_X8_isBeginning
      rw [ha, Option.bind_some, if_pos rfl, Option.bind_some, if_pos rfl, onm, nI_1]
      exact ih (i + 1) (by omega) (by omega) (by omega)
    · have e : i = 256 := by omega
      subst e
      rw [if_pos (show (256 : Int32) ≤ nI 256 from nI_le (a := 256) (Nat.le_refl 256) (by decide))]
theorem began_loop (hu : u < 256) (hc : c ≤ 8) (hh : h ≤ 9) (hT : TR h pinches sayings pinched says) (hx : x < 512) {d k0 : Nat} {way y4 : Int32} (hk : k0 < c) : ∀ (k i n : Nat) (items : Nat → Int32) (cs cl cd ch csp cho sp hq : Int32) (w : Nat → Int32), i ≤ u + 1 → 256 < k + i → n ≤ i → RW h 0 x keptIn colds places w →
    ∃ (n' : Nat) (items' : Nat → Int32) (a1 a2 a3 a4 a5 a6 sp' hq' : Int32) (w' : Nat → Int32), n' ≤ 256 ∧ f_X8_gatherBeginnings_10 (nI x) keptIn colds (nI u) (nI c) (nI h) places pinches sayings k (nI n) cs cl cd ch csp cho items (nI d) (nI k0) way (nI i) = some (nI n', a1, a2, a3, a4, a5, a6, items') ∧ f_X11_began_44 (nI u) (nI c) (nI h) pinched says k sp hq w (nI d) (nI k0) way y4 (nI n) (pk y4 n items) (gand u items n) (nI i) = some (if y4 = (-1 : Int32) then nI n' else if y4 = (-2 : Int32) then (if nI n' = 0 then 0 else gand u items' n') else pk y4 n' items', sp', hq', w') ∧ wok w w' := by
  intro k
  induction k with
  | zero => intro i n items cs cl cd ch csp cho sp hq w h1 h2; omega
  | succ k ih =>
    intro i n items cs cl cd ch csp cho sp hq w hi hk2 hn hW
    by_cases hlt : i ≤ u
    · rw [f_X8_gatherBeginnings_10, f_X11_began_44, if_neg (show ¬ (256 : Int32) ≤ nI i from nI_ge (b := 256) (by omega) (by decide)), if_neg (nI_nlt hlt (by omega))]
      unfold f_X8_isBeginning
      rcases decree_cases hu (nI i) with ⟨b1, b2⟩ | ⟨d0, hd0, e0, b1, b2⟩
      · rw [b1, b2, Option.bind_some, Option.bind_some, if_pos rfl, if_pos rfl, Option.bind_some, if_pos rfl, onm, onm, nI_1]
        exact ih (i + 1) n items cs cl cd ch csp cho sp hq w (by omega) (by omega) (by omega) hW
      · obtain ⟨d', x', g', s', A, dA, hA, sA, xA, w', a1, a2, a3, a4, a5, a6, a7, a8, a9⟩ := try2 (liars := 0) (kept := 0) (way := way) (sp := sp) (hq := hq) hu hh hT hc hk (show i < 256 by omega) hx hW
        have hW' := rw_wok hh a7 hW
        rw [b1, b2, Option.bind_some, Option.bind_some, if_neg one_ne, if_neg one_ne]
        unfold f_X0_start
        rw [onm, Option.bind_some]
        simp only []
        rw [a4, a6, Option.bind_some, Option.bind_some]
        simp only []
        by_cases ce : nI d' = nI d
        · rw [if_pos ce, if_pos ce, Option.bind_some, if_neg one_ne, add_ok (show n < 256 by omega) (by decide), Option.bind_some, onm, nI_1]
          have e1 : gand u items n &&& nI i = gand u (upd items n (nI i)) (n + 1) := by
            show _ = gand u (upd items n (nI i)) n &&& upd items n (nI i) n
            rw [upd_s, gand_cong n (fun j hj => upd_n items (nI i) (show j ≠ n by omega))]
          obtain ⟨n', items', c1, c2, c3, c4, c5, c6, sp', hq', w2, f0, f1, f2, f3⟩ := ih (i + 1) (n + 1) (upd items n (nI i)) (keptIn ||| 0) 0 (nI d') (nI g') s' (nI x') s' (nI g') w' (by omega) (by omega) (by omega) hW'
          refine ⟨n', items', c1, c2, c3, c4, c5, c6, sp', hq', w2, f0, f1, ?_, wok_tr a7 f3⟩
          rw [← f2, pk_step _ _ (by omega), ← e1]
          by_cases cy : nI n = y4
          · rw [if_pos cy, if_pos cy, onm, onm, onm, nI_1]
          · rw [if_neg cy, if_neg cy, onm, onm, onm, nI_1]
        · rw [if_neg ce, if_neg ce, Option.bind_some, if_pos rfl, onm, onm, nI_1]
          obtain ⟨n', items', c1, c2, c3, c4, c5, c6, sp', hq', w2, f0, f1, f2, f3⟩ := ih (i + 1) n items (keptIn ||| 0) 0 (nI d') (nI g') s' (nI x') s' (nI g') w' (by omega) (by omega) (by omega) hW'
          exact ⟨n', items', c1, c2, c3, c4, c5, c6, sp', hq', w2, f0, f1, f2, wok_tr a7 f3⟩
    · refine ⟨n, items, cs, cl, cd, ch, csp, cho, sp, hq, w, by omega, began_tail hu (k + 1) i (by omega) (by omega) hk2, ?_, wok_rfl w⟩
      rw [f_X11_began_44, if_pos (nI_lt (by omega) (by omega))]
      by_cases y1 : y4 = (-1 : Int32)
      · rw [if_pos y1, if_pos y1]
      · rw [if_neg y1, if_neg y1]
        by_cases y2 : y4 = (-2 : Int32)
        · rw [if_pos y2, if_pos y2]
          by_cases n0 : nI n = 0
          · rw [if_pos n0, if_pos n0]
          · rw [if_neg n0, if_neg n0]
        · rw [if_neg y2, if_neg y2]
theorem q_began (hu : u < 256) (hc : c ≤ 8) (hh : h ≤ 9) (hT : TR h pinches sayings pinched says) {cs cl cd ch csp cho sp hq bc : Int32} {bi w : Nat → Int32} (hx : x < 512) (hW : RW h 0 x keptIn colds places w) (y1 y2 y3 y4 : Int32) :
    ∃ (r a1 a2 a3 a4 a5 a6 bc' : Int32) (bi' : Nat → Int32) (sp' hq' : Int32) (w' : Nat → Int32), f_X10_began cs cl cd ch csp cho (nI x) keptIn colds (nI u) (nI c) (nI h) places pinches sayings bc bi y1 y2 y3 y4 = some (r, a1, a2, a3, a4, a5, a6, bc', bi') ∧ f_X11_began (nI u) (nI c) (nI h) sp hq pinched says w y1 y2 y3 y4 = some (r, sp', hq', w') ∧ wok w w' := by
  unfold f_X10_began f_X11_began
  rcases rr_cases hu (show c < 1000 by omega) y1 y2 y3 with ⟨a1, a2⟩ | ⟨a1, a2, a3, a4⟩ | ⟨d, k, hd, hk, rfl, rfl, hy, a1, a2, a3, a4⟩
  · rw [a1, Option.bind_some, if_neg (by decide)]
    rcases a2 with a2 | ⟨a2, a3⟩
    · rw [a2, Option.bind_some, if_pos rfl]
      exact ⟨_, _, _, _, _, _, _, _, _, _, _, _, rfl, rfl, wok_rfl w⟩
    · rw [a2, Option.bind_some, if_neg one_ne, a3, Option.bind_some, if_pos rfl]
      exact ⟨_, _, _, _, _, _, _, _, _, _, _, _, rfl, rfl, wok_rfl w⟩
  · rw [a1, Option.bind_some, if_neg (by decide), a2, Option.bind_some, if_neg one_ne, a3, Option.bind_some, if_neg one_ne, a4, Option.bind_some, if_pos rfl]
    exact ⟨_, _, _, _, _, _, _, _, _, _, _, _, rfl, rfl, wok_rfl w⟩
  · rw [a1, Option.bind_some, if_pos rfl, a2, Option.bind_some, if_neg one_ne, a3, Option.bind_some, if_neg one_ne, a4, Option.bind_some, if_neg one_ne]
    obtain ⟨n', items', c1, c2, c3, c4, c5, c6, sp', hq', w2, f0, f1, f2, f3⟩ := began_loop (x := x) (y4 := y4) (d := d) (way := y3) hu hc hh hT hx hk 1000 0 0 bi cs cl cd ch csp cho sp hq w (by omega) (by omega) (by omega) hW
    have f1 : f_X8_gatherBeginnings_10 (nI x) keptIn colds (nI u) (nI c) (nI h) places pinches sayings 1000 (0 : Int32) cs cl cd ch csp cho bi (nI d) (nI k) y3 (0 : Int32) = some (nI n', c1, c2, c3, c4, c5, c6, items') := f1
    have p0 : pk y4 0 bi = -1 := by
      unfold pk
      by_cases z : y4 < 0
      · rw [if_pos z]
      · rw [if_neg z, if_pos]
        refine Int32.le_iff_toInt_le.mpr ?_
        have : ¬ y4.toInt < (0 : Int32).toInt := fun q => z (Int32.lt_iff_toInt_lt.mpr q)
        have : (nI 0).toInt = (0 : Int32).toInt := rfl
        omega
    rw [p0] at f2
    have f2 : f_X11_began_44 (nI u) (nI c) (nI h) pinched says 1000 sp hq w (nI d) (nI k) y3 y4 (0 : Int32) (-1 : Int32) (nI u) (0 : Int32) = _ := f2
    unfold f_X8_gatherBeginnings f_X5_clear
    rw [Option.bind_some, f1, Option.bind_some, f2]
    by_cases y1 : y4 = (-1 : Int32)
    · rw [if_pos y1, if_pos y1]
      exact ⟨_, _, _, _, _, _, _, _, _, _, _, _, rfl, rfl, f3⟩
    · rw [if_neg y1, if_neg y1]
      by_cases y2 : y4 = (-2 : Int32)
      · rw [if_pos y2, if_pos y2]
        have hs : f_X8_sureClauses (nI n') (nI u) items' = some (if nI n' = 0 then 0 else gand u items' n') := by
          unfold f_X8_sureClauses
          by_cases n0 : nI n' = 0
          · rw [if_pos n0, if_pos n0, n0, f_X8_sureClauses_24, if_pos (by decide)]
          · rw [if_neg n0, if_neg n0]
            exact sure_loop (u := u) f0 1000 0 (by omega) (by omega)
        rw [hs, Option.bind_some]
        exact ⟨_, _, _, _, _, _, _, _, _, _, _, _, rfl, rfl, f3⟩
      · rw [if_neg y2, if_neg y2, get_pk y4 f0 (by decide), Option.bind_some]
        exact ⟨_, _, _, _, _, _, _, _, _, _, _, _, rfl, rfl, f3⟩
end TRY
