/-! liars hired -/
theorem beer_loop {c : Nat} {beers beer : Nat → Int32} {sx : Int32} (hc : c ≤ 8) (hB : ∀ k, k < c → beers k = beer k ∧ ∃ b, b < 100 ∧ beer k = nI b) : ∀ (n i acc : Nat), i ≤ c → c < n + i → ∃ B, B ≤ acc + 100 * (c - i) ∧ f_X7_beerOf_4 (nI c) beers n sx (nI acc) (nI i) = some (nI B) ∧ f_X11_beerOf_4 (nI c) beer n sx (nI acc) (nI i) = some (nI B) := by
  intro n
  induction n with
  | zero => intro i acc h1 h2; omega
  | succ n ih =>
    intro i acc hi hn
    rw [f_X7_beerOf_4, f_X11_beerOf_4]
    by_cases hlt : i < c
    · rw [if_neg (nI_ge hlt (by omega)), if_neg (nI_ge hlt (by omega))]
      obtain ⟨e1, b, hb, e2⟩ := hB i hlt
      cases ht : bt sx i with
      | false =>
        rw [has_f ht (by omega), hasM_f ht (by omega), Option.bind_some, Option.bind_some, if_pos rfl, if_pos rfl, onm, onm, onm, onm, show (0 : Int32) = nI 0 from rfl, nI_add, nI_1]
        obtain ⟨B, h1, h2, h3⟩ := ih (i + 1) acc (by omega) (by omega)
        exact ⟨B, by omega, h2, h3⟩
      | true =>
        rw [has_t ht (by omega), hasM_t ht (by omega), Option.bind_some, Option.bind_some, if_neg one_ne, if_neg one_ne, at_in (show i < 8 by omega) (by decide), ld_in (show i < 16 by omega) (by decide), Option.bind_some, Option.bind_some, onm, onm, onm, onm, e1, e2, nI_add, nI_1]
        obtain ⟨B, h1, h2, h3⟩ := ih (i + 1) (acc + b) (by omega) (by omega)
        exact ⟨B, by omega, h2, h3⟩
    · rw [if_pos (nI_le (by omega) (by omega)), if_pos (nI_le (by omega) (by omega))]
      exact ⟨acc, by omega, rfl, rfl⟩
theorem beer_of {c : Nat} {beers beer : Nat → Int32} (sx : Int32) (hc : c ≤ 8) (hB : ∀ k, k < c → beers k = beer k ∧ ∃ b, b < 100 ∧ beer k = nI b) : ∃ B, B ≤ 800 ∧ f_X7_beerOf (nI c) beers sx = some (nI B) ∧ f_X11_beerOf (nI c) beer sx = some (nI B) := by
  obtain ⟨B, h1, h2, h3⟩ := beer_loop (sx := sx) hc hB 1000 0 0 (by omega) (by omega)
  exact ⟨B, by omega, h2, h3⟩
theorem full_1 : ∀ c, c ≤ 9 → ((1 : Int32) <<< (nI c &&& 31)) = nI (2 ^ c) ∧ ((1 : Int32) <<< (nI c &&& 31)) - (1 : Int32) = nI (2 ^ c - 1) ∧ 2 ^ c ≤ 512 ∧ 0 < 2 ^ c := by decide +kernel
theorem full_8 : ∀ c, c ≤ 8 → 2 ^ c ≤ 256 := by decide +kernel
section HIR
variable {u c h x : Nat} {keptIn colds : Int32} {places pinches sayings pinched says beers beer : Nat → Int32}
def HR (c : Nat) (beers : Nat → Int32) (best bb mb : Int32) : Prop := (best = -1 ∧ mb = 99999999) ∨ ∃ b B : Nat, b < 256 ∧ B ≤ 800 ∧ best = nI b ∧ bb = nI B ∧ mb = nI B ∧ f_X7_beerOf (nI c) beers (nI b) = some (nI B)
theorem hired_loop (hu : u < 256) (hc : c ≤ 8) (hh : h ≤ 9) (hT : TR h pinches sayings pinched says) (hB : ∀ k, k < c → beers k = beer k ∧ ∃ b, b < 100 ∧ beer k = nI b) (hx : x < 512) {d k0 : Nat} {way y4 : Int32} (hd : d < 256) (hk : k0 < c) : ∀ (k i : Nat) (best bb mb cs cl cd ch csp cho sp hq : Int32) (w : Nat → Int32), i ≤ 2 ^ c → 256 < k + i → RW h 0 x keptIn colds places w → HR c beers best bb mb →
    ∃ (r best' a1 a2 a3 a4 a5 a6 sp' hq' : Int32) (w' : Nat → Int32), f_X8_findLiars_9 (nI x) keptIn colds (nI u) (nI c) (nI h) places beers pinches sayings k cs cl cd ch csp cho (nI d) (nI k0) way best bb (nI i) = some (best', a1, a2, a3, a4, a5, a6) ∧ f_X11_hired_50 (nI u) (nI c) (nI h) beer pinched says k sp hq w (nI d) (nI k0) way y4 best mb (nI i) = some (r, sp', hq', w') ∧ wok w w' ∧ ((best' = -1 ∧ r = -1) ∨ (¬ best' = -1 ∧ ∃ B, f_X7_beerOf (nI c) beers best' = some B ∧ r = if y4 = (1 : Int32) then best' else B)) := by
  have hc8 := full_8 c hc
  obtain ⟨f1, f2, f3, f4⟩ := full_1 c (by omega)
  intro k
  induction k with
  | zero => intro i best bb mb cs cl cd ch csp cho sp hq w h1 h2; omega
  | succ k ih =>
    intro i best bb mb cs cl cd ch csp cho sp hq w hi hk2 hW hR
    rw [f_X8_findLiars_9, f_X11_hired_50]
    unfold f_X10_firstOf
    rw [Option.bind_some, f2, f1]
    by_cases hlt : i < 2 ^ c
    · rw [if_neg (nI_nlt (by omega) (by omega)), if_neg (nI_ge hlt (by omega))]
      obtain ⟨B, hB1, hB2, hB3⟩ := beer_of (nI i) hc hB
      obtain ⟨d', x', g', s', A, dA, hA, sA, xA, w', a1, a2, a3, a4, a5, a6, a7, a8, a9⟩ := try2 (liars := nI i) (kept := 0) (way := way) (sp := sp) (hq := hq) hu hh hT hc hk hd hx hW
      have hW' := rw_wok hh a7 hW
      have hg : (nI g' = nI (2 ^ c - 1)) ↔ A = true := by rw [a9]; exact nI_eq (by omega) (by omega)
      rw [hB2, hB3, Option.bind_some, Option.bind_some, a6, Option.bind_some]
      have X : ∀ bst b0, f_X8_findLiars_48 (nI x) keptIn colds (nI u) (nI c) (nI h) places beers pinches sayings (f_X8_findLiars_9 (nI x) keptIn colds (nI u) (nI c) (nI h) places beers pinches sayings k) cs cl cd ch csp cho (nI d) (nI k0) way bst b0 (nI i) (nI B) = if A = true then f_X8_findLiars_9 (nI x) keptIn colds (nI u) (nI c) (nI h) places beers pinches sayings k (keptIn ||| 0) (nI i) dA hA sA xA (nI d) (nI k0) way (nI i) (nI B) (nI (i + 1)) else f_X8_findLiars_9 (nI x) keptIn colds (nI u) (nI c) (nI h) places beers pinches sayings k (keptIn ||| 0) (nI i) dA hA sA xA (nI d) (nI k0) way bst b0 (nI (i + 1)) := by
        intro bst b0
        unfold f_X8_findLiars_48 f_X8_holdsWithLiars f_X0_start
        rw [onm, Option.bind_some]
        simp only []
        rw [a5, Option.bind_some]
        cases A with
        | true => rw [if_pos rfl, if_pos rfl]; simp only []; rw [show o_zb (1 : Int32) = some () from rfl, Option.bind_some, Option.bind_some, if_neg one_ne, onm, nI_1]
        | false => rw [if_neg (by decide), if_neg (by decide)]; simp only []; rw [show o_zb (0 : Int32) = some () from rfl, Option.bind_some, Option.bind_some, if_pos rfl, onm, nI_1]
      have M : (if nI g' = nI (2 ^ c - 1) then (f_X11_hired_108 (nI u) (nI c) (nI h) beer pinched says (f_X11_hired_50 (nI u) (nI c) (nI h) beer pinched says k) s' (nI g') w' (nI d) (nI k0) way y4 best mb (nI i) (nI B) (1 : Int32)) else (f_X11_hired_108 (nI u) (nI c) (nI h) beer pinched says (f_X11_hired_50 (nI u) (nI c) (nI h) beer pinched says k) s' (nI g') w' (nI d) (nI k0) way y4 best mb (nI i) (nI B) (0 : Int32))) = if A = true then f_X11_hired_50 (nI u) (nI c) (nI h) beer pinched says k s' (nI g') w' (nI d) (nI k0) way y4 (nI i) (nI B) (nI (i + 1)) else f_X11_hired_50 (nI u) (nI c) (nI h) beer pinched says k s' (nI g') w' (nI d) (nI k0) way y4 best mb (nI (i + 1)) := by
        unfold f_X11_hired_108 f_X11_hired_122
        by_cases cA : A = true
        · rw [if_pos (hg.mpr cA), if_pos cA, if_neg one_ne, if_neg one_ne, onm, nI_1]
        · rw [if_neg (fun z => cA (hg.mp z)), if_neg cA, if_pos rfl, if_pos rfl, onm, nI_1]
      have go : ∃ (r best' a1 a2 a3 a4 a5 a6 sp' hq' : Int32) (w2 : Nat → Int32), f_X8_findLiars_48 (nI x) keptIn colds (nI u) (nI c) (nI h) places beers pinches sayings (f_X8_findLiars_9 (nI x) keptIn colds (nI u) (nI c) (nI h) places beers pinches sayings k) cs cl cd ch csp cho (nI d) (nI k0) way best bb (nI i) (nI B) = some (best', a1, a2, a3, a4, a5, a6) ∧ (if nI g' = nI (2 ^ c - 1) then (f_X11_hired_108 (nI u) (nI c) (nI h) beer pinched says (f_X11_hired_50 (nI u) (nI c) (nI h) beer pinched says k) s' (nI g') w' (nI d) (nI k0) way y4 best mb (nI i) (nI B) (1 : Int32)) else (f_X11_hired_108 (nI u) (nI c) (nI h) beer pinched says (f_X11_hired_50 (nI u) (nI c) (nI h) beer pinched says k) s' (nI g') w' (nI d) (nI k0) way y4 best mb (nI i) (nI B) (0 : Int32))) = some (r, sp', hq', w2) ∧ wok w w2 ∧ ((best' = -1 ∧ r = -1) ∨ (¬ best' = -1 ∧ ∃ B, f_X7_beerOf (nI c) beers best' = some B ∧ r = if y4 = (1 : Int32) then best' else B)) := by
        rw [X, M]
        by_cases cA : A = true
        · rw [if_pos cA, if_pos cA]
          obtain ⟨r, best', b1, b2, b3, b4, b5, b6, sp', hq', w2, g1, g2, g3, g4⟩ := ih (i + 1) (nI i) (nI B) (nI B) (keptIn ||| 0) (nI i) dA hA sA xA s' (nI g') w' (by omega) (by omega) hW' (Or.inr ⟨i, B, by omega, hB1, rfl, rfl, rfl, hB2⟩)
          exact ⟨r, best', b1, b2, b3, b4, b5, b6, sp', hq', w2, g1, g2, wok_tr a7 g3, g4⟩
        · rw [if_neg cA, if_neg cA]
          obtain ⟨r, best', b1, b2, b3, b4, b5, b6, sp', hq', w2, g1, g2, g3, g4⟩ := ih (i + 1) best bb mb (keptIn ||| 0) (nI i) dA hA sA xA s' (nI g') w' (by omega) (by omega) hW' hR
          exact ⟨r, best', b1, b2, b3, b4, b5, b6, sp', hq', w2, g1, g2, wok_tr a7 g3, g4⟩
      rcases hR with ⟨e1, e2⟩ | ⟨b, B0, q1, q2, e1, e2, e3, q3⟩
      · rw [if_pos e1, if_neg (show ¬ mb ≤ nI B by rw [e2]; exact nI_ge (b := 99999999) (by omega) (by decide))]
        exact go
      · have ne : ¬ best = -1 := by
          rw [e1]
          intro z
          have := congrArg Int32.toInt z
          rw [nI_toInt (by omega)] at this
          have h1 : (-1 : Int32).toInt = -1 := rfl
          omega
        rw [if_neg ne]
        by_cases cb : bb ≤ nI B
        · rw [if_pos cb, if_pos (show mb ≤ nI B by rw [e3, ← e2]; exact cb), onm, onm, nI_1]
          exact ih (i + 1) best bb mb cs cl cd ch csp cho sp hq w (by omega) (by omega) hW (Or.inr ⟨b, B0, q1, q2, e1, e2, e3, q3⟩)
        · rw [if_neg cb, if_neg (show ¬ mb ≤ nI B by rw [e3, ← e2]; exact cb)]
          exact go
    · rw [if_pos (nI_lt (by omega) (by omega)), if_pos (nI_le (by omega) (by omega))]
      rcases hR with ⟨e1, e2⟩ | ⟨b, B0, q1, q2, e1, e2, e3, q3⟩
      · rw [if_pos e1]
        exact ⟨_, _, _, _, _, _, _, _, _, _, _, rfl, rfl, wok_rfl w, Or.inl ⟨e1, e1⟩⟩
      · have ne : ¬ best = -1 := by
          rw [e1]
          intro z
          have := congrArg Int32.toInt z
          rw [nI_toInt (by omega)] at this
          have h1 : (-1 : Int32).toInt = -1 := rfl
          omega
        rw [if_neg ne]
        by_cases y1 : y4 = (1 : Int32)
        · rw [if_pos y1]
          exact ⟨_, _, _, _, _, _, _, _, _, _, _, rfl, rfl, wok_rfl w, Or.inr ⟨ne, nI B0, by rw [e1]; exact q3, by rw [if_pos y1]⟩⟩
        · rw [if_neg y1]
          exact ⟨_, _, _, _, _, _, _, _, _, _, _, rfl, rfl, wok_rfl w, Or.inr ⟨ne, nI B0, by rw [e1]; exact q3, by rw [if_neg y1]; exact e3⟩⟩
theorem q_hired (hu : u < 256) (hc : c ≤ 8) (hh : h ≤ 9) (hT : TR h pinches sayings pinched says) (hB : ∀ k, k < c → beers k = beer k ∧ ∃ b, b < 100 ∧ beer k = nI b) {cs cl cd ch csp cho sp hq : Int32} {w : Nat → Int32} (hx : x < 512) (hW : RW h 0 x keptIn colds places w) (y1 y2 y3 y4 : Int32) :
    ∃ (r a1 a2 a3 a4 a5 a6 sp' hq' : Int32) (w' : Nat → Int32), f_X10_hired cs cl cd ch csp cho (nI x) keptIn colds (nI u) (nI c) (nI h) places beers pinches sayings y1 y2 y3 y4 = some (r, a1, a2, a3, a4, a5, a6) ∧ f_X11_hired (nI u) (nI c) (nI h) sp hq beer pinched says w y1 y2 y3 y4 = some (r, sp', hq', w') ∧ wok w w' := by
  unfold f_X10_hired f_X11_hired
  rcases tr_cases hu (show c < 1000 by omega) (show 1 < 2 ^ 31 by decide) (M := 1) rfl y1 y2 y3 y4 with ⟨r, hr, e1, e2⟩ | ⟨d, k, j, hd, hk, hj, rfl, rfl, rfl, e1, e2⟩
  · have e1 : f_X10_triedRefusal (nI u) (nI c) y1 y2 y3 y4 (1 : Int32) = some r := e1
    rw [e1, Option.bind_some, if_neg hr]
    exact ⟨_, _, _, _, _, _, _, _, _, _, rfl, e2 _ (fun r => some (r, sp, hq, w)) _, wok_rfl w⟩
  · have e1 : f_X10_triedRefusal (nI u) (nI c) (nI d) (nI k) y3 (nI j) (1 : Int32) = some 0 := e1
    have := full_1 c (by omega)
    obtain ⟨r, best', a1, a2, a3, a4, a5, a6, sp', hq', w', g1, g2, g3, g4⟩ := hired_loop (y4 := nI j) (way := y3) hu hc hh hT hB hx hd hk 1000 0 (-1) 0 99999999 cs cl cd ch csp cho sp hq w (by omega) (by omega) hW (Or.inl ⟨rfl, rfl⟩)
    have g1 : f_X8_findLiars cs cl cd ch csp cho (nI x) keptIn colds (nI u) (nI c) (nI h) places beers pinches sayings (nI d) (nI k) y3 = some (best', a1, a2, a3, a4, a5, a6) := g1
    have G := (e2 _ (fun r => some (r, sp, hq, w)) (f_X11_hired_50 (nI u) (nI c) (nI h) beer pinched says 1000 sp hq w (nI d) (nI k) y3 (nI j) (-1 : Int32) (99999999 : Int32) (0 : Int32))).trans g2
    rw [e1, Option.bind_some, if_pos rfl, g1, Option.bind_some]
    rcases g4 with ⟨q1, q2⟩ | ⟨q1, B, q2, q3⟩
    · rw [if_pos q1]
      exact ⟨r, _, _, _, _, _, _, _, _, _, by rw [q2, q1], G, g3⟩
    · rw [if_neg q1]
      by_cases y1 : nI j = (1 : Int32)
      · rw [if_pos y1] at q3 ⊢
        exact ⟨r, _, _, _, _, _, _, _, _, _, by rw [q3], G, g3⟩
      · rw [if_neg y1] at q3 ⊢
        rw [q2, Option.bind_some]
        exact ⟨r, _, _, _, _, _, _, _, _, _, by rw [q3], G, g3⟩
/-! who would spoil it -/
def VR (u c h x d k0 : Nat) (keptIn colds way : Int32) (places pinches sayings : Nat → Int32) (best cnt : Int32) : Prop := ∃ (set dd ss xx : Int32) (g : Nat), g < 256 ∧ f_X10_setOfOne best = some set ∧ f_X0_goRound (keptIn ||| set) 0 (nI d) 0 0 (nI x) colds (nI u) (nI c) (nI h) places pinches sayings (nI k0) way = some (dd, nI g, ss, xx) ∧ cnt = nI (pc g)
theorem cnt_eq {d k0 : Nat} {way set dd ss xx cs cl cd ch csp cho : Int32} {g : Nat} (hg : g < 256) (e : f_X0_goRound (keptIn ||| set) 0 (nI d) 0 0 (nI x) colds (nI u) (nI c) (nI h) places pinches sayings (nI k0) way = some (dd, nI g, ss, xx)) : f_X8_countHolding cs cl cd ch csp cho (nI x) keptIn colds (nI u) (nI c) (nI h) places pinches sayings (nI d) (nI k0) way set = some (nI (pc g), keptIn ||| set, 0, dd, nI g, ss, xx) := by
  unfold f_X8_countHolding f_X0_start
  rw [onm, Option.bind_some]
  simp only []
  rw [e, Option.bind_some, (pc_all g (by omega)).1, Option.bind_some]
theorem spoilt_loop (hu : u < 256) (hc : c ≤ 8) (hh : h ≤ 9) (hT : TR h pinches sayings pinched says) (hx : x < 512) {d k0 : Nat} {way y4 : Int32} (hd : d < 256) (hk : k0 < c) : ∀ (k i : Nat) (best cnt cs cl cd ch csp cho sp hq : Int32) (w : Nat → Int32), i ≤ h → h < k + i → RW h 0 x keptIn colds places w → VR u c h x d k0 keptIn colds way places pinches sayings best cnt →
    ∃ (best' cnt' a1 a2 a3 a4 a5 a6 sp' hq' : Int32) (w' : Nat → Int32), f_X8_findVictim_16 (nI x) keptIn colds (nI u) (nI c) (nI h) places pinches sayings k cs cl cd ch csp cho (nI d) (nI k0) way best cnt (nI i) = some (best', a1, a2, a3, a4, a5, a6) ∧ f_X11_spoilt_66 (nI u) (nI c) (nI h) pinched says k sp hq w (nI d) (nI k0) way y4 best cnt (nI i) = some (if y4 = 0 then cnt' else best', sp', hq', w') ∧ wok w w' ∧ VR u c h x d k0 keptIn colds way places pinches sayings best' cnt' := by
  intro k
  induction k with
  | zero => intro i best cnt cs cl cd ch csp cho sp hq w h1 h2; omega
  | succ k ih =>
    intro i best cnt cs cl cd ch csp cho sp hq w hi hk2 hW hV
    rw [f_X8_findVictim_16, f_X11_spoilt_66]
    by_cases hlt : i < h
    · rw [if_neg (nI_ge hlt (by omega)), if_neg (nI_ge hlt (by omega)), (l_w w).2.1, Option.bind_some, show w 10 = keptIn from hW.2.1]
      cases ht : bt keptIn i with
      | true =>
        rw [has_t ht (by omega), hasM_t ht (by omega), Option.bind_some, Option.bind_some, if_neg one_ne, if_neg one_ne, onm, onm, nI_1]
        exact ih (i + 1) best cnt cs cl cd ch csp cho sp hq w (by omega) (by omega) hW hV
      | false =>
        obtain ⟨d', x', g', s', A, dA, hA, sA, xA, w', a1, a2, a3, a4, a5, a6, a7, a8, a9⟩ := try2 (liars := 0) (kept := (1 : Int32) <<< (nI i &&& 31)) (way := way) (sp := sp) (hq := hq) hu hh hT hc hk hd hx hW
        have hW' := rw_wok hh a7 hW
        rw [has_f ht (by omega), hasM_f ht (by omega), Option.bind_some, Option.bind_some, if_pos rfl, if_pos rfl, cnt_eq a3 a4, a6, Option.bind_some, Option.bind_some, (pc_all g' (by omega)).2.1, Option.bind_some]
        unfold f_X11_spoilt_123
        rw [(pc_all g' (by omega)).2.1, Option.bind_some, Option.bind_some]
        by_cases cl2 : cnt ≤ nI (pc g')
        · rw [if_pos cl2, if_pos cl2, if_pos cl2, onm, onm, nI_1]
          obtain ⟨best', cnt', b1, b2, b3, b4, b5, b6, sp', hq', w2, g1, g2, g3, g4⟩ := ih (i + 1) best cnt (keptIn ||| (1 : Int32) <<< (nI i &&& 31)) 0 (nI d') (nI g') s' (nI x') s' (nI g') w' (by omega) (by omega) hW' hV
          exact ⟨best', cnt', b1, b2, b3, b4, b5, b6, sp', hq', w2, g1, g2, wok_tr a7 g3, g4⟩
        · rw [if_neg cl2, if_neg cl2, Option.bind_some, if_neg cl2, Option.bind_some, onm, onm, nI_1]
          have hV' : VR u c h x d k0 keptIn colds way places pinches sayings (nI i) (nI (pc g')) := ⟨(1 : Int32) <<< (nI i &&& 31), nI d', s', nI x', g', a3, by unfold f_X10_setOfOne; rw [if_pos (nI_pos' (by omega))], a4, rfl⟩
          obtain ⟨best', cnt', b1, b2, b3, b4, b5, b6, sp', hq', w2, g1, g2, g3, g4⟩ := ih (i + 1) (nI i) (nI (pc g')) (keptIn ||| (1 : Int32) <<< (nI i &&& 31)) 0 (nI d') (nI g') s' (nI x') s' (nI g') w' (by omega) (by omega) hW' hV'
          exact ⟨best', cnt', b1, b2, b3, b4, b5, b6, sp', hq', w2, g1, g2, wok_tr a7 g3, g4⟩
    · rw [if_pos (nI_le (by omega) (by omega)), if_pos (nI_le (by omega) (by omega))]
      refine ⟨best, cnt, _, _, _, _, _, _, sp, hq, w, rfl, ?_, wok_rfl w, hV⟩
      by_cases y0 : y4 = 0
      · rw [if_pos y0, if_pos y0]
      · rw [if_neg y0, if_neg y0]
theorem q_spoilt (hu : u < 256) (hc : c ≤ 8) (hh : h ≤ 9) (hT : TR h pinches sayings pinched says) {cs cl cd ch csp cho sp hq : Int32} {w : Nat → Int32} (hx : x < 512) (hW : RW h 0 x keptIn colds places w) (y1 y2 y3 y4 : Int32) :
    ∃ (r a1 a2 a3 a4 a5 a6 sp' hq' : Int32) (w' : Nat → Int32), f_X10_spoilt cs cl cd ch csp cho (nI x) keptIn colds (nI u) (nI c) (nI h) places pinches sayings y1 y2 y3 y4 = some (r, a1, a2, a3, a4, a5, a6) ∧ f_X11_spoilt (nI u) (nI c) (nI h) sp hq pinched says w y1 y2 y3 y4 = some (r, sp', hq', w') ∧ wok w w' := by
  unfold f_X10_spoilt f_X11_spoilt
  rcases tr_cases hu (show c < 1000 by omega) (show 1 < 2 ^ 31 by decide) (M := 1) rfl y1 y2 y3 y4 with ⟨r, hr, e1, e2⟩ | ⟨d, k, j, hd, hk, hj, rfl, rfl, rfl, e1, e2⟩
  · have e1 : f_X10_triedRefusal (nI u) (nI c) y1 y2 y3 y4 (1 : Int32) = some r := e1
    rw [e1, Option.bind_some, if_neg hr]
    exact ⟨_, _, _, _, _, _, _, _, _, _, rfl, e2 _ (fun r => some (r, sp, hq, w)) _, wok_rfl w⟩
  · have e1 : f_X10_triedRefusal (nI u) (nI c) (nI d) (nI k) y3 (nI j) (1 : Int32) = some 0 := e1
    obtain ⟨d', x', g', s', A, dA, hA, sA, xA, w', a1, a2, a3, a4, a5, a6, a7, a8, a9⟩ := try2 (liars := 0) (kept := 0) (way := y3) (sp := sp) (hq := hq) hu hh hT hc hk hd hx hW
    have hW' := rw_wok hh a7 hW
    obtain ⟨best', cnt', b1, b2, b3, b4, b5, b6, sp', hq', w2, g1, g2, g3, g4⟩ := spoilt_loop (y4 := nI j) (way := y3) hu hc hh hT hx hd hk 1000 0 (-1) (nI (pc g')) (keptIn ||| 0) 0 (nI d') (nI g') s' (nI x') s' (nI g') w' (by omega) (by omega) hW' ⟨0, nI d', s', nI x', g', a3, rfl, a4, rfl⟩
    have G := e2 _ (fun r => some (r, sp, hq, w)) ((f_X11_tryRound (nI u) (nI c) (nI h) sp hq pinched says w (nI d) (nI k) y3 (0 : Int32) (0 : Int32)).bind fun o23 => (f_X11_ones o23.2.2.1).bind fun o24 => f_X11_spoilt_66 (nI u) (nI c) (nI h) pinched says 1000 o23.2.1 o23.2.2.1 o23.2.2.2 (nI d) (nI k) y3 (nI j) (-1 : Int32) o24 (0 : Int32))
    have g2 : f_X11_spoilt_66 (nI u) (nI c) (nI h) pinched says 1000 s' (nI g') w' (nI d) (nI k) y3 (nI j) (-1 : Int32) (nI (pc g')) (0 : Int32) = _ := g2
    have G := G.trans (show _ = some (if nI j = 0 then cnt' else best', sp', hq', w2) by rw [a6, Option.bind_some, (pc_all g' (by omega)).2.1, Option.bind_some]; exact g2)
    have V : f_X8_findVictim cs cl cd ch csp cho (nI x) keptIn colds (nI u) (nI c) (nI h) places pinches sayings (nI d) (nI k) y3 = some (best', b1, b2, b3, b4, b5, b6) := by
      unfold f_X8_findVictim
      rw [cnt_eq a3 a4, Option.bind_some]
      exact g1
    rw [e1, Option.bind_some, if_pos rfl, V, Option.bind_some]
    by_cases y1 : nI j = (1 : Int32)
    · rw [if_pos y1]
      rw [if_neg (show ¬ nI j = 0 by rw [y1]; exact one_ne)] at G
      exact ⟨_, _, _, _, _, _, _, _, _, _, rfl, G, wok_tr a7 g3⟩
    · have j0 : nI j = 0 := by
        have : j = 0 := by
          rcases Nat.le_one_iff_eq_zero_or_eq_one.mp hj with z | z
          · exact z
          · exact absurd (by rw [z]; rfl) y1
        rw [this]; rfl
      obtain ⟨set, dd, ss, xx, g, v1, v2, v3, v4⟩ := g4
      rw [if_pos j0] at G
      rw [if_neg y1, v2, Option.bind_some, cnt_eq v1 v3, Option.bind_some]
      exact ⟨_, _, _, _, _, _, _, _, _, _, by rw [v4], G, wok_tr a7 g3⟩
end HIR
