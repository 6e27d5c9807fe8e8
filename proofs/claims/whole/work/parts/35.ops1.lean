/-! what is refused, here and there -/
theorem cmp_lt (x y : Int64) : lg_cmp x y < 0 ↔ x < y := by
  unfold lg_cmp
  by_cases h1 : x > y
  · rw [if_pos h1]
    refine ⟨fun z => absurd z (by decide), fun z => ?_⟩
    have a := Int64.lt_iff_toInt_lt.mp h1
    have b := Int64.lt_iff_toInt_lt.mp z
    omega
  · rw [if_neg h1]
    by_cases h2 : x = y
    · rw [if_pos h2]
      refine ⟨fun z => absurd z (by decide), fun z => ?_⟩
      have b := Int64.lt_iff_toInt_lt.mp z
      rw [h2] at b
      omega
    · rw [if_neg h2]
      refine ⟨fun _ => ?_, fun _ => by decide⟩
      refine Int64.lt_iff_toInt_lt.mpr ?_
      have a : ¬ y.toInt < x.toInt := fun z => h1 (Int64.lt_iff_toInt_lt.mpr z)
      have b : ¬ x.toInt = y.toInt := fun z => h2 (Int64.toInt_inj.mp z)
      omega
theorem cmp_gt (x y : Int64) : 0 < lg_cmp x y ↔ y < x := by
  unfold lg_cmp
  by_cases h1 : x > y
  · rw [if_pos h1]
    exact ⟨fun _ => h1, fun _ => by decide⟩
  · rw [if_neg h1]
    refine ⟨fun z => ?_, fun z => absurd z h1⟩
    by_cases h2 : x = y
    · rw [if_pos h2] at z; exact absurd z (by decide)
    · rw [if_neg h2] at z; exact absurd z (by decide)
theorem wide_lt (a b : Int32) : a.toInt64 < b.toInt64 ↔ a < b := by
  rw [Int64.lt_iff_toInt_lt, Int32.lt_iff_toInt_lt, Int32.toInt_toInt64, Int32.toInt_toInt64]
theorem in_eq (x a b : Int32) : f_X11_in (Int32.toInt64 x) (Int32.toInt64 a) (Int32.toInt64 b) = some (if x < a then 0 else if b < x then 0 else 1) := by
  unfold f_X11_in
  by_cases h1 : x < a
  · rw [if_pos ((cmp_lt _ _).mpr ((wide_lt _ _).mpr h1)), if_pos h1]
  · rw [if_neg (fun z => h1 ((wide_lt _ _).mp ((cmp_lt _ _).mp z))), if_neg h1]
    by_cases h2 : b < x
    · rw [if_pos ((cmp_gt _ _).mpr ((wide_lt _ _).mpr h2)), if_pos h2]
    · rw [if_neg (fun z => h2 ((wide_lt _ _).mp ((cmp_gt _ _).mp z))), if_neg h2]
/-- a number is in 0 .. n, or not -/
theorem in_cases {n : Nat} (hn : n < 2 ^ 31) {B : Int64} (hB : B = Int32.toInt64 (nI n)) (y : Int32) : (f_X11_in (Int32.toInt64 y) (0 : Int64) B = some 0 ∧ (y < 0 ∨ (¬ y < 0 ∧ nI n < y))) ∨ ∃ j, j ≤ n ∧ y = nI j ∧ f_X11_in (Int32.toInt64 y) (0 : Int64) B = some 1 := by
  have e := in_eq y 0 (nI n)
  rw [show Int32.toInt64 0 = (0 : Int64) from rfl, ← hB] at e
  rw [e]
  by_cases h1 : y < 0
  · left; rw [if_pos h1]; exact ⟨rfl, Or.inl h1⟩
  · by_cases h2 : nI n < y
    · left; rw [if_neg h1, if_pos h2]; exact ⟨rfl, Or.inr ⟨h1, h2⟩⟩
    · right
      obtain ⟨j, hj, rfl⟩ := nI_of h1
      refine ⟨j, ?_, rfl, by rw [if_neg h1, if_neg h2]⟩
      exact Nat.le_of_not_lt fun z => h2 (nI_lt z hj)
theorem corner_cases {c : Nat} (hc : c < 1000) (y : Int32) : (f_X7_hasCorner (nI c) y = some 0 ∧ f_X11_isCorner (nI c) y = some 0) ∨ ∃ k, k < c ∧ y = nI k ∧ f_X7_hasCorner (nI c) y = some 1 ∧ f_X11_isCorner (nI c) y = some 1 := by
  unfold f_X7_hasCorner f_X11_isCorner
  rw [show (0 : Int64) = Int32.toInt64 0 from rfl, in_eq, Option.bind_some]
  by_cases h1 : y < 0
  · left; rw [if_pos h1, if_pos h1]; exact ⟨rfl, rfl⟩
  · rw [if_neg h1, if_neg h1]
    obtain ⟨j, hj, rfl⟩ := nI_of h1
    by_cases h2 : c ≤ j
    · left
      rw [if_pos (nI_le h2 hj)]
      have : nI c - 1 < nI j := by
        refine Int32.lt_iff_toInt_lt.mpr ?_
        rw [show (1 : Int32) = nI 1 from rfl, pk_sub_toInt (by omega) (by omega), nI_toInt hj]
        omega
      rw [if_pos this]
      exact ⟨rfl, rfl⟩
    · right
      rw [if_neg (nI_ge (by omega) (by omega))]
      have : ¬ nI c - 1 < nI j := by
        intro z
        have z := Int32.lt_iff_toInt_lt.mp z
        rw [show (1 : Int32) = nI 1 from rfl, pk_sub_toInt (by omega) (by omega), nI_toInt hj] at z
        omega
      rw [if_neg this]
      exact ⟨j, by omega, rfl, rfl, rfl⟩
theorem hearer_cases {c : Nat} (hc : c < 1000) (y : Int32) : (f_X7_hasHearer (nI c) y = some 0 ∧ f_X11_isHearer (nI c) y = some 0) ∨ ∃ k, k < c ∧ y = nI k ∧ f_X7_hasHearer (nI c) y = some 1 ∧ f_X11_isHearer (nI c) y = some 1 := corner_cases hc y
theorem not_small {y : Int32} {u n : Nat} (hu : u < 2 ^ n) (hn : n < 31) (h : (y &&& (nI u ^^^ (-1 : Int32))) = 0) : ∃ d, d < 2 ^ n ∧ y = nI d := by
  refine ⟨bs (fun i => bt y i) n, bs_lt _ _, b_ext fun i hi => ?_⟩
  rw [bs_bt _ hi]
  by_cases h1 : i < n
  · simp [h1]
  · have h2 : bt (y &&& (nI u ^^^ (-1 : Int32))) i = false := by rw [h]; exact b_0 i
    rw [b_and, b_not _ hi, bt_nI _ hi, Nat.testBit_lt_two_pow (Nat.lt_of_lt_of_le hu (Nat.pow_le_pow_right (by decide) (by omega)))] at h2
    simp at h2
    simp [h1, h2]
theorem decree_cases {u : Nat} (hu : u < 256) (y : Int32) : (f_X7_allows (nI u) y = some 0 ∧ f_X11_isDecree (nI u) y = some 0) ∨ ∃ d, d < 256 ∧ y = nI d ∧ f_X7_allows (nI u) y = some 1 ∧ f_X11_isDecree (nI u) y = some 1 := by
  unfold f_X7_allows f_X11_isDecree
  by_cases h1 : (y &&& (nI u ^^^ (-1 : Int32))) = 0
  · right
    obtain ⟨d, hd, rfl⟩ := not_small (n := 8) hu (by decide) h1
    refine ⟨d, hd, rfl, by rw [if_pos h1], by rw [if_neg (nI_pos (by omega)), if_pos h1]⟩
  · left
    refine ⟨by rw [if_neg h1], ?_⟩
    by_cases h2 : y < 0
    · rw [if_pos h2]
    · rw [if_neg h2, if_neg h1]
theorem way_cases (y : Int32) : (f_X11_isWay y = some 0 ∧ (y < 0 ∨ (¬ y < 0 ∧ ¬ y ≤ 1))) ∨ (f_X11_isWay y = some 1 ∧ ¬ y < 0 ∧ y ≤ 1 ∧ (y = 0 ∨ y = 1)) := by
  unfold f_X11_isWay
  rcases in_cases (n := 1) (by decide) (B := 1) rfl y with ⟨h1, h2⟩ | ⟨j, hj, rfl, h1⟩
  · left
    rw [h1]
    refine ⟨rfl, ?_⟩
    rcases h2 with h2 | ⟨h2, h3⟩
    · exact Or.inl h2
    · refine Or.inr ⟨h2, fun z => ?_⟩
      have a := Int32.lt_iff_toInt_lt.mp h3
      have b := Int32.le_iff_toInt_le.mp z
      rw [nI_toInt (by omega)] at a
      have : (1 : Int32).toInt = 1 := rfl
      omega
  · right
    rw [h1]
    refine ⟨rfl, nI_pos (by omega), nI_le (b := 1) hj (by decide), ?_⟩
    rcases Nat.le_one_iff_eq_zero_or_eq_one.mp hj with z | z
    · left; rw [z]; rfl
    · right; rw [z]; rfl
theorem rr_cases {u c : Nat} (hu : u < 256) (hc : c < 1000) (y1 y2 y3 : Int32) :
    (f_X10_roundRefusal (nI u) (nI c) y1 y2 y3 = some (-1000000001 : Int32) ∧ (f_X11_isDecree (nI u) y1 = some 0 ∨ (f_X11_isDecree (nI u) y1 = some 1 ∧ f_X11_isCorner (nI c) y2 = some 0))) ∨
    (f_X10_roundRefusal (nI u) (nI c) y1 y2 y3 = some (-1000000002 : Int32) ∧ f_X11_isDecree (nI u) y1 = some 1 ∧ f_X11_isCorner (nI c) y2 = some 1 ∧ f_X11_isWay y3 = some 0) ∨
    ∃ d k, d < 256 ∧ k < c ∧ y1 = nI d ∧ y2 = nI k ∧ (y3 = 0 ∨ y3 = 1) ∧ f_X10_roundRefusal (nI u) (nI c) y1 y2 y3 = some 0 ∧ f_X11_isDecree (nI u) y1 = some 1 ∧ f_X11_isCorner (nI c) y2 = some 1 ∧ f_X11_isWay y3 = some 1 := by
  unfold f_X10_roundRefusal
  rcases decree_cases hu y1 with ⟨a1, a2⟩ | ⟨d, hd, ed, a1, a2⟩
  · left; rw [a1, Option.bind_some, if_pos rfl]; exact ⟨rfl, Or.inl a2⟩
  · rw [a1, Option.bind_some, if_neg one_ne]
    rcases corner_cases hc y2 with ⟨b1, b2⟩ | ⟨k, hk, ek, b1, b2⟩
    · left; rw [b1, Option.bind_some, if_pos rfl]; exact ⟨rfl, Or.inr ⟨a2, b2⟩⟩
    · rw [b1, Option.bind_some, if_neg one_ne]
      right
      rcases way_cases y3 with ⟨w1, w2⟩ | ⟨w1, w2, w3, w4⟩
      · left
        refine ⟨?_, a2, b2, w1⟩
        rcases w2 with w2 | ⟨w2, w3⟩
        · rw [if_pos w2]
        · rw [if_neg w2, if_neg w3]
      · right
        exact ⟨d, k, hd, hk, ed, ek, w4, by rw [if_neg w2, if_pos w3], a2, b2, w1⟩
/-! a row that grows -/
theorem add_ok {N n : Nat} {items : Nat → Int32} {x : Int32} (hn : n < N) (hN : N < 2 ^ 31) : f_X5_add N (nI n) items x = some (nI (n + 1), nI (n + 1), upd items n x) := by
  unfold f_X5_add
  rw [if_neg (nI_pos (by omega)), if_pos (show nI n < Int32.ofNat N from nI_lt hn hN), st_in hn hN]
  simp only [Option.bind_some, o_nm]
  rw [nI_1]
theorem add_full {N : Nat} {items : Nat → Int32} {x : Int32} (hN : N < 2 ^ 31) : f_X5_add N (nI N) items x = some (-1000000004, nI N, items) := by
  unfold f_X5_add
  rw [if_neg (nI_pos hN), if_neg (show ¬ nI N < Int32.ofNat N from nI_nlt (Nat.le_refl N) hN)]
theorem get_ok {N n i : Nat} {items : Nat → Int32} (hi : i < n) (hn : n ≤ N) (hN : N < 2 ^ 31) : f_X5_get N (nI n) items (nI i) = some (items i) := by
  unfold f_X5_get
  rw [if_neg (nI_pos (by omega)), if_neg (nI_ge hi (by omega)), if_neg (show ¬ Int32.ofNat N ≤ nI i from nI_ge (by omega) hN), ld_in (by omega) hN]
  rfl
theorem get_out {N n : Nat} {items : Nat → Int32} {y : Int32} (hn : n ≤ N) (hN : N < 2 ^ 31) (h : y < 0 ∨ nI n ≤ y) : f_X5_get N (nI n) items y = some (-1) := by
  unfold f_X5_get
  by_cases h1 : y < 0
  · rw [if_pos h1]
  · rw [if_neg h1, if_pos (h.resolve_left h1)]
theorem upd_row {items text : Nat → Int32} {n : Nat} {x : Int32} (h : ∀ j, j < n → items j = text j) : ∀ j, j < n + 1 → upd items n x j = upd text n x j := by
  intro j hj
  by_cases e : j = n
  · subst e; rw [upd_s, upd_s]
  · rw [upd_n _ _ e, upd_n _ _ e]; exact h j (by omega)
/-! the calls, one by one: the simple ones -/
theorem q_feed {cnt : Int32} {items : Nat → Int32} {size : Int32} {text : Nat → Int32} (hX : RX cnt items size text) (y : Int32) : ∃ r cnt' items' size' text', f_X10_feed cnt items y = some (r, cnt', items') ∧ f_X11_feed size text y = some (r, size', text') ∧ RX cnt' items' size' text' := by
  obtain ⟨n, hn, rfl, rfl, hj⟩ := hX
  unfold f_X10_feed f_X11_feed
  rcases in_cases (n := 255) (by decide) (B := 255) rfl y with ⟨h1, h2⟩ | ⟨x, hx, rfl, h1⟩
  · rw [h1, Option.bind_some, if_pos rfl]
    refine ⟨_, _, _, _, _, ?_, rfl, n, hn, rfl, rfl, hj⟩
    rcases h2 with h2 | ⟨h2, h3⟩
    · rw [if_pos h2]
    · rw [if_neg h2, if_neg]
      intro z
      have a := Int32.lt_iff_toInt_lt.mp h3
      have b := Int32.le_iff_toInt_le.mp z
      rw [nI_toInt (by decide)] at a
      have : (255 : Int32).toInt = 255 := rfl
      omega
  · rw [h1, Option.bind_some, if_neg one_ne, if_neg (nI_pos (by omega)), if_pos (show nI x ≤ (255 : Int32) from nI_le (b := 255) hx (by decide))]
    by_cases hf : n = 230
    · subst hf
      rw [add_full (by decide), Option.bind_some, if_pos (show nI 230 = (230 : Int32) from rfl)]
      exact ⟨_, _, _, _, _, rfl, rfl, 230, hn, rfl, rfl, hj⟩
    · rw [add_ok (show n < 230 by omega) (by decide), Option.bind_some, if_neg (show ¬ nI n = (230 : Int32) from fun z => hf ((nI_eq (b := 230) (by omega) (by decide)).mp z)), st_in (show n < 230 by omega) (by decide)]
      simp only [Option.bind_some, o_nm]
      rw [nI_1]
      refine ⟨_, _, _, _, _, rfl, rfl, n + 1, by omega, rfl, rfl, fun j hjn => ⟨upd_row (fun j hj' => (hj j hj').1) j hjn, ?_⟩⟩
      by_cases e : j = n
      · subst e; exact ⟨x, by omega, upd_s _ _ _⟩
      · rw [upd_n _ _ e]; exact (hj j (by omega)).2
theorem q_write {cnt : Int32} {items : Nat → Int32} {size : Int32} {text : Nat → Int32} (hX : RB cnt items size text) (y : Int32) : ∃ r cnt' items' size' text', f_X10_write cnt items y = some (r, cnt', items') ∧ f_X11_write size text y = some (r, size', text') ∧ RB cnt' items' size' text' := by
  obtain ⟨n, hn, rfl, rfl, hj⟩ := hX
  unfold f_X10_write f_X11_write
  rcases in_cases (n := 255) (by decide) (B := 255) rfl y with ⟨h1, h2⟩ | ⟨x, hx, rfl, h1⟩
  · rw [h1, Option.bind_some, if_pos rfl]
    refine ⟨_, _, _, _, _, ?_, rfl, n, hn, rfl, rfl, hj⟩
    rcases h2 with h2 | ⟨h2, h3⟩
    · rw [if_pos h2]
    · rw [if_neg h2, if_neg]
      intro z
      have a := Int32.lt_iff_toInt_lt.mp h3
      have b := Int32.lt_iff_toInt_lt.mp z
      rw [nI_toInt (by decide)] at a
      have : (256 : Int32).toInt = 256 := rfl
      omega
  · rw [h1, Option.bind_some, if_neg one_ne, if_neg (nI_pos (by omega)), if_pos (show nI x < (256 : Int32) from nI_lt (b := 256) (by omega) (by decide))]
    by_cases hf : n = 20
    · subst hf
      rw [add_full (by decide), Option.bind_some, if_pos (show nI 20 = (20 : Int32) from rfl)]
      exact ⟨_, _, _, _, _, rfl, rfl, 20, hn, rfl, rfl, hj⟩
    · rw [add_ok (show n < 20 by omega) (by decide), Option.bind_some, if_neg (show ¬ nI n = (20 : Int32) from fun z => hf ((nI_eq (b := 20) (by omega) (by decide)).mp z)), st_in (show n < 20 by omega) (by decide)]
      simp only [Option.bind_some, o_nm]
      rw [nI_1]
      exact ⟨_, _, _, _, _, rfl, rfl, n + 1, by omega, rfl, rfl, upd_row hj⟩
theorem judge_loop {n : Nat} {items book w : Nat → Int32} {law : Int32} (hn : n ≤ 20) (hj : ∀ j, j < n → items j = book j) (hl : law = w 14) : ∀ (k i : Nat), i ≤ n → n < k + i → ∃ r, f_X10_judge_2 (nI n) law items k (nI i) = some r ∧ f_X11_judge_2 (nI n) book w k (nI i) = some r := by
  intro k
  induction k with
  | zero => intro i h1 h2; omega
  | succ k ih =>
    intro i hi hk
    rw [f_X10_judge_2, f_X11_judge_2]
    by_cases hlt : i < n
    · rw [if_neg (nI_ge hlt (by omega)), if_neg (nI_ge hlt (by omega)), get_ok hlt hn (by decide), Option.bind_some, ld_in (show i < 20 by omega) (by decide), Option.bind_some, show (14 : Int32) = nI 14 from rfl, ld_in (show 14 < 578 by decide) (by decide), Option.bind_some, hj i hlt, ← hl]
      simp only [o_nm]
      by_cases c : book i = law
      · rw [if_pos c, if_pos c, nI_1]; exact ih (i + 1) (by omega) (by omega)
      · rw [if_neg c, if_neg c]; exact ⟨_, rfl, rfl⟩
    · rw [if_pos (nI_le (by omega) (by omega)), if_pos (nI_le (by omega) (by omega))]; exact ⟨_, rfl, rfl⟩
theorem q_judge {cnt : Int32} {items : Nat → Int32} {size : Int32} {book w : Nat → Int32} {law : Int32} (hX : RB cnt items size book) (hl : law = w 14) : ∃ r, f_X10_judge cnt law items = some r ∧ f_X11_judge size book w = some r := by
  obtain ⟨n, hn, rfl, rfl, hj⟩ := hX
  exact judge_loop hn hj hl 1000 0 (by omega) (by omega)
theorem odds_loop {c n : Nat} {q : Int32} (hc : c ≤ 8) (hn : n ≤ 60) : ∀ (k i : Nat) (x : Int64), i ≤ c * n → c * n < k + i → ∃ r, f_X10_odds_41 k q x (nI (c * n)) (nI i) = some r ∧ f_X11_odds_34 (nI c) k (nI n) q x (nI i) = some r := by
  have hb : c * n ≤ 480 := Nat.le_trans (Nat.mul_le_mul hc hn) (by decide)
  intro k
  induction k with
  | zero => intro i x h1 h2; omega
  | succ k ih =>
    intro i x hi hk
    rw [f_X10_odds_41, f_X11_odds_34, pk_mul, Nat.mul_comm n c]
    by_cases hlt : i < c * n
    · rw [if_neg (nI_ge hlt (by omega)), if_neg (nI_ge hlt (by omega))]
      have : ∀ z : Int64, o_dvL z (100 : Int64) = some (z / 100) := fun z => by unfold o_dvL; rw [if_neg (by decide)]
      rw [this]
      simp only [Option.bind_some, o_nm]
      rw [nI_1]
      exact ih (i + 1) _ (by omega) (by omega)
    · rw [if_pos (nI_le (by omega) (by omega)), if_pos (nI_le (by omega) (by omega))]; exact ⟨_, rfl, rfl⟩
theorem q_odds {c : Nat} (hc : c ≤ 8) (y1 y2 : Int32) : ∃ r, f_X10_odds (nI c) y1 y2 = some r ∧ f_X11_odds (nI c) y1 y2 = some r := by
  unfold f_X10_odds f_X11_odds
  rcases in_cases (n := 60) (by decide) (B := 60) rfl y1 with ⟨h1, h2⟩ | ⟨n, hn, rfl, h1⟩
  · rw [h1, Option.bind_some, if_pos rfl]
    refine ⟨_, ?_, rfl⟩
    rcases h2 with h2 | ⟨h2, h3⟩
    · rw [if_pos h2]
    · rw [if_neg h2, if_pos (show (60 : Int32) < y1 from h3)]
  · rw [h1, Option.bind_some, if_neg one_ne, if_neg (nI_pos (by omega)), if_neg (show ¬ (60 : Int32) < nI n from nI_nlt (b := n) (a := 60) hn (by decide))]
    rcases in_cases (n := 100) (by decide) (B := 100) rfl y2 with ⟨g1, g2⟩ | ⟨q, hq, rfl, g1⟩
    · rw [g1, Option.bind_some, if_pos rfl]
      refine ⟨_, ?_, rfl⟩
      rcases g2 with g2 | ⟨g2, g3⟩
      · rw [if_pos g2]
      · rw [if_neg g2, if_neg]
        intro z
        have a := Int32.lt_iff_toInt_lt.mp g3
        have b := Int32.le_iff_toInt_le.mp z
        rw [nI_toInt (by decide)] at a
        have : (100 : Int32).toInt = 100 := rfl
        omega
    · rw [g1, Option.bind_some, if_neg one_ne, if_neg (nI_pos (by omega)), if_pos (show nI q ≤ (100 : Int32) from nI_le (b := 100) hq (by decide))]
      simp only [o_nm]
      rw [pk_mul]
      have hb : c * n ≤ 480 := Nat.le_trans (Nat.mul_le_mul hc hn) (by decide)
      exact odds_loop hc hn 1000 0 _ (by omega) (by omega)
theorem q_see {u c : Nat} {dc : Int32} {d : Nat → Int32} {cc : Int32} {co : Nat → Int32} {vc : Int32} {v : Nat → Int32} {seen : Int32} {sd sa ss : Nat → Int32} (hu : u < 256) (hc : c ≤ 8) (hS : RSe dc d cc co vc v seen sd sa ss) (y1 y2 y3 : Int32) :
    ∃ r dc' d' cc' co' vc' v' seen' sd' sa' ss', f_X10_see (nI u) (nI c) cc dc vc co d v y1 y2 y3 = some (r, cc', dc', vc', co', d', v') ∧ f_X11_see (nI u) (nI c) seen sa sd ss y1 y2 y3 = some (r, seen', sa', sd', ss') ∧ RSe dc' d' cc' co' vc' v' seen' sd' sa' ss' := by
  have hS0 := hS
  obtain ⟨n, hn, rfl, rfl, rfl, rfl, hj⟩ := hS
  unfold f_X10_see f_X11_see
  rcases decree_cases hu y1 with ⟨a1, a2⟩ | ⟨x, hx, rfl, a1, a2⟩
  · rw [a1, a2, Option.bind_some, Option.bind_some, if_pos rfl, if_pos rfl]
    exact ⟨_, _, _, _, _, _, _, _, _, _, _, rfl, rfl, hS0⟩
  · rw [a1, a2, Option.bind_some, Option.bind_some, if_neg one_ne, if_neg one_ne]
    rcases corner_cases (show c < 1000 by omega) y2 with ⟨b1, b2⟩ | ⟨k, hk, rfl, b1, b2⟩
    · rw [b1, b2, Option.bind_some, Option.bind_some, if_pos rfl, if_pos rfl]
      exact ⟨_, _, _, _, _, _, _, _, _, _, _, rfl, rfl, hS0⟩
    · rw [b1, b2, Option.bind_some, Option.bind_some, if_neg one_ne, if_neg one_ne]
      rcases in_cases (n := 9) (by decide) (B := 9) rfl y3 with ⟨h1, h2⟩ | ⟨z, hz, rfl, h1⟩
      · rw [h1, Option.bind_some, if_pos rfl]
        refine ⟨_, _, _, _, _, _, _, _, _, _, _, ?_, rfl, hS0⟩
        rcases h2 with h2 | ⟨h2, h3⟩
        · rw [if_pos h2]
        · rw [if_neg h2, if_neg]
          intro q
          have a := Int32.lt_iff_toInt_lt.mp h3
          have b := Int32.le_iff_toInt_le.mp q
          rw [nI_toInt (by decide)] at a
          have : (9 : Int32).toInt = 9 := rfl
          omega
      · rw [h1, Option.bind_some, if_neg one_ne, if_neg (nI_pos (by omega)), if_pos (show nI z ≤ (9 : Int32) from nI_le (b := 9) hz (by decide))]
        unfold f_X9_add
        by_cases hf : n = 6
        · subst hf
          rw [add_full (by decide), add_full (by decide), add_full (by decide), if_pos (show nI 6 = (6 : Int32) from rfl)]
          exact ⟨_, _, _, _, _, _, _, _, _, _, _, rfl, rfl, hS0⟩
        · have hlt : n < 6 := by omega
          rw [add_ok hlt (by decide), add_ok hlt (by decide), add_ok hlt (by decide), if_neg (show ¬ nI n = (6 : Int32) from fun q => hf ((nI_eq (b := 6) (by omega) (by decide)).mp q)), st_in hlt (by decide), st_in hlt (by decide), st_in hlt (by decide)]
          simp only [Option.bind_some, o_nm]
          rw [nI_1]
          refine ⟨_, _, _, _, _, _, _, _, _, _, _, rfl, rfl, n + 1, by omega, rfl, rfl, rfl, rfl, fun j hjn => ⟨upd_row (fun j h => (hj j h).1) j hjn, upd_row (fun j h => (hj j h).2.1) j hjn, upd_row (fun j h => (hj j h).2.2.1) j hjn, ?_, ?_⟩⟩
          · by_cases e : j = n
            · subst e; exact ⟨x, hx, upd_s _ _ _⟩
            · rw [upd_n _ _ e]; exact (hj j (by omega)).2.2.2.1
          · by_cases e : j = n
            · subst e; exact ⟨k, by omega, upd_s _ _ _⟩
            · rw [upd_n _ _ e]; exact (hj j (by omega)).2.2.2.2
