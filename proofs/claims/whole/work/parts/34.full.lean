/-! a round, and whether it holds at all corners -/
theorem cnr_on : ∀ c, c < 9 → ∀ k0, k0 < c → ∀ j, j < c → ((j + c - k0) % c < c ∧ (k0 + (j + c - k0) % c) % c = j) ∧ ((k0 + c - j) % c < c ∧ (k0 + c - (k0 + c - j) % c) % c = j) := by decide +kernel
theorem cnr_inF : ∀ c : Fin 9, ∀ k0 : Fin 8, ∀ i : Fin 8, ∀ j : Fin 8, k0.val < c.val → i.val < c.val → j.val < c.val → ((k0.val + i.val) % c.val ≠ (k0.val + j.val) % c.val ∨ i.val = j.val) ∧ ((k0.val + c.val - i.val) % c.val ≠ (k0.val + c.val - j.val) % c.val ∨ i.val = j.val) := by decide +kernel
theorem cnr_in {c k0 i j : Nat} (hc : c < 9) (hk : k0 < c) (hi : i < c) (hj : j < c) : ((k0 + i) % c = (k0 + j) % c → i = j) ∧ ((k0 + c - i) % c = (k0 + c - j) % c → i = j) := by
  obtain ⟨a, b⟩ := cnr_inF ⟨c, hc⟩ ⟨k0, by omega⟩ ⟨i, by omega⟩ ⟨j, by omega⟩ hk hi hj
  exact ⟨fun e => a.resolve_left (fun n => n e), fun e => b.resolve_left (fun n => n e)⟩
theorem cnr_onto {c k0 j : Nat} {way : Int32} (hc : c ≤ 8) (hk : k0 < c) (hj : j < c) : ∃ t, t < c ∧ cnr c k0 t way = j := by
  obtain ⟨⟨a1, a2⟩, b1, b2⟩ := cnr_on c (by omega) k0 hk j hj
  unfold cnr
  by_cases h : way = 1
  · exact ⟨_, a1, by rw [if_pos h]; exact a2⟩
  · exact ⟨_, b1, by rw [if_neg h]; exact b2⟩
theorem cnr_inj {c k0 i j : Nat} {way : Int32} (hc : c ≤ 8) (hk : k0 < c) (hi : i < c) (hj : j < c) (e : cnr c k0 i way = cnr c k0 j way) : i = j := by
  obtain ⟨a, b⟩ := cnr_in (show c < 9 by omega) hk hi hj
  unfold cnr at e
  by_cases h : way = 1
  · rw [if_pos h, if_pos h] at e; exact a e
  · rw [if_neg h, if_neg h] at e; exact b e
section RND2
variable {u h o : Nat} {liars sil colds : Int32} {places pinches sayings pinched says : Nat → Int32}
theorem round_loop2 (hu : u < 256) (hh : h ≤ 9) (ho : o + 17 ≤ 578) (hT : TR h pinches sayings pinched says) {c k0 : Nat} {way : Int32} (hc : c ≤ 8) (hk : k0 < c) :
    ∀ (n i : Nat) (d x g : Nat) (spoke : Int32) (w : Nat → Int32), i ≤ c → c < n + i → d < 256 → x < 512 → g < 256 → RW h o x sil colds places w → (∀ j, g.testBit j = true → ∃ t, t < i ∧ j = cnr c k0 t way) →
      ∃ (d' x' g' : Nat) (s' : Int32) (A : Bool) (dA hA sA xA : Int32), d' < 256 ∧ x' < 512 ∧ g' < 256 ∧ f_X0_goRound_2 sil liars colds (nI u) (nI c) (nI h) places pinches sayings n (nI d) (nI g) spoke (nI x) (nI k0) way (nI i) = some (nI d', nI g', s', nI x') ∧ f_X11_roundIn_16 (nI u) (nI c) (nI h) pinched says n spoke (nI g) w (nI o) (nI k0) way liars (nI d) (nI i) = some (nI d', s', nI g', upd w (o + 9) (nI x')) ∧
        f_X0_holdsAllRound_5 sil liars colds (nI u) (nI c) (nI h) places pinches sayings n (nI d) (nI g) spoke (nI x) (nI k0) way (1 : Int32) (nI i) = some (if A then 1 else 0, dA, hA, sA, xA) ∧ (A = true → dA = nI d') ∧ (A = true ↔ ∀ t, i ≤ t → t < c → g'.testBit (cnr c k0 t way) = true) ∧ (∀ j, g.testBit j = true → g'.testBit j = true) ∧ (∀ j, g'.testBit j = true → g.testBit j = true ∨ ∃ t, i ≤ t ∧ t < c ∧ j = cnr c k0 t way) := by
  intro n
  induction n with
  | zero => intro i d x g spoke w h1 h2; omega
  | succ n ih =>
    intro i d x g spoke w hi hn hd hx hg hW hvis
    rw [f_X0_goRound_2, f_X11_roundIn_16, f_X0_holdsAllRound_5]
    by_cases hlt : i < c
    · rw [if_neg (nI_ge hlt (by omega)), if_neg (nI_ge hlt (by omega)), if_neg (nI_ge hlt (by omega)), if_neg one_ne, cnr_x hc hk hlt, Option.bind_some, Option.bind_some, cnr_m hc hk hlt]
      unfold f_X11_roundIn_57
      have hcl : cnr c k0 i way < 8 := Nat.lt_of_lt_of_le (cnr_lt (by omega)) hc
      have hhas : f_X11_has liars (nI (cnr c k0 i way)) = some (if bt liars (cnr c k0 i way) then 1 else 0) := by
        cases cl : bt liars (cnr c k0 i way) with
        | true => rw [hasM_t cl (by omega)]; rfl
        | false => rw [hasM_f cl (by omega)]; rfl
      rw [hhas, Option.bind_some]
      obtain ⟨rr, d', x', h', s', hd', hx', e1, e2, e3⟩ := cry1 (sayings := sayings) (holds := nI g) (spoke := spoke) hu hh ho hT hd hx hcl hW rfl
      rw [e1, e2]
      simp only [Option.bind_some, o_nm]
      rw [nI_1]
      have hW' : RW h o x' sil colds places (upd w (o + 9) (nI x')) := by
        obtain ⟨w1, w2, w3, w4⟩ := hW
        exact ⟨fun j hj => by rw [upd_n _ _ (by omega)]; exact w1 j hj, by rw [upd_n _ _ (by omega)]; exact w2, by rw [upd_n _ _ (by omega)]; exact w3, upd_s _ _ _⟩
      have h2c : 2 ^ cnr c k0 i way < 2 ^ 8 := Nat.pow_lt_pow_right (by decide) hcl
      rcases e3 with ⟨r1, r2⟩ | ⟨r1, r2⟩
      · -- it holds here
        rw [nx_or] at r2
        subst r1; subst r2
        have hvis' : ∀ j, (g ||| 2 ^ cnr c k0 i way).testBit j = true → ∃ t, t < i + 1 ∧ j = cnr c k0 t way := by
          intro j hj
          rw [Nat.testBit_or, Nat.testBit_two_pow] at hj
          cases hg1 : g.testBit j with
          | true => obtain ⟨t, ht, e⟩ := hvis j hg1; exact ⟨t, by omega, e⟩
          | false => rw [hg1] at hj; simp at hj; exact ⟨i, by omega, hj.symm⟩
        obtain ⟨d2, x2, g2, s2, A, dA, hA, sA, xA, a1, a2, a3, a4, a5, a6, a7, a8, a9, a10⟩ := ih (i + 1) d' x' (g ||| 2 ^ cnr c k0 i way) s' _ (by omega) (by omega) hd' hx' (or_lt (n := 8) hg h2c) hW' hvis'
        refine ⟨d2, x2, g2, s2, A, dA, hA, sA, xA, a1, a2, a3, a4, by rw [a5, upd_upd], a6, a7, ?_, ?_, ?_⟩
        · rw [a8]
          constructor
          · intro z t h1 h2
            by_cases e : t = i
            · subst e
              exact a9 _ (by rw [Nat.testBit_or, Nat.testBit_two_pow]; simp)
            · exact z t (by omega) h2
          · intro z t h1 h2
            exact z t (by omega) h2
        · intro j hj
          exact a9 j (by rw [Nat.testBit_or, hj, Bool.true_or])
        · intro j hj
          rcases a10 j hj with z | ⟨t, t1, t2, t3⟩
          · rw [Nat.testBit_or, Nat.testBit_two_pow] at z
            cases hg1 : g.testBit j with
            | true => exact Or.inl rfl
            | false => rw [hg1] at z; simp at z; exact Or.inr ⟨i, Nat.le_refl _, hlt, z.symm⟩
          · exact Or.inr ⟨t, by omega, t2, t3⟩
      · subst r1; subst r2
        have hvis' : ∀ j, g.testBit j = true → ∃ t, t < i + 1 ∧ j = cnr c k0 t way := fun j hj => by
          obtain ⟨t, ht, e⟩ := hvis j hj; exact ⟨t, by omega, e⟩
        obtain ⟨d2, x2, g2, s2, A, dA, hA, sA, xA, a1, a2, a3, a4, a5, a6, a7, a8, a9, a10⟩ := ih (i + 1) d' x' g s' _ (by omega) (by omega) hd' hx' hg hW' hvis'
        refine ⟨d2, x2, g2, s2, false, nI d', nI g, s', nI x', a1, a2, a3, a4, by rw [a5, upd_upd], ?_, (fun z => by cases z), ?_, a9, ?_⟩
        · obtain ⟨n', rfl⟩ : ∃ n', n = n' + 1 := ⟨n - 1, by omega⟩
          rw [f_X0_holdsAllRound_5]
          have zb : o_zb (0 : Int32) = some () := rfl
          rw [zb]
          by_cases c2 : nI c ≤ nI (i + 1)
          · rw [if_pos c2]; rfl
          · rw [if_neg c2, if_pos rfl]; rfl
        · constructor
          · intro z; cases z
          · intro z
            have hb := z i (Nat.le_refl _) hlt
            exfalso
            rcases a10 _ hb with q | ⟨t, t1, t2, t3⟩
            · obtain ⟨t, t1, t2⟩ := hvis _ q
              have := cnr_inj hc hk hlt (by omega) t2
              omega
            · have := cnr_inj hc hk hlt t2 t3
              omega
        · intro j hj
          rcases a10 j hj with z | ⟨t, t1, t2, t3⟩
          · exact Or.inl z
          · exact Or.inr ⟨t, by omega, t2, t3⟩
    · have e : i = c := by omega
      subst e
      rw [if_pos (nI_le (Nat.le_refl i) (by omega)), if_pos (nI_le (Nat.le_refl i) (by omega)), if_pos (nI_le (Nat.le_refl i) (by omega))]
      have zb : o_zb (1 : Int32) = some () := rfl
      rw [zb]
      refine ⟨d, x, g, spoke, true, nI d, nI g, spoke, nI x, hd, hx, hg, rfl, ?_, rfl, fun _ => rfl, ⟨fun _ t h1 h2 => by omega, fun _ => rfl⟩, fun j hj => hj, fun j hj => Or.inl hj⟩
      rw [← hW.2.2.2, upd_self]
end RND2
theorem full_iff {c k0 g : Nat} {way : Int32} (hc : c ≤ 8) (hk : k0 < c) (hv : ∀ j, g.testBit j = true → ∃ t, t < c ∧ j = cnr c k0 t way) : (∀ t, t < c → g.testBit (cnr c k0 t way) = true) ↔ g = 2 ^ c - 1 := by
  constructor
  · intro hz
    refine Nat.eq_of_testBit_eq fun j => ?_
    rw [Nat.testBit_two_pow_sub_one]
    by_cases hj : j < c
    · obtain ⟨t, t1, t2⟩ := cnr_onto (way := way) hc hk hj
      rw [← t2, hz t t1, t2]
      simp [hj]
    · cases hg : g.testBit j with
      | true =>
        obtain ⟨t, t1, t2⟩ := hv j hg
        have := cnr_lt (c := c) (k0 := k0) (i := t) (way := way) (by omega)
        omega
      | false => simp [hj]
  · intro e t ht
    rw [e, Nat.testBit_two_pow_sub_one]
    simp [cnr_lt (c := c) (k0 := k0) (i := t) (way := way) (by omega)]
/-- the rest of the reference's rows stays -/
def wok (w w' : Nat → Int32) : Prop := ∀ j, (j < 17 ∨ 34 ≤ j) → w' j = w j
/-- a round that is only tried -/
theorem try2 {u h c k0 d x : Nat} {liars kin colds kept way sp hq : Int32} {places pinches sayings pinched says w : Nat → Int32} (hu : u < 256) (hh : h ≤ 9) (hT : TR h pinches sayings pinched says) (hc : c ≤ 8) (hk : k0 < c) (hd : d < 256) (hx : x < 512) (hW : RW h 0 x kin colds places w) :
    ∃ (d' x' g' : Nat) (s' : Int32) (A : Bool) (dA hA sA xA : Int32) (w' : Nat → Int32), d' < 256 ∧ x' < 512 ∧ g' < 256 ∧ f_X0_goRound (kin ||| kept) liars (nI d) 0 0 (nI x) colds (nI u) (nI c) (nI h) places pinches sayings (nI k0) way = some (nI d', nI g', s', nI x') ∧ f_X0_holdsAllRound (kin ||| kept) liars (nI d) 0 0 (nI x) colds (nI u) (nI c) (nI h) places pinches sayings (nI k0) way = some (if A then 1 else 0, dA, hA, sA, xA) ∧ f_X11_tryRound (nI u) (nI c) (nI h) sp hq pinched says w (nI d) (nI k0) way liars kept = some (nI d', s', nI g', w') ∧ wok w w' ∧ (A = true → dA = nI d') ∧ (A = true ↔ g' = 2 ^ c - 1) := by
  obtain ⟨w1, w2, w3, w4⟩ := hW
  have hW' : RW h 17 x (kin ||| kept) colds places (upd (cp w 0 17) 27 (kin ||| kept)) := by
    refine ⟨fun j hj => ?_, upd_s _ _ _, ?_, ?_⟩
    · rw [upd_n _ _ (by omega), cp_in w (by omega)]; exact w1 j hj
    · rw [upd_n _ _ (by omega), show 17 + 11 = 17 + 11 from rfl, cp_in w (by omega)]; exact w3
    · rw [upd_n _ _ (by omega), cp_in w (by omega)]; exact w4
  obtain ⟨d', x', g', s', A, dA, hA, sA, xA, a1, a2, a3, a4, a5, a6, a7, a8, a9, a10⟩ := round_loop2 (liars := liars) (sil := kin ||| kept) (colds := colds) (places := places) (way := way) hu hh (show 17 + 17 ≤ 578 by decide) hT hc hk 1000 0 d x 0 0 _ (by omega) (by omega) hd hx (by decide) hW' (fun j hj => by simp at hj)
  refine ⟨d', x', g', s', A, dA, hA, sA, xA, upd (upd (cp w 0 17) 27 (kin ||| kept)) 26 (nI x'), a1, a2, a3, a4, a6, ?_, ?_, a7, ?_⟩
  · unfold f_X11_tryRound
    rw [show (0 : Int32) = nI 0 from rfl, show (17 : Int32) = nI 17 from rfl, copy_eq (by decide) (by decide) (by decide), Option.bind_some, show (27 : Int32) = nI 27 from rfl, ld_in (show 27 < 578 by decide) (by decide), Option.bind_some, st_in (show 27 < 578 by decide) (by decide), Option.bind_some]
    have e27 : cp w 0 17 27 = kin := by
      have := cp_in w (a := 0) (b := 17) (i := 10) (by omega)
      rw [show 17 + 10 = 27 from rfl] at this
      rw [this]; exact w2
    rw [e27]
    unfold f_X11_roundIn
    have := a5
    rw [show nI 0 = (0 : Int32) from rfl] at this
    rw [show (0 : Int32) = (0 : Int32) from rfl, this, Option.bind_some]
  · intro j hj
    rw [upd_n _ _ (by omega), upd_n _ _ (by omega), cp_out w (by omega)]
  · rw [a8, ← full_iff (g := g') (way := way) hc hk (fun j hj => by
      rcases a10 j hj with z | ⟨t, t1, t2, t3⟩
      · simp at z
      · exact ⟨t, t2, t3⟩)]
    exact ⟨fun z t ht => z t (Nat.zero_le _) ht, fun z t _ ht => z t ht⟩
