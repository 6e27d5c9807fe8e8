/-! a crying at a corner, and a round -/
/-- what the two sides have of the town -/
def TR (h : Nat) (pinches sayings pinched says : Nat → Int32) : Prop := ∀ j, j < h → pinches j = pinched j ∧ (∃ p, p < 256 ∧ pinched j = nI p) ∧ ∃ q, q < 9 ∧ says j = nI q ∧ sayings j = if q = 8 then (-1 : Int32) else nI q
/-- what the two sides have of the row at o -/
def RW (h o x : Nat) (sil colds : Int32) (places w : Nat → Int32) : Prop := (∀ j, j < h → places j = w (o + j)) ∧ w (o + 10) = sil ∧ w (o + 11) = colds ∧ w (o + 9) = nI x
theorem upd_self (w : Nat → Int32) (k : Nat) : upd w k (w k) = w := by funext j; by_cases h : j = k <;> simp [upd, h]
theorem upd_upd (w : Nat → Int32) (k : Nat) (a b : Int32) : upd (upd w k a) k b = upd w k b := by funext j; by_cases h : j = k <;> simp [upd, h]
section RND
variable {u h o : Nat} {liars sil colds : Int32} {places pinches sayings pinched says : Nat → Int32}
theorem cry1 (hu : u < 256) (hh : h ≤ 9) (ho : o + 17 ≤ 578) (hT : TR h pinches sayings pinched says) {d x kk : Nat} {holds spoke lf : Int32} {w : Nat → Int32} (hd : d < 256) (hx : x < 512) (hkk : kk < 8) (hW : RW h o x sil colds places w) (hlf : lf = if bt liars kk then 1 else 0) :
    ∃ (rr : Int32) (d' x' : Nat) (h' s' : Int32), d' < 256 ∧ x' < 512 ∧ f_X0_readAt sil liars (nI d) holds spoke (nI x) colds (nI u) (nI h) places pinches sayings (nI kk) = some (rr, nI d', h', s', nI x') ∧ f_X11_cryAt (nI u) (nI h) spoke holds pinched says w (nI o) (nI kk) (nI d) lf = some (nI d', s', h', upd w (o + 9) (nI x')) ∧ ((rr = 1 ∧ h' = holds ||| nI (2 ^ kk)) ∨ (rr = 0 ∧ h' = holds)) := by
  obtain ⟨hw, h10, h11, h9⟩ := hW
  generalize elh : (if nI d = 0 then (0 : Int32) else if bt liars kk then 1 else 0) = lh
  have hl01 : ∃ l, l ≤ 1 ∧ lh = nI l := by
    rw [← elh]
    by_cases c0 : nI d = 0
    · exact ⟨0, by omega, by rw [if_pos c0]; rfl⟩
    · rw [if_neg c0]
      cases bt liars kk
      · exact ⟨0, by omega, rfl⟩
      · exact ⟨1, by omega, rfl⟩
  have hlh : lh = 0 ↔ (lf = 0 ∨ nI d = 0) := by
    rw [← elh, hlf]
    by_cases c0 : nI d = 0
    · simp [c0]
    · cases bt liars kk <;> simp [c0]
  obtain ⟨l, hl1, hl⟩ := hl01
  have hsp := SPn_lt (places := places) (pinches := pinches) (colds := colds) (sil := sil) (x := x) (d := d) (lh := lh) (kk := kk) hh
  have hbit := @SPn_bit places pinches colds sil x d lh kk h
  have hrd := read_eq (u := u) (d := d) (x := x) (liars := liars) (sil := sil) (colds := colds) (holds := holds) (spoke := spoke) (places := places) (pinches := pinches) (sayings := sayings) hh hkk
  rw [elh] at hrd
  have hsk := speakers_eq (d := d) (lf := lf) (lh := lh) hh hkk ho (fun j hj => (hT j hj).1) hw h10 h11 h9 hlh
  generalize eSP : SPn places pinches colds sil x d lh kk h = sp at hsp hrd hsk
  obtain ⟨p1, p2, p3, p4⟩ := pc_all sp hsp
  have hx' : x ||| sp < 512 := or_lt (n := 9) hx hsp
  -- the reference
  have hcm : f_X11_cryAt (nI u) (nI h) spoke holds pinched says w (nI o) (nI kk) (nI d) lf = f_X11_cryAt_30 (nI u) pinched says spoke holds w (nI o) (nI kk) (nI d) (nI sp) (nI (pc sp)) lh := by
    unfold f_X11_cryAt
    rw [hsk, Option.bind_some, p2, Option.bind_some]
    by_cases c1 : lf = 0
    · rw [if_pos c1, hlh.mpr (Or.inl c1)]
    · rw [if_neg c1]
      by_cases c2 : nI d = 0
      · rw [if_pos c2, hlh.mpr (Or.inr c2)]
      · rw [if_neg c2]
        have : lh = 1 := by
          rcases Nat.le_one_iff_eq_zero_or_eq_one.mp hl1 with z | z
          · exact absurd (hlh.mp (by rw [hl, z]; rfl)) (fun q => by rcases q with q | q; exact c1 q; exact c2 q)
          · rw [hl, z]; rfl
        rw [this]
  have hone : f_X11_one lh = some lh := by
    rcases Nat.le_one_iff_eq_zero_or_eq_one.mp hl1 with z | z
    · rw [hl, z]; rfl
    · rw [hl, z]; rfl
  rw [hrd, hcm]
  unfold f_X0_readAt_67 f_X11_cryAt_30
  rw [p1, hone]
  simp only [Option.bind_some, o_nm]
  rw [show (9 : Int32) = nI 9 from rfl, nI_add, ld_in (show o + 9 < 578 by omega) (by decide), Option.bind_some, st_in (show o + 9 < 578 by omega) (by decide), Option.bind_some, h9, nx_or, hl, nI_add, rm2 (by omega), Option.bind_some, Option.bind_some]
  have hpar : pc sp + l < 2 ^ 31 := by omega
  rcases Nat.mod_two_eq_zero_or_one (pc sp + l) with hm | hm
  · -- an even number
    rw [hm]
    rw [if_neg (show ¬ nI 0 = (1 : Int32) by decide), if_pos (show nI 0 = (0 : Int32) from rfl)]
    by_cases c0 : pc sp + l = 0
    · rw [c0, if_pos (show nI 0 = (0 : Int32) from rfl), if_pos (show nI 0 = (0 : Int32) from rfl)]
      exact ⟨0, d, x ||| sp, holds, _, hd, hx', rfl, rfl, Or.inr ⟨rfl, rfl⟩⟩
    · rw [if_neg (nI_ne0 (by omega) hpar), if_neg (nI_ne0 (by omega) hpar)]
      obtain ⟨e, he, ee⟩ := small_and (n := 8) hu (by decide) (nI d ^^^ (-1 : Int32))
      rw [ee]
      exact ⟨0, e, x ||| sp, holds, _, he, hx', rfl, rfl, Or.inr ⟨rfl, rfl⟩⟩
  · rw [hm]
    rw [if_pos (show nI 1 = (1 : Int32) from rfl), if_neg (show ¬ nI 1 = (0 : Int32) by decide), if_neg (nI_ne0 (by omega) hpar)]
    have hs0 : sp = 0 → ¬ d = 0 := by
      intro z z2
      have : pc sp = 0 := p4.mpr z
      have hl0 : lh = 0 := hlh.mpr (Or.inr (by rw [z2]; rfl))
      have : l = 0 := by
        rw [hl] at hl0
        exact (nI_eq (by omega) (by decide)).mp (hl0.trans nI_0.symm)
      omega
    obtain ⟨d', hd', k1, k2⟩ := comp_eq (sayings := sayings) hu hd hsp hs0 (fun j hj => hbit (by rw [eSP]; exact hj)) hh hT
    rw [k1, Option.bind_some, shl1 kk (by omega)]
    refine ⟨1, d', x ||| sp, _, _, hd', hx', rfl, ?_, Or.inl ⟨rfl, rfl⟩⟩
    have := k2 (Int32 × Int32 × Int32 × (Nat → Int32)) (fun z => some (z, spoke + nI (pc sp + l), holds ||| nI (2 ^ kk), upd w (o + 9) (nI (x ||| sp))))
    simp only [o_nm] at this
    exact this
/-- the corner of a step -/
def cnr (c k0 i : Nat) (way : Int32) : Nat := if way = 1 then (k0 + i) % c else (k0 + c - i) % c
theorem subadd (x y z : Int32) : x - y + z = x + z - y := by grind
theorem cnr_lt {c k0 i : Nat} {way : Int32} (hc : 0 < c) : cnr c k0 i way < c := by unfold cnr; split <;> exact Nat.mod_lt _ hc
theorem cnr_x {c k0 i : Nat} {way : Int32} (hc : c ≤ 8) (hk : k0 < c) (hi : i < c) : f_X0_cornerOf (nI c) (nI k0) way (nI i) = some (nI (cnr c k0 i way)) := by
  unfold f_X0_cornerOf cnr
  by_cases c1 : way = 1
  · rw [if_pos c1, if_pos c1, nI_add]
    unfold f_X0_cornerOf_14
    by_cases c2 : k0 + i < c
    · rw [if_pos (nI_lt c2 (by omega)), if_pos (nI_pos' (by omega)), Nat.mod_eq_of_lt c2]
    · rw [if_neg (nI_nlt (by omega) (by omega)), pk_sub (by omega), Nat.mod_eq_sub_mod (by omega), Nat.mod_eq_of_lt (by omega)]
  · rw [if_neg c1, if_neg c1]
    unfold f_X0_cornerOf_14
    by_cases c2 : i ≤ k0
    · rw [pk_sub c2, if_pos (nI_lt (by omega) (by omega)), if_pos (nI_pos' (by omega)), show k0 + c - i = (k0 - i) + c by omega, Nat.add_mod_right, Nat.mod_eq_of_lt (by omega)]
    · have hn : nI k0 - nI i < 0 := pk_sneg (by omega) (by omega)
      have hz := Int32.lt_iff_toInt_lt.mp hn
      rw [if_pos (Int32.lt_iff_toInt_lt.mpr (by rw [nI_toInt (by omega)]; have : (0 : Int32).toInt = 0 := rfl; omega)), if_neg (fun z => by have := Int32.le_iff_toInt_le.mp z; omega), subadd, nI_add, pk_sub (by omega), Nat.mod_eq_of_lt (by omega)]
theorem cnr_m {c k0 i : Nat} {way : Int32} (hc : c ≤ 8) (hk : k0 < c) (hi : i < c) {β : Type} (g : Int32 → Option β) : (if way = (1 : Int32) then ((o_rm (nI k0 + nI i) (nI c)).bind g) else ((o_rm ((nI k0 - nI i) + nI c) (nI c)).bind g)) = g (nI (cnr c k0 i way)) := by
  have rm : ∀ a, a < 2 ^ 31 → o_rm (nI a) (nI c) = some (nI (a % c)) := by
    intro a ha
    unfold o_rm
    rw [if_neg (nI_ne0 (by omega) (by omega)), pk_rem ha (by omega) (by omega)]
  unfold cnr
  by_cases c1 : way = 1
  · rw [if_pos c1, if_pos c1, nI_add, rm _ (by omega), Option.bind_some]
  · rw [if_neg c1, if_neg c1, subadd, nI_add, pk_sub (by omega), rm _ (by omega), Option.bind_some]
/-- a round, step by step: besides, where it holds -/
def hmask (c k0 : Nat) (way : Int32) (q : Nat → Bool) : Nat → Nat → Nat
  | _, 0 => 0
  | i, n + 1 => hmask c k0 way q (i + 1) n ||| (if q i then 2 ^ cnr c k0 i way else 0)
theorem round_loop (hu : u < 256) (hh : h ≤ 9) (ho : o + 17 ≤ 578) (hT : TR h pinches sayings pinched says) {c k0 : Nat} {way : Int32} (hc : c ≤ 8) (hk : k0 < c) :
    ∀ (n i : Nat) (d x : Nat) (holds spoke : Int32) (w : Nat → Int32), i ≤ c → c < n + i → d < 256 → x < 512 → RW h o x sil colds places w →
      ∃ (d' x' : Nat) (h' s' : Int32), d' < 256 ∧ x' < 512 ∧ f_X0_goRound_2 sil liars colds (nI u) (nI c) (nI h) places pinches sayings n (nI d) holds spoke (nI x) (nI k0) way (nI i) = some (nI d', h', s', nI x') ∧ f_X11_roundIn_16 (nI u) (nI c) (nI h) pinched says n spoke holds w (nI o) (nI k0) way liars (nI d) (nI i) = some (nI d', s', h', upd w (o + 9) (nI x')) := by
  intro n
  induction n with
  | zero => intro i d x holds spoke w h1 h2; omega
  | succ n ih =>
    intro i d x holds spoke w hi hn hd hx hW
    rw [f_X0_goRound_2, f_X11_roundIn_16]
    by_cases hlt : i < c
    · rw [if_neg (nI_ge hlt (by omega)), if_neg (nI_ge hlt (by omega)), cnr_x hc hk hlt, Option.bind_some, cnr_m hc hk hlt]
      unfold f_X11_roundIn_57
      have hcl : cnr c k0 i way < 8 := Nat.lt_of_lt_of_le (cnr_lt (by omega)) hc
      have hhas : f_X11_has liars (nI (cnr c k0 i way)) = some (if bt liars (cnr c k0 i way) then 1 else 0) := by
        cases cl : bt liars (cnr c k0 i way) with
        | true => rw [hasM_t cl (by omega)]; rfl
        | false => rw [hasM_f cl (by omega)]; rfl
      rw [hhas, Option.bind_some]
      obtain ⟨rr, d', x', h', s', hd', hx', e1, e2, -⟩ := cry1 (sayings := sayings) (holds := holds) (spoke := spoke) hu hh ho hT hd hx hcl hW rfl
      rw [e1, e2]
      simp only [Option.bind_some, o_nm]
      rw [nI_1]
      have hW' : RW h o x' sil colds places (upd w (o + 9) (nI x')) := by
        obtain ⟨w1, w2, w3, w4⟩ := hW
        exact ⟨fun j hj => by rw [upd_n _ _ (by omega)]; exact w1 j hj, by rw [upd_n _ _ (by omega)]; exact w2, by rw [upd_n _ _ (by omega)]; exact w3, upd_s _ _ _⟩
      obtain ⟨d2, x2, h2, s2, a1, a2, a3, a4⟩ := ih (i + 1) d' x' h' s' _ (by omega) (by omega) hd' hx' hW'
      exact ⟨d2, x2, h2, s2, a1, a2, a3, by rw [a4, upd_upd]⟩
    · have e : i = c := by omega
      subst e
      rw [if_pos (nI_le (Nat.le_refl i) (by omega)), if_pos (nI_le (Nat.le_refl i) (by omega))]
      refine ⟨d, x, holds, spoke, hd, hx, rfl, ?_⟩
      rw [← hW.2.2.2, upd_self]
theorem round1 (hu : u < 256) (hh : h ≤ 9) (ho : o + 17 ≤ 578) (hT : TR h pinches sayings pinched says) {c k0 : Nat} {way : Int32} (hc : c ≤ 8) (hk : k0 < c) {d x : Nat} {w : Nat → Int32} {sp ho2 : Int32} (hd : d < 256) (hx : x < 512) (hW : RW h o x sil colds places w) :
    ∃ (d' x' : Nat) (h' s' : Int32), d' < 256 ∧ x' < 512 ∧ f_X0_goRound sil liars (nI d) 0 0 (nI x) colds (nI u) (nI c) (nI h) places pinches sayings (nI k0) way = some (nI d', h', s', nI x') ∧ f_X11_roundIn (nI u) (nI c) (nI h) sp ho2 pinched says w (nI o) (nI d) (nI k0) way liars = some (nI d', s', h', upd w (o + 9) (nI x')) :=
  round_loop hu hh ho hT hc hk 1000 0 d x 0 0 w (by omega) (by omega) hd hx hW
end RND
/-! rows of the reference -/
def cp (w : Nat → Int32) (a b : Nat) : Nat → Int32 := fun j => if b ≤ j ∧ j < b + 17 then w (a + (j - b)) else w j
theorem copy_loop {w : Nat → Int32} {a b : Nat} (ha : a + 17 ≤ 578) (hb : b + 17 ≤ 578) (hd : a + 17 ≤ b ∨ b + 17 ≤ a) : ∀ (n i : Nat), i ≤ 17 → 17 < n + i → f_X11_copy_2 n (fun j => if b ≤ j ∧ j < b + i then w (a + (j - b)) else w j) (nI a) (nI b) (nI i) = some (cp w a b) := by
  intro n
  induction n with
  | zero => intro i h1 h2; omega
  | succ n ih =>
    intro i hi hn
    rw [f_X11_copy_2]
    by_cases hlt : i < 17
    · rw [if_neg (show ¬ (17 : Int32) ≤ nI i from nI_ge (b := 17) hlt (by decide)), nI_add, ld_in (show a + i < 578 by omega) (by decide), Option.bind_some, nI_add, st_in (show b + i < 578 by omega) (by decide), Option.bind_some]
      simp only [o_nm]
      rw [nI_1, ← ih (i + 1) (by omega) (by omega)]
      congr 1
      funext j
      by_cases hj : j = b + i
      · subst hj
        rw [upd_s, if_neg (by omega), if_pos (by omega), Nat.add_sub_cancel_left]
      · rw [upd_n _ _ hj]
        by_cases h2 : b ≤ j ∧ j < b + i
        · rw [if_pos h2, if_pos (by omega)]
        · rw [if_neg h2, if_neg (by omega)]
    · have e : i = 17 := by omega
      subst e
      rw [if_pos (show (17 : Int32) ≤ nI 17 by decide)]
      rfl
theorem copy_eq {w : Nat → Int32} {a b : Nat} (ha : a + 17 ≤ 578) (hb : b + 17 ≤ 578) (hd : a + 17 ≤ b ∨ b + 17 ≤ a) : f_X11_copy w (nI a) (nI b) = some (cp w a b) := by
  have := copy_loop (w := w) ha hb hd 1000 0 (by omega) (by omega)
  have e : (fun j => if b ≤ j ∧ j < b + 0 then w (a + (j - b)) else w j) = w := by
    funext j; rw [if_neg (by omega)]
  rw [e] at this
  exact this
theorem cp_in (w : Nat → Int32) {a b i : Nat} (hi : i < 17) : cp w a b (b + i) = w (a + i) := by
  unfold cp; rw [if_pos (by omega), Nat.add_sub_cancel_left]
theorem cp_out (w : Nat → Int32) {a b j : Nat} (h : j < b ∨ b + 17 ≤ j) : cp w a b j = w j := by
  unfold cp; rw [if_neg (by omega)]
