/-! one crying at a corner: the class's and the reference's -/
def pc (x : Nat) : Nat := (x.testBit 0).toNat + (x.testBit 1).toNat + (x.testBit 2).toNat + (x.testBit 3).toNat + (x.testBit 4).toNat + (x.testBit 5).toNat + (x.testBit 6).toNat + (x.testBit 7).toNat + (x.testBit 8).toNat
theorem pc_all : ∀ x, x < 512 → f_J6_bitCount (nI x) = some (nI (pc x)) ∧ f_X11_ones (nI x) = some (nI (pc x)) ∧ pc x ≤ 9 ∧ (pc x = 0 ↔ x = 0) := by decide +kernel
def lz (x : Nat) : Nat := if x.testBit 0 then 0 else if x.testBit 1 then 1 else if x.testBit 2 then 2 else if x.testBit 3 then 3 else if x.testBit 4 then 4 else if x.testBit 5 then 5 else if x.testBit 6 then 6 else if x.testBit 7 then 7 else 8
theorem lz_all : ∀ x, x < 512 → ¬ x = 0 → f_X11_least (nI x) = some (nI (lz x)) ∧ f_J6_numberOfTrailingZeros (nI x) = some (nI (lz x)) ∧ f_J6_lowestOneBit (nI x) = some (nI (2 ^ lz x)) ∧ lz x < 9 ∧ x.testBit (lz x) = true := by decide +kernel
theorem small_and {d n : Nat} (hd : d < 2 ^ n) (hn : n < 31) (y : Int32) : ∃ e, e < 2 ^ n ∧ nI d &&& y = nI e := by
  refine ⟨bs (fun i => d.testBit i && bt y i) n, bs_lt _ _, b_ext fun i hi => ?_⟩
  rw [b_and, bt_nI _ hi, bs_bt _ hi]
  by_cases h : i < n
  · simp [h]
  · have : d.testBit i = false := Nat.testBit_lt_two_pow (Nat.lt_of_lt_of_le hd (Nat.pow_le_pow_right (by decide) (by omega)))
    simp [h, this]
theorem and_cm (x y : Int32) : x &&& y = y &&& x := b_ext fun i _ => by rw [b_and, b_and, Bool.and_comm]
theorem or_lt {a b n : Nat} (ha : a < 2 ^ n) (hb : b < 2 ^ n) : a ||| b < 2 ^ n := Nat.or_lt_two_pow ha hb
theorem rm2 {m : Nat} (hm : m < 2 ^ 31) : o_rm (nI m) (2 : Int32) = some (nI (m % 2)) := by
  unfold o_rm
  rw [if_neg (by decide), show (2 : Int32) = nI 2 from rfl, pk_rem hm (by decide) (by decide)]
/-- who speaks: at the first reading, or at the second -/
def SPn (places pinches : Nat → Int32) (colds sil : Int32) (x d : Nat) (lh : Int32) (kk h : Nat) : Nat :=
  if bs (pS places pinches (nI kk) (sil ||| nI x) (nI d)) h = 0 ∧ lh = 0 ∧ bt colds kk = true then bs (pS places pinches (nI kk) sil (nI d)) h else bs (pS places pinches (nI kk) (sil ||| nI x) (nI d)) h
theorem SPn_lt {places pinches : Nat → Int32} {colds sil : Int32} {x d : Nat} {lh : Int32} {kk h : Nat} (hh : h ≤ 9) : SPn places pinches colds sil x d lh kk h < 512 := by
  have h2 : 2 ^ h ≤ 2 ^ 9 := Nat.pow_le_pow_right (by decide) hh
  unfold SPn
  split
  · exact Nat.lt_of_lt_of_le (bs_lt _ h) h2
  · exact Nat.lt_of_lt_of_le (bs_lt _ h) h2
/-- whoever speaks stands at a told place and is pinched -/
theorem SPn_bit {places pinches : Nat → Int32} {colds sil : Int32} {x d : Nat} {lh : Int32} {kk h j : Nat} (hj : (SPn places pinches colds sil x d lh kk h).testBit j = true) : j < h ∧ ¬ (pinches j &&& nI d) = 0 := by
  unfold SPn at hj
  split at hj
  · rw [bs_bit] at hj
    simp [pS] at hj
    exact ⟨hj.1, hj.2.2.2⟩
  · rw [bs_bit] at hj
    simp [pS] at hj
    exact ⟨hj.1, hj.2.2.2⟩
section CRY
variable {u h d x kk o : Nat} {liars sil colds holds spoke : Int32} {places pinches sayings w pinched says : Nat → Int32}
theorem read_eq (hh : h ≤ 9) (hkk : kk < 8) : f_X0_readAt sil liars (nI d) holds spoke (nI x) colds (nI u) (nI h) places pinches sayings (nI kk) = f_X0_readAt_67 (nI u) pinches sayings (nI d) holds spoke (nI x) (nI kk) (nI (SPn places pinches colds sil x d (if nI d = 0 then 0 else if bt liars kk then 1 else 0) kk h)) (if nI d = 0 then 0 else if bt liars kk then 1 else 0) := by
  unfold f_X0_readAt
  rw [spk hh, Option.bind_some]
  have key : ∀ lh : Int32, f_X0_readAt_34 sil colds (nI u) (nI h) places pinches sayings (nI d) holds spoke (nI x) (nI kk) (nI (bs (pS places pinches (nI kk) (sil ||| nI x) (nI d)) h)) lh = f_X0_readAt_67 (nI u) pinches sayings (nI d) holds spoke (nI x) (nI kk) (nI (SPn places pinches colds sil x d lh kk h)) lh := by
    intro lh
    have hb : bs (pS places pinches (nI kk) (sil ||| nI x) (nI d)) h < 2 ^ 31 := Nat.lt_of_lt_of_le (bs_lt _ h) (Nat.pow_le_pow_right (by decide) (by omega))
    unfold f_X0_readAt_34 SPn
    by_cases c1 : bs (pS places pinches (nI kk) (sil ||| nI x) (nI d)) h = 0
    · rw [c1, if_pos nI_0]
      by_cases c2 : lh = 0
      · rw [if_pos c2]
        cases c3 : bt colds kk with
        | true => rw [has_t c3 (by omega), Option.bind_some, if_neg one_ne, spk hh, Option.bind_some, if_pos ⟨rfl, c2, rfl⟩]
        | false => rw [has_f c3 (by omega), Option.bind_some, if_pos rfl, if_neg (fun z => by cases z.2.2)]
      · rw [if_neg c2, if_neg (fun z => c2 z.2.1)]
    · rw [if_neg (fun z => c1 ((nI_eq hb (by decide)).mp (z.trans nI_0.symm))), if_neg (fun z => c1 z.1)]
  by_cases c0 : nI d = 0
  · rw [if_pos c0, if_pos c0]
    exact key _
  · rw [if_neg c0, if_neg c0]
    cases c3 : bt liars kk with
    | true => rw [bitF_t c3 (by omega), Option.bind_some]; exact key _
    | false => rw [bitF_f c3 (by omega), Option.bind_some]; exact key _
theorem speakers_eq {lf lh : Int32} (hh : h ≤ 9) (hkk : kk < 8) (ho : o + 17 ≤ 578) (hpi : ∀ j, j < h → pinches j = pinched j) (hw : ∀ j, j < h → places j = w (o + j)) (h10 : w (o + 10) = sil) (h11 : w (o + 11) = colds) (h9 : w (o + 9) = nI x) (hlh : lh = 0 ↔ (lf = 0 ∨ nI d = 0)) : f_X11_speakers (nI h) pinched w (nI o) (nI kk) (nI d) lf = some (nI (SPn places pinches colds sil x d lh kk h)) := by
  unfold f_X11_speakers
  rw [std hh (by omega), Option.bind_some, show (10 : Int32) = nI 10 from rfl, nI_add, ld_in (show o + 10 < 578 by omega) (by decide), Option.bind_some]
  simp only [o_nm]
  rw [show (9 : Int32) = nI 9 from rfl, nI_add, ld_in (show o + 9 < 578 by omega) (by decide), Option.bind_some, pof hh, Option.bind_some, h10, h9]
  have e1 : bs (fun j => bt (nI (bs (fun j => decide (w (o + j) = nI kk)) h) &&& (sil ^^^ (-1 : Int32)) &&& (nI x ^^^ (-1 : Int32))) j && decide (¬ (pinched j &&& nI d) = 0)) h = bs (pS places pinches (nI kk) (sil ||| nI x) (nI d)) h := by
    refine bs_cong h fun j hj => ?_
    rw [b_and, b_and, b_not _ (by omega), b_not _ (by omega), bs_bt _ (by omega)]
    unfold pS
    rw [b_or, ← hw j hj, hpi j hj]
    simp only [hj, decide_true, Bool.true_and]
    cases decide (places j = nI kk) <;> cases bt sil j <;> cases bt (nI x) j <;> simp
  have e2 : bs (fun j => bt (nI (bs (fun j => decide (w (o + j) = nI kk)) h) &&& (sil ^^^ (-1 : Int32))) j && decide (¬ (pinched j &&& nI d) = 0)) h = bs (pS places pinches (nI kk) sil (nI d)) h := by
    refine bs_cong h fun j hj => ?_
    rw [b_and, b_not _ (by omega), bs_bt _ (by omega)]
    unfold pS
    rw [← hw j hj, hpi j hj]
    simp only [hj, decide_true, Bool.true_and]
    cases decide (places j = nI kk) <;> cases bt sil j <;> simp
  rw [e1]
  have hb : bs (pS places pinches (nI kk) (sil ||| nI x) (nI d)) h < 2 ^ 31 := Nat.lt_of_lt_of_le (bs_lt _ h) (Nat.pow_le_pow_right (by decide) (by omega))
  have k76 : ∀ (set6 : Int32), f_X11_speakers_76 (nI h) pinched (nI d) (nI (bs (fun j => decide (w (o + j) = nI kk)) h) &&& (sil ^^^ (-1 : Int32))) set6 (0 : Int32) = some set6 := by
    intro set6; unfold f_X11_speakers_76; rw [if_pos rfl]
  have k55 : bs (pS places pinches (nI kk) (sil ||| nI x) (nI d)) h = 0 → lh = 0 → f_X11_speakers_55 (nI h) pinched w (nI o) (nI kk) (nI d) (nI (bs (fun j => decide (w (o + j) = nI kk)) h) &&& (sil ^^^ (-1 : Int32))) (nI (bs (pS places pinches (nI kk) (sil ||| nI x) (nI d)) h)) = some (nI (SPn places pinches colds sil x d lh kk h)) := by
    intro z1 z2
    unfold f_X11_speakers_55
    rw [show (11 : Int32) = nI 11 from rfl, nI_add, ld_in (show o + 11 < 578 by omega) (by decide), Option.bind_some, h11]
    unfold SPn
    cases c3 : bt colds kk with
    | true =>
      rw [hasM_t c3 (by omega), Option.bind_some, if_neg one_ne, if_pos ⟨z1, z2, rfl⟩]
      unfold f_X11_speakers_76
      rw [if_neg one_ne, pof hh, Option.bind_some, e2]
    | false => rw [hasM_f c3 (by omega), Option.bind_some, if_pos rfl, k76, if_neg (fun z => by cases z.2.2)]
  by_cases c1 : bs (pS places pinches (nI kk) (sil ||| nI x) (nI d)) h = 0
  · rw [if_pos (by rw [c1]; exact nI_0)]
    by_cases c2 : lf = 0
    · rw [if_pos c2]; exact k55 c1 (hlh.mpr (Or.inl c2))
    · rw [if_neg c2]
      by_cases c3 : nI d = 0
      · rw [if_pos c3]; exact k55 c1 (hlh.mpr (Or.inr c3))
      · rw [if_neg c3, k76]
        unfold SPn
        rw [if_neg (fun z => by rcases hlh.mp z.2.1 with q | q; exact c2 q; exact c3 q)]
  · rw [if_neg (fun z => c1 ((nI_eq hb (by decide)).mp (z.trans nI_0.symm))), k76]
    unfold SPn
    rw [if_neg (fun z => c1 z.1)]
/-- the first who spoke: what becomes of the decree, here and there -/
theorem comp_eq (hu : u < 256) (hd : d < 256) {sp : Nat} (hsp : sp < 512) (hs0 : sp = 0 → ¬ d = 0) (hbit : ∀ j, sp.testBit j = true → j < h ∧ ¬ (pinches j &&& nI d) = 0) (hh : h ≤ 9)
    (hT : ∀ j, j < h → pinches j = pinched j ∧ (∃ p, p < 256 ∧ pinched j = nI p) ∧ ∃ q, q < 9 ∧ says j = nI q ∧ sayings j = if q = 8 then (-1 : Int32) else nI q) :
    ∃ d', d' < 256 ∧ f_X0_compromise (nI d) (nI u) pinches sayings (nI sp) = some (nI d') ∧
      ∀ (β : Type) (g : Int32 → Option β), (if nI sp = 0 then ((f_X11_least (nI d)).bind fun o21 => g (nI d &&& (((1 : Int32) <<< (o21 &&& 31)) ^^^ (-1 : Int32)))) else ((f_X11_least (nI sp)).bind fun o11 => (o_ld pinched 18 o11).bind fun v12 => (f_X11_least (v12 &&& nI d)).bind fun o13 => o_nm (nI d &&& (((1 : Int32) <<< (o13 &&& 31)) ^^^ (-1 : Int32))) fun v14 => (o_ld says 18 o11).bind fun v15 => if (8 : Int32) ≤ v15 then g v14 else ((o_ld says 18 o11).bind fun v17 => (f_X11_has (nI u) v17).bind fun o18 => if o18 = 0 then g v14 else ((o_ld says 18 o11).bind fun v20 => g (v14 ||| ((1 : Int32) <<< (v20 &&& 31))))))) = g (nI d') := by
  unfold f_X0_compromise
  simp only [o_nm]
  by_cases c0 : sp = 0
  · have hd0 := hs0 c0
    subst c0
    obtain ⟨l1, l2, l3, l4, l5⟩ := lz_all d (by omega) hd0
    obtain ⟨e, he, ee⟩ := small_and (n := 8) hd (by decide) (nI (2 ^ lz d) ^^^ (-1 : Int32))
    refine ⟨e, he, ?_, fun β g => ?_⟩
    · rw [if_pos nI_0, l3, Option.bind_some, ee]
    · rw [if_pos nI_0, l1, Option.bind_some, shl1 _ (by omega), ee]
  · have hne : ¬ nI sp = 0 := nI_ne0 (by omega) (by omega)
    obtain ⟨l1, l2, l3, l4, l5⟩ := lz_all sp hsp c0
    obtain ⟨hj, hnz⟩ := hbit _ l5
    obtain ⟨t1, ⟨p, hp, t2⟩, q, hq, t3, t4⟩ := hT _ hj
    rw [t1, t2, nx_and] at hnz
    have hz : ¬ p &&& d = 0 := fun z => hnz (by rw [z]; exact nI_0)
    have hpl : p &&& d < 256 := Nat.lt_of_le_of_lt Nat.and_le_left hp
    obtain ⟨k1, k2, k3, k4, k5⟩ := lz_all (p &&& d) (by omega) hz
    obtain ⟨e, he, ee⟩ := small_and (n := 8) hd (by decide) (nI (2 ^ lz (p &&& d)) ^^^ (-1 : Int32))
    have hso : ∀ (β : Type) (g : Int32 → Option β), ((f_X11_least (nI sp)).bind fun o11 => (o_ld pinched 18 o11).bind fun v12 => (f_X11_least (v12 &&& nI d)).bind fun o13 => (o_ld says 18 o11).bind fun v15 => if (8 : Int32) ≤ v15 then g (nI d &&& (((1 : Int32) <<< (o13 &&& 31)) ^^^ (-1 : Int32))) else ((o_ld says 18 o11).bind fun v17 => (f_X11_has (nI u) v17).bind fun o18 => if o18 = 0 then g (nI d &&& (((1 : Int32) <<< (o13 &&& 31)) ^^^ (-1 : Int32))) else ((o_ld says 18 o11).bind fun v20 => g ((nI d &&& (((1 : Int32) <<< (o13 &&& 31)) ^^^ (-1 : Int32))) ||| ((1 : Int32) <<< (v20 &&& 31)))))) = (if (8 : Int32) ≤ nI q then g (nI e) else ((f_X11_has (nI u) (nI q)).bind fun o18 => if o18 = 0 then g (nI e) else g (nI e ||| ((1 : Int32) <<< (nI q &&& 31))))) := by
      intro β g
      rw [l1]
      simp only [Option.bind_some]
      rw [ld_in (show lz sp < 18 by omega) (by decide), ld_in (show lz sp < 18 by omega) (by decide)]
      simp only [Option.bind_some]
      rw [t2, nx_and, k1]
      simp only [Option.bind_some]
      rw [shl1 _ (show lz (p &&& d) < 31 by omega), ee, t3]
    rw [if_neg hne, l2]
    simp only [Option.bind_some]
    rw [at_in (show lz sp < 9 by omega) (by decide), at_in (show lz sp < 9 by omega) (by decide)]
    simp only [Option.bind_some]
    rw [t1, t2, nx_and, Nat.and_comm d p, k3]
    simp only [Option.bind_some]
    rw [ee, t4]
    by_cases c8 : q = 8
    · subst c8
      refine ⟨e, he, ?_, fun β g => ?_⟩
      · rw [if_pos rfl]
        have e0 : f_X10_setOfOne (-1 : Int32) = some 0 := by decide +kernel
        rw [e0, Option.bind_some, and_cm, show (0 : Int32) = nI 0 from rfl, nx_and, Nat.and_zero, nI_0, or_z]
      · rw [if_neg hne, hso, if_pos (by decide)]
    · rw [if_neg c8]
      have h8 : ¬ (8 : Int32) ≤ nI q := nI_ge (a := q) (b := 8) (by omega) (by decide)
      have e1 : f_X10_setOfOne (nI q) = some (nI (2 ^ q)) := by
        unfold f_X10_setOfOne
        rw [if_pos (nI_pos' (by omega)), shl1 _ (by omega)]
      rw [e1]
      simp only [Option.bind_some]
      rw [nx_and]
      have h2 : 2 ^ q < 2 ^ 8 := Nat.pow_lt_pow_right (by decide) (by omega)
      cases cu : bt (nI u) q with
      | true =>
        refine ⟨e ||| 2 ^ q, or_lt (n := 8) he h2, ?_, fun β g => ?_⟩
        · have : 2 ^ q &&& u = 2 ^ q := by
            rw [bt_nI _ (by omega)] at cu
            refine Nat.eq_of_testBit_eq fun i => ?_
            rw [Nat.testBit_and, Nat.testBit_two_pow]
            by_cases hi : q = i
            · subst hi; simp [cu]
            · simp [hi]
          rw [this, nx_or]
        · rw [if_neg hne, hso, if_neg h8, hasM_t cu (by omega), Option.bind_some, if_neg one_ne, shl1 _ (show q < 31 by omega), nx_or]
      | false =>
        refine ⟨e, he, ?_, fun β g => ?_⟩
        · have : 2 ^ q &&& u = 0 := by
            rw [bt_nI _ (by omega)] at cu
            refine Nat.eq_of_testBit_eq fun i => ?_
            rw [Nat.testBit_and, Nat.testBit_two_pow]
            by_cases hi : q = i
            · subst hi; simp [cu]
            · simp [hi]
          rw [this, nI_0, or_z]
        · rw [if_neg hne, hso, if_neg h8, hasM_f cu (by omega), Option.bind_some, if_pos rfl]
end CRY
