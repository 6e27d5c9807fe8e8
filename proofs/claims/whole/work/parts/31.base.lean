/-! numbers and bits (the first family begins with rows of kit/laws/BITS.to-paste) -/
def bt (x : Int32) (i : Nat) : Bool := x.toBitVec.getLsbD i
theorem b_ext {x y : Int32} (h : ∀ i, i < 32 → bt x i = bt y i) : x = y := Int32.toBitVec_inj.mp (BitVec.eq_of_getLsbD_eq (fun i hi => h i hi))
theorem b_or (x y : Int32) (i : Nat) : bt (x ||| y) i = (bt x i || bt y i) := by unfold bt; rw [Int32.toBitVec_or, BitVec.getLsbD_or]
theorem b_and (x y : Int32) (i : Nat) : bt (x &&& y) i = (bt x i && bt y i) := by unfold bt; rw [Int32.toBitVec_and, BitVec.getLsbD_and]
theorem b_xor (x y : Int32) (i : Nat) : bt (x ^^^ y) i = (bt x i ^^ bt y i) := by unfold bt; rw [Int32.toBitVec_xor, BitVec.getLsbD_xor]
theorem b_m1 : ∀ i, i < 32 → bt (-1) i = true := by decide +kernel
theorem b_0 (i : Nat) : bt 0 i = false := BitVec.getLsbD_zero
theorem b_1 : ∀ i, i < 32 → bt (1 : Int32) i = decide (i = 0) := by decide +kernel
theorem s_l : ∀ n, n < 32 → ((nI n &&& 31).toBitVec.smod 32).toNat = n := by decide +kernel
theorem b_sshr (n : Nat) (hn : n < 32) (x : Int32) {i : Nat} (hi : i < 32) : bt (x >>> (nI n &&& 31)) i = if n + i < 32 then bt x (n + i) else bt x 31 := by
  unfold bt
  rw [Int32.toBitVec_shiftRight]
  show (x.toBitVec.sshiftRight ((nI n &&& 31).toBitVec.smod 32).toNat).getLsbD i = _
  rw [s_l n hn, BitVec.getLsbD_sshiftRight, BitVec.msb_eq_getLsbD_last]
  simp [hi]
theorem b_not (x : Int32) {i : Nat} (hi : i < 32) : bt (x ^^^ (-1 : Int32)) i = !bt x i := by rw [b_xor, b_m1 i hi]; cases bt x i <;> rfl
theorem bt_nI (a : Nat) {i : Nat} (hi : i < 32) : bt (nI a) i = a.testBit i := by
  unfold bt
  show (BitVec.ofNat 32 a).getLsbD i = _
  rw [BitVec.getLsbD_ofNat]
  simp [hi]
theorem nx_or (a b : Nat) : nI a ||| nI b = nI (a ||| b) := b_ext fun i hi => by rw [b_or, bt_nI _ hi, bt_nI _ hi, bt_nI _ hi, Nat.testBit_or]
theorem nx_and (a b : Nat) : nI a &&& nI b = nI (a &&& b) := b_ext fun i hi => by rw [b_and, bt_nI _ hi, bt_nI _ hi, bt_nI _ hi, Nat.testBit_and]
theorem bit_t {x : Int32} {n : Nat} (h : bt x n = true) (hn : n < 32) : (x >>> (nI n &&& 31)) &&& (1 : Int32) = 1 := b_ext fun i hi => by
  rw [b_and, b_sshr n hn x hi, b_1 i hi]
  by_cases h0 : i = 0
  · subst h0; simp [hn, h]
  · simp [h0]
theorem bit_f {x : Int32} {n : Nat} (h : bt x n = false) (hn : n < 32) : (x >>> (nI n &&& 31)) &&& (1 : Int32) = 0 := b_ext fun i hi => by
  rw [b_and, b_sshr n hn x hi, b_1 i hi, b_0]
  by_cases h0 : i = 0
  · subst h0; simp [hn, h]
  · simp [h0]
theorem one_ne : ¬ (1 : Int32) = 0 := by decide
theorem has_t {x : Int32} {n : Nat} (h : bt x n = true) (hn : n < 32) : f_X10_has x (nI n) = some 1 := by
  unfold f_X10_has; rw [bit_t h hn, if_pos rfl]
theorem has_f {x : Int32} {n : Nat} (h : bt x n = false) (hn : n < 32) : f_X10_has x (nI n) = some 0 := by
  unfold f_X10_has; rw [bit_f h hn, if_neg (by decide)]
theorem hasM_t {x : Int32} {n : Nat} (h : bt x n = true) (hn : n < 32) : f_X11_has x (nI n) = some 1 := by
  unfold f_X11_has; rw [bit_t h hn, if_pos rfl]
theorem hasM_f {x : Int32} {n : Nat} (h : bt x n = false) (hn : n < 32) : f_X11_has x (nI n) = some 0 := by
  unfold f_X11_has; rw [bit_f h hn, if_neg (by decide)]
theorem bitF_t {x : Int32} {n : Nat} (h : bt x n = true) (hn : n < 32) : f_X10_bit x (nI n) = some 1 := by
  unfold f_X10_bit; rw [bit_t h hn]
theorem bitF_f {x : Int32} {n : Nat} (h : bt x n = false) (hn : n < 32) : f_X10_bit x (nI n) = some 0 := by
  unfold f_X10_bit; rw [bit_f h hn]
theorem shl1 : ∀ n, n < 31 → (1 : Int32) <<< (nI n &&& 31) = nI (2 ^ n) := by decide +kernel
/-! reading and writing rows -/
theorem ld_in {f : Nat → Int32} {n k : Nat} (h : k < n) (hn : n < 2 ^ 31) : o_ld f n (nI k) = some (f k) := by
  unfold o_ld
  rw [if_neg (nI_in h hn), nI_clamp (by omega)]
theorem st_in {f : Nat → Int32} {n k : Nat} {x : Int32} (h : k < n) (hn : n < 2 ^ 31) : o_st f n (nI k) x = some (upd f k x) := by
  unfold o_st
  rw [if_neg (nI_in h hn), nI_clamp (by omega)]
theorem ld_at {f : Nat → Int32} {n k : Nat} {i : Int32} (e : i = nI k) (h : k < n) (hn : n < 2 ^ 31) : o_ld f n i = some (f k) := by rw [e]; exact ld_in h hn
theorem st_at {f : Nat → Int32} {n k : Nat} {i x : Int32} (e : i = nI k) (h : k < n) (hn : n < 2 ^ 31) : o_st f n i x = some (upd f k x) := by rw [e]; exact st_in h hn
theorem at_in {f : Nat → Int32} {n k : Nat} (h : k < n) (hn : n < 2 ^ 31) : f_X10_at n f (nI k) = some (f k) := by
  unfold f_X10_at
  rw [if_neg (nI_pos (by omega)), if_neg (show ¬ Int32.ofNat n ≤ nI k from nI_ge h hn), ld_in h hn]
  rfl
theorem put_in {f : Nat → Int32} {n k : Nat} {x : Int32} (h : k < n) (hn : n < 2 ^ 31) : f_X10_put n f (nI k) x = some (upd f k x) := by
  unfold f_X10_put
  rw [if_neg (nI_pos (by omega)), if_neg (show ¬ Int32.ofNat n ≤ nI k from nI_ge h hn), st_in h hn]
  rfl
theorem upd_s (f : Nat → Int32) (k : Nat) (x : Int32) : upd f k x k = x := by simp [upd]
theorem upd_n (f : Nat → Int32) {k j : Nat} (x : Int32) (h : j ≠ k) : upd f k x j = f j := by simp [upd, h]
/-! sets told by a test -/
def bs (p : Nat → Bool) : Nat → Nat
  | 0 => 0
  | n + 1 => bs p n + if p n then 2 ^ n else 0
theorem bs_lt (p : Nat → Bool) : ∀ n, bs p n < 2 ^ n
  | 0 => by simp [bs]
  | n + 1 => by
    have h := bs_lt p n
    unfold bs
    rw [Nat.pow_succ]
    cases p n <;> simp <;> omega
theorem bs_cong {p q : Nat → Bool} : ∀ n, (∀ i, i < n → p i = q i) → bs p n = bs q n
  | 0, _ => rfl
  | n + 1, h => by
    unfold bs
    rw [bs_cong n (fun i hi => h i (by omega)), h n (by omega)]
theorem bs_t {p : Nat → Bool} {n : Nat} (h : p n = true) : bs p (n + 1) = bs p n ||| 2 ^ n := by
  show bs p n + (if p n = true then 2 ^ n else 0) = _
  rw [h, if_pos rfl, Nat.or_comm]
  have := Nat.two_pow_add_eq_or_of_lt (bs_lt p n) 1
  rw [Nat.mul_one] at this
  omega
theorem bs_f {p : Nat → Bool} {n : Nat} (h : p n = false) : bs p (n + 1) = bs p n := by
  show bs p n + (if p n = true then 2 ^ n else 0) = _
  rw [h]
  simp
theorem bs_bit (p : Nat → Bool) : ∀ n i, (bs p n).testBit i = (decide (i < n) && p i)
  | 0, i => by simp [bs]
  | n + 1, i => by
    cases h : p n with
    | true =>
      rw [bs_t h, Nat.testBit_or, bs_bit p n i, Nat.testBit_two_pow]
      by_cases hi : i = n
      · subst hi; simp [h]
      · by_cases h2 : i < n
        · simp [h2, show i < n + 1 by omega]; omega
        · simp [h2, show ¬ i < n + 1 by omega]; omega
    | false =>
      rw [bs_f h, bs_bit p n i]
      by_cases hi : i = n
      · subst hi; simp [h]
      · by_cases h2 : i < n
        · simp [h2, show i < n + 1 by omega]
        · simp [h2, show ¬ i < n + 1 by omega]
theorem bs_or {p : Nat → Bool} {n : Nat} (h : p n = true) (hn : n < 31) : nI (bs p n) ||| ((1 : Int32) <<< (nI n &&& 31)) = nI (bs p (n + 1)) := by
  rw [shl1 n hn, nx_or, bs_t h]
theorem bs_bt (p : Nat → Bool) {n i : Nat} (hi : i < 32) : bt (nI (bs p n)) i = (decide (i < n) && p i) := by rw [bt_nI _ hi, bs_bit]
theorem bs_zero {p : Nat → Bool} {n : Nat} : bs p n = 0 ↔ ∀ i, i < n → p i = false := by
  constructor
  · intro h i hi
    have := bs_bit p n i
    rw [h] at this
    simp [hi] at this
    exact this
  · intro h
    rw [bs_cong (q := fun _ => false) n h]
    have z : ∀ n, bs (fun _ => false) n = 0 := by
      intro n
      induction n with
      | zero => rfl
      | succ n ih => unfold bs; rw [ih]; simp
    exact z n
theorem one_0 : f_X11_one 0 = some 0 := rfl
theorem one_1 : f_X11_one 1 = some 1 := rfl
/-! who speaks -/
def pS (places pinches : Nat → Int32) (k silent dec : Int32) (j : Nat) : Bool := decide (places j = k) && (!bt silent j && decide (¬ (pinches j &&& dec) = 0))
theorem spk_loop {dec : Int32} {places pinches : Nat → Int32} {k silent : Int32} {h : Nat} (hh : h ≤ 9) : ∀ (n i : Nat), i ≤ h → h < n + i → f_X0_speakersAt_5 dec (nI h) places pinches n k silent (nI (bs (pS places pinches k silent dec) i)) (nI i) = some (nI (bs (pS places pinches k silent dec) h)) := by
  intro n
  induction n with
  | zero => intro i h1 h2; omega
  | succ n ih =>
    intro i hi hn
    rw [f_X0_speakersAt_5]
    simp only [o_nm]
    by_cases hlt : i < h
    · rw [if_neg (nI_ge hlt (by omega)), at_in (show i < 9 by omega) (by decide), Option.bind_some]
      by_cases c1 : places i = k
      · rw [if_pos c1]
        cases c2 : bt silent i with
        | true =>
          rw [has_t c2 (by omega), Option.bind_some, if_neg one_ne, nI_1]
          rw [← ih (i + 1) (by omega) (by omega), bs_f (by simp [pS, c2])]
        | false =>
          rw [has_f c2 (by omega), Option.bind_some, if_pos rfl, at_in (show i < 9 by omega) (by decide), Option.bind_some]
          by_cases c3 : (pinches i &&& dec) = 0
          · rw [if_pos c3, nI_1, ← ih (i + 1) (by omega) (by omega), bs_f (by simp [pS, c3])]
          · rw [if_neg c3, nI_1, bs_or (by simp [pS, c1, c2, c3]) (by omega)]
            exact ih (i + 1) (by omega) (by omega)
      · rw [if_neg c1, nI_1, ← ih (i + 1) (by omega) (by omega), bs_f (by simp [pS, c1])]
    · have e : i = h := by omega
      subst e
      rw [if_pos (nI_le (Nat.le_refl i) (by omega))]
theorem spk {dec : Int32} {places pinches : Nat → Int32} {k silent : Int32} {h : Nat} (hh : h ≤ 9) : f_X0_speakersAt dec (nI h) places pinches k silent = some (nI (bs (pS places pinches k silent dec) h)) :=
  spk_loop hh 1000 0 (by omega) (by omega)
theorem std_loop {w : Nat → Int32} {k : Int32} {h o : Nat} (hh : h ≤ 9) (ho : o + h ≤ 578) : ∀ (n i : Nat), i ≤ h → h < n + i → f_X11_standing_5 (nI h) w n (nI o) k (nI (bs (fun j => decide (w (o + j) = k)) i)) (nI i) = some (nI (bs (fun j => decide (w (o + j) = k)) h)) := by
  intro n
  induction n with
  | zero => intro i h1 h2; omega
  | succ n ih =>
    intro i hi hn
    rw [f_X11_standing_5]
    by_cases hlt : i < h
    · rw [if_neg (nI_ge hlt (by omega)), nI_add, ld_in (show o + i < 578 by omega) (by decide), Option.bind_some]
      unfold f_X11_standing_33
      simp only [o_nm, one_0, one_1]
      by_cases c1 : w (o + i) = k
      · rw [if_pos c1, Option.bind_some, nI_1, bs_or (by simp [c1]) (by omega)]
        exact ih (i + 1) (by omega) (by omega)
      · rw [if_neg c1, Option.bind_some, nI_1, ← ih (i + 1) (by omega) (by omega), bs_f (by simp [c1])]
        congr 1
        refine b_ext fun j hj => ?_
        rw [b_or]
        have : bt ((0 : Int32) <<< (nI i &&& 31)) j = false := by
          have h0 : ∀ i, i < 10 → (0 : Int32) <<< (nI i &&& 31) = 0 := by decide +kernel
          rw [h0 i (by omega), b_0]
        rw [this, Bool.or_false]
    · have e : i = h := by omega
      subst e
      rw [if_pos (nI_le (Nat.le_refl i) (by omega))]
theorem std {w : Nat → Int32} {k : Int32} {h o : Nat} (hh : h ≤ 9) (ho : o + h ≤ 578) : f_X11_standing (nI h) w (nI o) k = some (nI (bs (fun j => decide (w (o + j) = k)) h)) :=
  std_loop hh ho 1000 0 (by omega) (by omega)
theorem zshl : ∀ i, i < 10 → (0 : Int32) <<< (nI i &&& 31) = 0 := by decide +kernel
theorem or_z (x : Int32) : x ||| 0 = x := b_ext fun i hi => by rw [b_or, b_0, Bool.or_false]
theorem pof_loop {pinched : Nat → Int32} {set dec : Int32} {h : Nat} (hh : h ≤ 9) : ∀ (n i : Nat), i ≤ h → h < n + i → f_X11_pinchedOf_5 (nI h) pinched n set dec (nI (bs (fun j => bt set j && decide (¬ (pinched j &&& dec) = 0)) i)) (nI i) = some (nI (bs (fun j => bt set j && decide (¬ (pinched j &&& dec) = 0)) h)) := by
  intro n
  induction n with
  | zero => intro i h1 h2; omega
  | succ n ih =>
    intro i hi hn
    rw [f_X11_pinchedOf_5]
    by_cases hlt : i < h
    · rw [if_neg (nI_ge hlt (by omega))]
      unfold f_X11_pinchedOf_41
      simp only [o_nm, one_0, one_1]
      cases c1 : bt set i with
      | true =>
        rw [hasM_t c1 (by omega), Option.bind_some, if_neg one_ne, ld_in (show i < 18 by omega) (by decide), Option.bind_some]
        by_cases c2 : (pinched i &&& dec) = 0
        · rw [if_pos c2, Option.bind_some, nI_1, zshl i (by omega), or_z, ← ih (i + 1) (by omega) (by omega), bs_f (by simp [c2])]
        · rw [if_neg c2, Option.bind_some, nI_1, bs_or (by simp [c1, c2]) (by omega)]
          exact ih (i + 1) (by omega) (by omega)
      | false =>
        rw [hasM_f c1 (by omega), Option.bind_some, if_pos rfl, Option.bind_some, nI_1, zshl i (by omega), or_z, ← ih (i + 1) (by omega) (by omega), bs_f (by simp [c1])]
    · have e : i = h := by omega
      subst e
      rw [if_pos (nI_le (Nat.le_refl i) (by omega))]
theorem pof {pinched : Nat → Int32} {set dec : Int32} {h : Nat} (hh : h ≤ 9) : f_X11_pinchedOf (nI h) pinched set dec = some (nI (bs (fun j => bt set j && decide (¬ (pinched j &&& dec) = 0)) h)) :=
  pof_loop hh 1000 0 (by omega) (by omega)
