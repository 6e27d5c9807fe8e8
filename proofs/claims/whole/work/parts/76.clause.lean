/-! the draft -/
def tw_RC (c : Nat) (beers : Nat → Int32) (fc : Int32) (beer cold : Nat → Int32) : Prop :=
  (∀ k, k < c → beers k = beer (8 + k) ∧ ∃ b, b < 100 ∧ beer (8 + k) = nI b) ∧ fc = nI (bs (fun k => decide (cold (8 + k) = 1)) c)
def tw_RH (h : Nat) (fp pi sa pinched says stands : Nat → Int32) : Prop :=
  ∀ j, j < h → fp j = stands (9 + j) ∧ pi j = pinched (9 + j) ∧ (∃ x, x < 256 ∧ pinched (9 + j) = nI x) ∧ ∃ q, q < 9 ∧ says (9 + j) = nI q ∧ sa j = if q = 8 then (-1 : Int32) else nI q
theorem tw_cl_bit {p : Nat → Bool} {c : Nat} (hc : c < 31) : nI (bs p c) &&& (((1 : Int32) <<< (nI c &&& 31)) ^^^ (-1 : Int32)) = nI (bs p c) := b_ext fun i hi => by
  rw [b_and, b_not _ hi, shl1 c hc, bt_nI _ hi, bt_nI _ hi, bs_bit, Nat.testBit_two_pow]
  by_cases h : c = i
  · subst h; simp
  · simp [h]
theorem tw_rc_beer {c : Nat} {beers beer cold : Nat → Int32} {fc : Int32} (rc : tw_RC c beers fc beer cold) {v : Nat} (hv : v < 100) : ∀ k, k < c + 1 → upd beers c (nI v) k = upd beer (8 + c) (nI v) (8 + k) ∧ ∃ b, b < 100 ∧ upd beer (8 + c) (nI v) (8 + k) = nI b := by
  intro k hk
  by_cases e : k = c
  · subst e
    rw [upd_s, upd_s]
    exact ⟨rfl, v, hv, rfl⟩
  · rw [upd_n _ _ e, upd_n _ _ (show 8 + k ≠ 8 + c by omega)]
    exact rc.1 k (by omega)
theorem tw_rc_1 {c : Nat} (hc : c < 8) {beers beer cold : Nat → Int32} {fc : Int32} (rc : tw_RC c beers fc beer cold) {v : Nat} (hv : v < 100) : tw_RC (c + 1) (upd beers c (nI v)) (fc ||| ((1 : Int32) <<< (nI c &&& 31))) (upd beer (8 + c) (nI v)) (upd cold (8 + c) 1) := by
  refine ⟨tw_rc_beer rc hv, ?_⟩
  rw [rc.2, bs_cong (q := fun k => decide (upd cold (8 + c) 1 (8 + k) = 1)) c (fun i hi => by show decide (cold (8 + i) = 1) = decide (upd cold (8 + c) 1 (8 + i) = 1); rw [upd_n _ _ (show 8 + i ≠ 8 + c by omega)])]
  exact bs_or (by show decide (upd cold (8 + c) 1 (8 + c) = 1) = true; rw [upd_s]; exact decide_eq_true rfl) (by omega)
theorem tw_rc_0 {c : Nat} (hc : c < 8) {beers beer cold : Nat → Int32} {fc : Int32} (rc : tw_RC c beers fc beer cold) {v : Nat} (hv : v < 100) {x : Int32} (hx : ¬ x = 1) : tw_RC (c + 1) (upd beers c (nI v)) (fc &&& (((1 : Int32) <<< (nI c &&& 31)) ^^^ (-1 : Int32))) (upd beer (8 + c) (nI v)) (upd cold (8 + c) x) := by
  refine ⟨tw_rc_beer rc hv, ?_⟩
  rw [rc.2, tw_cl_bit (by omega), bs_cong (q := fun k => decide (upd cold (8 + c) x (8 + k) = 1)) c (fun i hi => by show decide (cold (8 + i) = 1) = decide (upd cold (8 + c) x (8 + i) = 1); rw [upd_n _ _ (show 8 + i ≠ 8 + c by omega)])]
  rw [bs_f (by show decide (upd cold (8 + c) x (8 + c) = 1) = false; rw [upd_s]; exact decide_eq_false hx)]
theorem tw_rh_1 {h : Nat} {fp pi sa pinched says stands : Nat → Int32} (rh : tw_RH h fp pi sa pinched says stands) {x : Int32} {v q : Nat} (hv : v < 256) (hq : q < 9) {z : Int32} (hz : z = if q = 8 then (-1 : Int32) else nI q) : tw_RH (h + 1) (upd fp h x) (upd pi h (nI v)) (upd sa h z) (upd pinched (9 + h) (nI v)) (upd says (9 + h) (nI q)) (upd stands (9 + h) x) := by
  intro k hk
  by_cases e : k = h
  · subst e
    rw [upd_s, upd_s, upd_s, upd_s, upd_s, upd_s]
    exact ⟨rfl, rfl, ⟨v, hv, rfl⟩, q, hq, rfl, hz⟩
  · rw [upd_n _ _ e, upd_n _ _ e, upd_n _ _ e, upd_n _ _ (show 9 + k ≠ 9 + h by omega), upd_n _ _ (show 9 + k ≠ 9 + h by omega), upd_n _ _ (show 9 + k ≠ 9 + h by omega)]
    exact rh k (by omega)
theorem tw_ac_1 {c : Nat} (hc : c < 8) (fc x : Int32) (beers : Nat → Int32) : f_X7_addCorner (nI c) fc beers x 1 = some (nI (c + 1), fc ||| ((1 : Int32) <<< (nI c &&& 31)), upd beers c x) := by
  unfold f_X7_addCorner f_X10_withBit
  rw [put_in hc (by decide), Option.bind_some, if_neg one_ne, Option.bind_some, onm, nI_1]
theorem tw_ac_0 {c : Nat} (hc : c < 8) (fc x : Int32) (beers : Nat → Int32) : f_X7_addCorner (nI c) fc beers x 0 = some (nI (c + 1), fc &&& (((1 : Int32) <<< (nI c &&& 31)) ^^^ (-1 : Int32)), upd beers c x) := by
  unfold f_X7_addCorner f_X10_withBit
  rw [put_in hc (by decide), Option.bind_some, if_pos rfl, Option.bind_some, onm, nI_1]
theorem tw_ah {h : Nat} (hh : h < 9) (fp pi sa : Nat → Int32) (x y : Int32) {q : Nat} (hq : q < 9) : f_X7_addHearer (nI h) fp pi sa x y (nI q) = some (nI (h + 1), upd fp h x, upd pi h y, upd sa h (if q = 8 then (-1 : Int32) else nI q)) := by
  unfold f_X7_addHearer
  rw [put_in hh (by decide), Option.bind_some, put_in hh (by decide), Option.bind_some]
  unfold f_X7_addHearer_43
  by_cases e : q = 8
  · subst e
    rw [if_pos (show nI 8 = (8 : Int32) from rfl), put_in hh (by decide), Option.bind_some, onm, nI_1, if_pos rfl]
  · rw [if_neg (show ¬ nI q = (8 : Int32) from fun z => e ((nI_eq (b := 8) (by omega) (by decide)).mp z)), put_in hh (by decide), Option.bind_some, onm, nI_1, if_neg e]
theorem tw_le_of {v m : Nat} (hv : v < 1000) (hm : m < 1000) (h : ¬ nI m < nI v) : v ≤ m := by
  rw [nI_ltI (by omega) (by omega)] at h
  omega
/-! the three clauses -/
section CLS
variable {n a a0 : Nat} {items text : Nat → Int32}
theorem tw_cl_all (H : tw_RTx n items text) (ha : a ≤ n) (h0 : a0 ≤ a) (A fi wh : Int32) : ∃ hC FC AC cl nA atR fi' FR AR, f_X4_readClauses (nI a) 0 A (nI n) items 0 = some (hC, FC, AC, cl) ∧ f_X11_takeClauses 0 (nI n) (nI a) fi 0 A text wh = some (nA, atR, fi', FR, AR) ∧ tw_OutT n a0 text hC FC AC atR FR AR ∧ (FC = 0 → ∃ u, u < 256 ∧ cl = nI u ∧ nA = nI u) := by
  unfold f_X4_readClauses f_X11_takeClauses f_X11_takeClauses_13
  rw [if_pos rfl, tw_wt1, Option.bind_some]
  dsimp only
  rw [if_neg one_ne]
  rcases tw_num H ha A 1 255 fi with ⟨v, b, ffi, v1, v2, v3, v4, v5, e1, e2⟩ | ⟨F, P, v, b, v', at', ffi, f1, f2, f3, e1, e2⟩
  · rw [e1, e2, Option.bind_some, Option.bind_some]
    dsimp only
    obtain ⟨hC, FC, AC, g1, g2⟩ := tw_out0 (a0 := a0) H v5 (by omega) A
    rw [g1, Option.bind_some]
    dsimp only
    by_cases z : FC = 0
    · rw [if_pos z]
      exact ⟨_, _, _, _, _, _, _, _, _, rfl, rfl, g2, fun _ => ⟨v, Nat.lt_succ_of_le (tw_le_of (m := 255) v1 (by decide) v3), rfl, rfl⟩⟩
    · rw [if_neg z]
      exact ⟨_, _, _, _, _, _, _, _, _, rfl, rfl, g2, fun q => absurd q z⟩
  · rw [e1, e2, Option.bind_some, Option.bind_some]
    dsimp only
    obtain ⟨hC, g1, g2⟩ := tw_outF (text := text) H f3 f1 f2 P a0 at'
    rw [g1, Option.bind_some]
    dsimp only
    rw [if_neg f1]
    exact ⟨_, _, _, _, _, _, _, _, _, rfl, rfl, g2, fun q => absurd q f1⟩
theorem tw_cl_cor (H : tw_RTx n items text) (ha : a ≤ n) (h0 : a0 ≤ a) (A fi wh : Int32) {c : Nat} (hc : c < 8) {fc : Int32} {beers beer cold : Nat → Int32} (rc : tw_RC c beers fc beer cold) : ∃ hC FC AC co fc' beers' nC atR fi' FR AR beer' cold', f_X4_readCorner (nI a) 0 A (nI n) items (nI c) fc beers = some (hC, FC, AC, co, fc', beers') ∧ f_X11_takeCorner (nI c) (nI n) (nI a) fi 0 A beer cold text wh = some (nC, atR, fi', FR, AR, beer', cold') ∧ tw_OutT n a0 text hC FC AC atR FR AR ∧ (FC = 0 → co = nI (c + 1) ∧ nC = nI (c + 1) ∧ tw_RC (c + 1) beers' fc' beer' cold') ∧ ∀ k, k < 8 → beer' k = beer k := by
  have st : ∀ (f : Nat → Int32) (x : Int32), o_st f 16 ((8 : Int32) + nI c) x = some (upd f (8 + c) x) := fun f x => st_at (nI_add 8 c) (by omega) (by decide)
  have lo : ∀ x : Int32, ∀ k, k < 8 → upd beer (8 + c) x k = beer k := fun x k hk => upd_n _ _ (by omega)
  unfold f_X4_readCorner f_X11_takeCorner f_X11_takeCorner_15
  rw [if_neg (show ¬ (8 : Int32) ≤ nI c from nI_ge (b := 8) hc (by decide)), tw_wt1, Option.bind_some]
  dsimp only
  rw [if_neg one_ne]
  rcases tw_num H ha A 0 99 fi with ⟨v, b, ffi, v1, v2, v3, v4, v5, e1, e2⟩ | ⟨F, P, v, b, v', at', ffi, f1, f2, f3, e1, e2⟩
  · rw [e1, e2, Option.bind_some, Option.bind_some]
    dsimp only
    rcases tw_num H v5 A 0 1 ffi with ⟨w, b2, ffi2, w1, w2, w3, w4, w5, e3, e4⟩ | ⟨F, P, w, b2, w', at', ffi2, f1, f2, f3, e3, e4⟩
    · rw [e3, e4, st]
      simp only [Option.bind_some]
      rw [st, Option.bind_some, onm, nI_1]
      obtain ⟨hC, FC, AC, g1, g2⟩ := tw_out0 (a0 := a0) H w5 (by omega) A
      rw [g1, Option.bind_some]
      dsimp only
      by_cases z : FC = 0
      · rw [if_pos z]
        unfold f_X4_readCorner_38
        rw [tw_ac_1 hc, tw_ac_0 hc, Option.bind_some, Option.bind_some]
        by_cases y : nI w = 1
        · rw [if_pos y, y]
          exact ⟨_, _, _, _, _, _, _, _, _, _, _, _, _, rfl, rfl, g2, fun _ => ⟨rfl, rfl, tw_rc_1 hc rc (Nat.lt_succ_of_le (tw_le_of (m := 99) v1 (by decide) v3))⟩, lo _⟩
        · rw [if_neg y]
          exact ⟨_, _, _, _, _, _, _, _, _, _, _, _, _, rfl, rfl, g2, fun _ => ⟨rfl, rfl, tw_rc_0 hc rc (Nat.lt_succ_of_le (tw_le_of (m := 99) v1 (by decide) v3)) y⟩, lo _⟩
      · rw [if_neg z]
        exact ⟨_, _, _, _, _, _, _, _, _, _, _, _, _, rfl, rfl, g2, fun q => absurd q z, lo _⟩
    · rw [e3, e4, st]
      simp only [Option.bind_some]
      rw [st, Option.bind_some, onm, nI_1]
      obtain ⟨hC, g1, g2⟩ := tw_outF (text := text) H f3 f1 f2 P a0 at'
      rw [g1, Option.bind_some]
      dsimp only
      rw [if_neg f1]
      exact ⟨_, _, _, _, _, _, _, _, _, _, _, _, _, rfl, rfl, g2, fun q => absurd q f1, lo _⟩
  · rw [e1, e2, Option.bind_some, Option.bind_some]
    dsimp only
    obtain ⟨w, b2, w1, e3⟩ := tw_numF H f3 f1 P 0 1
    rw [e3, tw_tkF f2 f1, st]
    simp only [Option.bind_some]
    rw [st, Option.bind_some, onm, nI_1]
    obtain ⟨hC, g1, g2⟩ := tw_outF (text := text) H w1 f1 f2 P a0 at'
    rw [g1, Option.bind_some]
    dsimp only
    rw [if_neg f1]
    exact ⟨_, _, _, _, _, _, _, _, _, _, _, _, _, rfl, rfl, g2, fun q => absurd q f1, lo _⟩
theorem tw_cl_hea (H : tw_RTx n items text) (ha : a ≤ n) (h0 : a0 ≤ a) (A fi wh co : Int32) {h : Nat} (hh : h < 9) {fp pi sa pinched says stands : Nat → Int32} (rh : tw_RH h fp pi sa pinched says stands) : ∃ hC FC AC he fp' pi' sa' nH atR fi' FR AR pinched' says' stands', f_X4_readHearer (nI a) 0 A (nI n) items co (nI h) fp pi sa = some (hC, FC, AC, he, fp', pi', sa') ∧ f_X11_takeHearer co (nI h) (nI n) (nI a) fi 0 A pinched says stands text wh = some (nH, atR, fi', FR, AR, pinched', says', stands') ∧ tw_OutT n a0 text hC FC AC atR FR AR ∧ (FC = 0 → he = nI (h + 1) ∧ nH = nI (h + 1) ∧ tw_RH (h + 1) fp' pi' sa' pinched' says' stands') ∧ (∀ k, k < 9 → pinched' k = pinched k ∧ says' k = says k) := by
  have st : ∀ (f : Nat → Int32) (x : Int32), o_st f 18 ((9 : Int32) + nI h) x = some (upd f (9 + h) x) := fun f x => st_at (nI_add 9 h) (by omega) (by decide)
  have lo : ∀ x y : Int32, ∀ k, k < 9 → upd pinched (9 + h) x k = pinched k ∧ upd says (9 + h) y k = says k := fun x y k hk => ⟨upd_n _ _ (by omega), upd_n _ _ (by omega)⟩
  unfold f_X4_readHearer f_X11_takeHearer f_X11_takeHearer_15
  rw [if_neg (show ¬ (9 : Int32) ≤ nI h from nI_ge (b := 9) hh (by decide)), tw_wt1, Option.bind_some]
  dsimp only
  rw [if_neg one_ne]
  rcases tw_num H ha A 0 (co - 1) fi with ⟨v, b, ffi, v1, v2, v3, v4, v5, e1, e2⟩ | ⟨F, P, v, b, v', at', ffi, f1, f2, f3, e1, e2⟩
  · rw [e1, e2, Option.bind_some, Option.bind_some]
    dsimp only
    rcases tw_num H v5 A 0 255 ffi with ⟨w, b2, ffi2, w1, w2, w3, w4, w5, e3, e4⟩ | ⟨F, P, w, b2, w', at', ffi2, f1, f2, f3, e3, e4⟩
    · rw [e3, e4, st]
      simp only [Option.bind_some]
      rcases tw_num H w5 A 0 8 ffi2 with ⟨q, b3, ffi3, q1, q2, q3, q4, q5, e5, e6⟩ | ⟨F, P, q, b3, q', at', ffi3, f1, f2, f3, e5, e6⟩
      · rw [e5, e6, st]
        simp only [Option.bind_some]
        rw [st, Option.bind_some, onm, nI_1]
        obtain ⟨hC, FC, AC, g1, g2⟩ := tw_out0 (a0 := a0) H q5 (by omega) A
        rw [g1, Option.bind_some]
        dsimp only
        have hq : q < 9 := Nat.lt_succ_of_le (tw_le_of (m := 8) q1 (by decide) q3)
        have hw : w < 256 := Nat.lt_succ_of_le (tw_le_of (m := 255) w1 (by decide) w3)
        by_cases z : FC = 0
        · rw [if_pos z, tw_ah hh _ _ _ _ _ hq, Option.bind_some]
          exact ⟨_, _, _, _, _, _, _, _, _, _, _, _, _, _, _, rfl, rfl, g2, fun _ => ⟨rfl, rfl, tw_rh_1 rh hw hq rfl⟩, lo _ _⟩
        · rw [if_neg z]
          exact ⟨_, _, _, _, _, _, _, _, _, _, _, _, _, _, _, rfl, rfl, g2, fun q => absurd q z, lo _ _⟩
      · rw [e5, e6, st]
        simp only [Option.bind_some]
        rw [st, Option.bind_some, onm, nI_1]
        obtain ⟨hC, g1, g2⟩ := tw_outF (text := text) H f3 f1 f2 P a0 at'
        rw [g1, Option.bind_some]
        dsimp only
        rw [if_neg f1]
        exact ⟨_, _, _, _, _, _, _, _, _, _, _, _, _, _, _, rfl, rfl, g2, fun q => absurd q f1, lo _ _⟩
    · rw [e3, e4, st]
      simp only [Option.bind_some]
      obtain ⟨q, b3, q1, e5⟩ := tw_numF H f3 f1 P 0 8
      rw [e5, tw_tkF f2 f1, st]
      simp only [Option.bind_some]
      rw [st, Option.bind_some, onm, nI_1]
      obtain ⟨hC, g1, g2⟩ := tw_outF (text := text) H q1 f1 f2 P a0 at'
      rw [g1, Option.bind_some]
      dsimp only
      rw [if_neg f1]
      exact ⟨_, _, _, _, _, _, _, _, _, _, _, _, _, _, _, rfl, rfl, g2, fun q => absurd q f1, lo _ _⟩
  · rw [e1, e2, Option.bind_some, Option.bind_some]
    dsimp only
    obtain ⟨w, b2, w1, e3⟩ := tw_numF H f3 f1 P 0 255
    rw [e3, tw_tkF f2 f1, st]
    simp only [Option.bind_some]
    obtain ⟨q, b3, q1, e5⟩ := tw_numF H w1 f1 P 0 8
    rw [e5, tw_tkF f2 f1, st]
    simp only [Option.bind_some]
    rw [st, Option.bind_some, onm, nI_1]
    obtain ⟨hC, g1, g2⟩ := tw_outF (text := text) H q1 f1 f2 P a0 at'
    rw [g1, Option.bind_some]
    dsimp only
    rw [if_neg f1]
    exact ⟨_, _, _, _, _, _, _, _, _, _, _, _, _, _, _, rfl, rfl, g2, fun q => absurd q f1, lo _ _⟩
end CLS
