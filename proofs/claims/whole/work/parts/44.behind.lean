/-! who is behind it -/
section BEH
variable {u c h x n0 : Nat} {keptIn colds y : Int32} {places pinches sayings pinched says dd co vo sd sa ss : Nat → Int32}
/-- what was seen, alike here and there -/
def SN (n0 : Nat) (dd co vo sd sa ss : Nat → Int32) : Prop := ∀ j, j < n0 → dd j = sd j ∧ co j = sa j ∧ vo j = ss j ∧ (∃ a, a < 256 ∧ sd j = nI a) ∧ ∃ k, k < 8 ∧ sa j = nI k
theorem expl_loop (hu : u < 256) (hh : h ≤ 9) (hT : TR h pinches sayings pinched says) (hn : n0 ≤ 6) (hS : SN n0 dd co vo sd sa ss) {v : Nat} {w : Nat → Int32} (hW : RW h 17 x (keptIn ||| nI v) colds places w) : ∀ (k i : Nat) (cs cl cd ch csp cho : Int32), i ≤ n0 → n0 + 1 < k + i → ∃ (b a1 a2 a3 a4 a5 a6 : Int32), (b = 0 ∨ b = 1) ∧ f_X9_explainsAll_2 (nI n0) (nI n0) (nI u) (nI h) (nI n0) co (nI x) keptIn colds dd pinches sayings vo places k cs cl cd ch csp cho (nI v) (nI i) = some (b, a1, a2, a3, a4, a5, a6) ∧ f_X11_isAsSeen_22 (nI h) (nI n0) pinched sa sd ss k w 1 (nI i) = some (b, w) := by
  intro k
  induction k with
  | zero => intro i cs cl cd ch csp cho h1 h2; omega
  | succ k ih =>
    intro i cs cl cd ch csp cho hi hk
    rw [f_X9_explainsAll_2, f_X11_isAsSeen_22]
    by_cases hlt : i < n0
    · obtain ⟨s1, s2, s3, ⟨a, ha, s4⟩, kk, hkk, s5⟩ := hS i hlt
      obtain ⟨sp, rr, dA, hA, xA, q1, q2, q3, q4⟩ := read2 (o := 17) (u := u) hu hh (by decide) hT ha hkk hW
      have q3 : f_X11_speakers (nI h) pinched w (17 : Int32) (nI kk) (nI a) 0 = some (nI sp) := q3
      rw [if_neg (nI_ge hlt (by omega)), if_neg (nI_ge hlt (by omega)), if_neg one_ne, get_ok hlt hn (by decide), get_ok hlt hn (by decide), get_ok hlt hn (by decide), ld_in (show i < 6 by omega) (by decide), ld_in (show i < 6 by omega) (by decide), ld_in (show i < 6 by omega) (by decide), Option.bind_some, Option.bind_some, Option.bind_some, s1, s2, s3, s4, s5, q3, Option.bind_some, (pc_all sp q1).2.1, Option.bind_some, Option.bind_some]
      unfold f_X0_start
      rw [onm, Option.bind_some, Option.bind_some]
      simp only []
      rw [q2, Option.bind_some, Option.bind_some]
      by_cases ce : nI (pc sp) = ss i
      · rw [if_pos ce, if_pos ce, onm, onm, nI_1]
        exact ih (i + 1) _ _ _ _ _ _ (by omega) (by omega)
      · rw [if_neg ce, if_neg ce, onm]
        obtain ⟨k', rfl⟩ : ∃ k', k = k' + 1 := ⟨k - 1, by omega⟩
        rw [f_X11_isAsSeen_22, show o_zb (0 : Int32) = some () from rfl, Option.bind_some, if_pos rfl]
        refine ⟨0, _, _, _, _, _, _, Or.inl rfl, rfl, ?_⟩
        by_cases z : nI n0 ≤ nI i + 1
        · rw [if_pos z]
        · rw [if_neg z]
    · rw [if_pos (nI_le (by omega) (by omega)), if_pos (nI_le (by omega) (by omega)), show o_zb (1 : Int32) = some () from rfl, Option.bind_some]
      exact ⟨1, _, _, _, _, _, _, Or.inr rfl, rfl, rfl⟩
/-- the set v explains all that was seen -/
def ex (u h x n0 : Nat) (keptIn colds : Int32) (places pinches sayings dd co vo : Nat → Int32) (v : Nat) : Bool :=
  match f_X9_explainsAll (nI n0) 0 0 0 0 0 0 (nI n0) (nI u) (nI h) (nI n0) co (nI x) keptIn colds dd pinches sayings vo places (nI v) with
  | some q => decide (¬ q.1 = 0)
  | none => false
theorem ex_both (hu : u < 256) (hh : h ≤ 9) (hT : TR h pinches sayings pinched says) (hn : n0 ≤ 6) (hS : SN n0 dd co vo sd sa ss) {v : Nat} {w : Nat → Int32} (hW : RW h 0 x keptIn colds places w) (cs cl cd ch csp cho : Int32) : ∃ (a1 a2 a3 a4 a5 a6 : Int32) (w' : Nat → Int32), wok w w' ∧ f_X9_explainsAll (nI n0) cs cl cd ch csp cho (nI n0) (nI u) (nI h) (nI n0) co (nI x) keptIn colds dd pinches sayings vo places (nI v) = some (if ex u h x n0 keptIn colds places pinches sayings dd co vo v = true then 1 else 0, a1, a2, a3, a4, a5, a6) ∧ f_X11_isAsSeen (nI h) (nI n0) pinched sa sd ss w (nI v) = some (if ex u h x n0 keptIn colds places pinches sayings dd co vo v = true then 1 else 0, w') := by
  obtain ⟨w1, w2, w3, w4⟩ := hW
  have e27 : cp w 0 17 27 = keptIn := by
    have := cp_in w (a := 0) (b := 17) (i := 10) (by omega)
    rw [show 17 + 10 = 27 from rfl] at this
    rw [this]; exact w2
  have hW' : RW h 17 x (keptIn ||| nI v) colds places (upd (cp w 0 17) 27 (keptIn ||| nI v)) := by
    refine ⟨fun j hj => ?_, upd_s _ _ _, ?_, ?_⟩
    · rw [upd_n _ _ (by omega), cp_in w (by omega)]; exact w1 j hj
    · rw [upd_n _ _ (by omega), cp_in w (by omega)]; exact w3
    · rw [upd_n _ _ (by omega), cp_in w (by omega)]; exact w4
  obtain ⟨b, a1, a2, a3, a4, a5, a6, hb, e1, e2⟩ := expl_loop hu hh hT hn hS hW' 1000 0 cs cl cd ch csp cho (by omega) (by omega)
  obtain ⟨b0, c1, c2, c3, c4, c5, c6, hb0, f1, f2⟩ := expl_loop hu hh hT hn hS hW' 1000 0 0 0 0 0 0 0 (by omega) (by omega)
  have hbb : b = b0 := by
    rw [e2] at f2
    injection f2 with f2
    exact congrArg Prod.fst f2
  have f1 : f_X9_explainsAll (nI n0) 0 0 0 0 0 0 (nI n0) (nI u) (nI h) (nI n0) co (nI x) keptIn colds dd pinches sayings vo places (nI v) = some (b0, c1, c2, c3, c4, c5, c6) := f1
  have e1 : f_X9_explainsAll (nI n0) cs cl cd ch csp cho (nI n0) (nI u) (nI h) (nI n0) co (nI x) keptIn colds dd pinches sayings vo places (nI v) = some (b, a1, a2, a3, a4, a5, a6) := e1
  have e2 : f_X11_isAsSeen_22 (nI h) (nI n0) pinched sa sd ss 1000 (upd (cp w 0 17) 27 (keptIn ||| nI v)) (1 : Int32) (0 : Int32) = some (b, upd (cp w 0 17) 27 (keptIn ||| nI v)) := e2
  have hE : (if ex u h x n0 keptIn colds places pinches sayings dd co vo v = true then (1 : Int32) else 0) = b := by
    unfold ex
    rw [f1, hbb]
    rcases hb0 with rfl | rfl
    · rfl
    · rfl
  rw [hE]
  refine ⟨a1, a2, a3, a4, a5, a6, upd (cp w 0 17) 27 (keptIn ||| nI v), fun j hj => ?_, e1, ?_⟩
  · rw [upd_n _ _ (by omega), cp_out w (by omega)]
  · unfold f_X11_isAsSeen
    have C : f_X11_copy w (0 : Int32) (17 : Int32) = some (cp w 0 17) := copy_eq (a := 0) (b := 17) (by decide) (by decide) (Or.inl (by decide))
    rw [C, Option.bind_some, show (27 : Int32) = nI 27 from rfl, ld_in (show 27 < 578 by decide) (by decide), Option.bind_some, st_in (show 27 < 578 by decide) (by decide), Option.bind_some, e27]
    exact e2
/-- the sets gathered -/
def gl (e : Nat → Bool) : List Nat → Nat × (Nat → Int32) → Nat × (Nat → Int32)
  | [], q => q
  | v :: l, q => if e v = true then gl e l (q.1 + 1, upd q.2 q.1 (nI v)) else gl e l q
theorem gl_t {e : Nat → Bool} {v : Nat} {l : List Nat} {q : Nat × (Nat → Int32)} (h : e v = true) : gl e (v :: l) q = gl e l (q.1 + 1, upd q.2 q.1 (nI v)) := by
  show (if e v = true then _ else _) = _
  rw [if_pos h]
theorem gl_f {e : Nat → Bool} {v : Nat} {l : List Nat} {q : Nat × (Nat → Int32)} (h : ¬ e v = true) : gl e (v :: l) q = gl e l q := by
  show (if e v = true then _ else _) = _
  rw [if_neg h]
def ek (u h x n0 : Nat) (keptIn colds : Int32) (places pinches sayings dd co vo : Nat → Int32) (v : Nat) : Bool := decide ((nI v &&& keptIn) = 0) && ex u h x n0 keptIn colds places pinches sayings dd co vo v
theorem gat_x (hu : u < 256) (hh : h ≤ 9) (hT : TR h pinches sayings pinched says) (hn : n0 ≤ 6) (hS : SN n0 dd co vo sd sa ss) {w : Nat → Int32} (hW : RW h 0 x keptIn colds places w) : ∀ (k j n : Nat) (items : Nat → Int32) (cs cl cd ch csp cho : Int32), j ≤ 46 → 46 < k + j → n ≤ j → ∃ a1 a2 a3 a4 a5 a6, f_X9_gatherSuspects_9 (nI n0) (nI n0) (nI u) (nI h) (nI n0) co (nI x) keptIn colds dd pinches sayings vo places k cs cl cd ch csp cho (nI n) items (nI j) = some (a1, a2, a3, a4, a5, a6, nI (gl (ek u h x n0 keptIn colds places pinches sayings dd co vo) (FL h j) (n, items)).1, (gl (ek u h x n0 keptIn colds places pinches sayings dd co vo) (FL h j) (n, items)).2) ∧ (gl (ek u h x n0 keptIn colds places pinches sayings dd co vo) (FL h j) (n, items)).1 ≤ 46 := by
  intro k
  induction k with
  | zero => intro j n items cs cl cd ch csp cho h1 h2; omega
  | succ k ih =>
    intro j n items cs cl cd ch csp cho hj hk hnj
    rw [f_X9_gatherSuspects_9]
    by_cases hlt : j < 46
    · obtain ⟨e1, e2, e3⟩ := few_at j hlt
      rw [FL_step hlt, if_neg (show ¬ (46 : Int32) ≤ nI j from nI_ge (b := 46) hlt (by decide)), ld_in hlt (by decide), Option.bind_some, e1]
      generalize FEWN[j]?.getD 0 = v at e1 e2
      unfold f_X0_canKeepIn f_X10_firstOf
      rw [Option.bind_some, (full_1 h hh).2.1]
      by_cases c1 : v < 2 ^ h
      · rw [if_pos ((in_first h hh v e2).mpr c1), if_pos c1]
        by_cases c2 : (nI v &&& keptIn) = 0
        · obtain ⟨a1, a2, a3, a4, a5, a6, w', q1, q2, q3⟩ := ex_both (v := v) hu hh hT hn hS hW cs cl cd ch csp cho
          rw [if_pos c2, Option.bind_some, if_neg one_ne, Option.bind_some, q2, Option.bind_some]
          by_cases ce : ex u h x n0 keptIn colds places pinches sayings dd co vo v = true
          · have K : ek u h x n0 keptIn colds places pinches sayings dd co vo v = true := by unfold ek; rw [ce, decide_eq_true c2]; rfl
            rw [if_pos ce, if_neg one_ne, Option.bind_some, add_ok (show n < 46 by omega) (by decide), Option.bind_some, onm, nI_1, gl_t K]
            exact ih (j + 1) (n + 1) (upd items n (nI v)) _ _ _ _ _ _ (by omega) (by omega) (by omega)
          · have K : ¬ ek u h x n0 keptIn colds places pinches sayings dd co vo v = true := by unfold ek; simp [ce]
            rw [if_neg ce, if_pos rfl, onm, nI_1, gl_f K]
            exact ih (j + 1) n items _ _ _ _ _ _ (by omega) (by omega) (by omega)
        · have K : ¬ ek u h x n0 keptIn colds places pinches sayings dd co vo v = true := by unfold ek; simp [c2]
          rw [if_neg c2, Option.bind_some, if_pos rfl, onm, nI_1, gl_f K]
          exact ih (j + 1) n items _ _ _ _ _ _ (by omega) (by omega) (by omega)
      · rw [if_neg (fun z => c1 ((in_first h hh v e2).mp z)), if_neg c1, Option.bind_some, if_pos rfl, onm, nI_1]
        exact ih (j + 1) n items _ _ _ _ _ _ (by omega) (by omega) (by omega)
    · have e : j = 46 := by omega
      subst e
      rw [if_pos (show (46 : Int32) ≤ nI 46 from nI_le (a := 46) (Nat.le_refl 46) (by decide))]
      exact ⟨_, _, _, _, _, _, rfl, hnj⟩
/-! the hearers in the sets gathered, counted -/
def cb (items : Nat → Int32) (j : Nat) : Nat → Nat
  | 0 => 0
  | n + 1 => cb items j n + if bt (items n) j then 1 else 0
theorem cb_le (items : Nat → Int32) (j : Nat) : ∀ n, cb items j n ≤ n
  | 0 => Nat.le_refl 0
  | n + 1 => by
    have := cb_le items j n
    unfold cb
    split <;> omega
theorem cb_cong {a b : Nat → Int32} {j : Nat} : ∀ n, (∀ i, i < n → a i = b i) → cb a j n = cb b j n
  | 0, _ => rfl
  | n + 1, h => by
    unfold cb
    rw [cb_cong n (fun i hi => h i (by omega)), h n (by omega)]
theorem cw_loop {items : Nat → Int32} {n j : Nat} (hn : n ≤ 46) (hj : j < 9) : ∀ (k i : Nat), i ≤ n → n < k + i → f_X9_countWith_4 (nI n) items k (nI j) (nI (cb items j i)) (nI i) = some (nI (cb items j n)) := by
  intro k
  induction k with
  | zero => intro i h1 h2; omega
  | succ k ih =>
    intro i hi hk
    rw [f_X9_countWith_4]
    by_cases hlt : i < n
    · rw [if_neg (nI_ge hlt (by omega)), get_ok hlt hn (by decide), Option.bind_some]
      have e : f_X10_bit (items i) (nI j) = some (nI (if bt (items i) j then 1 else 0)) := by
        cases hb : bt (items i) j with
        | true => rw [bitF_t hb (by omega)]; rfl
        | false => rw [bitF_f hb (by omega)]; rfl
      rw [e, Option.bind_some, onm, onm, nI_add, nI_1]
      exact ih (i + 1) (by omega) (by omega)
    · have e : i = n := by omega
      subst e
      rw [if_pos (nI_le (Nat.le_refl i) (by omega))]
/-- the rows of counts -/
def IR (I items : Nat → Int32) (n : Nat) : Prop := ∀ j, j < 9 → I j = nI (cb items j n)
theorem look_loop {I items : Nat → Int32} {n : Nat} (hh : h ≤ 9) (hn : n ≤ 46) (hI : IR I items n) : ∀ (k i : Nat) (best mx : Int32), i ≤ h → h < k + i → ∃ r, f_X9_bestParting_12 (nI h) (nI n) items k best mx (nI i) = some r ∧ f_X11_look_7 (nI h) I k (nI n) best mx (nI i) = some r := by
  intro k
  induction k with
  | zero => intro i best mx h1 h2; omega
  | succ k ih =>
    intro i best mx hi hk
    rw [f_X9_bestParting_12, f_X11_look_7]
    by_cases hlt : i < h
    · have hc := cb_le items i n
      have cw : f_X9_countWith (nI n) items (nI i) = some (nI (cb items i n)) := cw_loop hn (by omega) 1000 0 (by omega) (by omega)
      rw [if_neg (nI_ge hlt (by omega)), if_neg (nI_ge hlt (by omega)), cw, Option.bind_some, ld_in (show i < 9 by omega) (by decide), Option.bind_some, Option.bind_some, hI i (by omega), nsub hc, onm]
      have fin : ∀ m : Int32, ∃ r, (if mx ≤ m then o_nm (nI i + 1) fun v5 => f_X9_bestParting_12 (nI h) (nI n) items k best mx v5 else o_nm (nI i + 1) fun v6 => f_X9_bestParting_12 (nI h) (nI n) items k (nI i) m v6) = some r ∧ f_X11_look_54 (nI h) I (f_X11_look_7 (nI h) I k) (nI n) best mx (nI i) m = some r := by
        intro m
        unfold f_X11_look_54 f_X11_look_68
        by_cases c : mx ≤ m
        · rw [if_pos c, if_pos c, if_pos c, onm, onm, nI_1]
          exact ih (i + 1) _ _ (by omega) (by omega)
        · rw [if_neg c, if_neg c, if_neg c, onm, onm, nI_1]
          exact ih (i + 1) _ _ (by omega) (by omega)
      by_cases c1 : cb items i n < n - cb items i n
      · rw [if_pos (nI_lt c1 (by omega)), if_pos (nI_le (by omega) (by omega)), Option.bind_some, nsub hc]
        exact fin _
      · rw [if_neg (nI_nlt (by omega) (by omega))]
        by_cases c2 : cb items i n = n - cb items i n
        · rw [if_pos (nI_le (by omega) (by omega)), Option.bind_some, nsub hc, ← c2]
          exact fin _
        · rw [if_neg (nI_ge (by omega) (by omega)), Option.bind_some]
          exact fin _
    · rw [if_pos (nI_le (by omega) (by omega)), if_pos (nI_le (by omega) (by omega))]
      exact ⟨_, rfl, rfl⟩
theorem add_loop {items : Nat → Int32} {n v : Nat} (he : items n = nI v) : ∀ (k i : Nat) (I : Nat → Int32), i ≤ 9 → 9 < k + i → (∀ j, j < 9 → I j = if j < i then nI (cb items j (n + 1)) else nI (cb items j n)) → ∃ I', f_X11_addTo_2 k I (nI v) (nI i) = some I' ∧ IR I' items (n + 1) := by
  intro k
  induction k with
  | zero => intro i I h1 h2; omega
  | succ k ih =>
    intro i I hi hk hI
    rw [f_X11_addTo_2]
    by_cases hlt : i < 9
    · have e : (nI v >>> (nI i &&& 31)) &&& (1 : Int32) = nI (if bt (items n) i then 1 else 0) := by
        rw [he]
        cases hb : bt (nI v) i with
        | true => rw [bit_t hb (by omega)]; rfl
        | false => rw [bit_f hb (by omega)]; rfl
      have h0 := hI i hlt
      rw [if_neg (Nat.lt_irrefl i)] at h0
      rw [if_neg (show ¬ (9 : Int32) ≤ nI i from nI_ge (b := 9) hlt (by decide)), ld_in hlt (by decide), Option.bind_some, st_in hlt (by decide), Option.bind_some, e, h0, nI_add, onm, nI_1]
      refine ih (i + 1) _ (by omega) (by omega) fun j hj => ?_
      by_cases ej : j = i
      · subst ej
        rw [upd_s, if_pos (show j < j + 1 by omega)]
        rfl
      · rw [upd_n _ _ ej, hI j hj]
        by_cases l : j < i
        · rw [if_pos l, if_pos (by omega)]
        · rw [if_neg l, if_neg (by omega)]
    · have e : i = 9 := by omega
      subst e
      rw [if_pos (show (9 : Int32) ≤ nI 9 from nI_le (a := 9) (Nat.le_refl 9) (by decide))]
      exact ⟨I, rfl, fun j hj => by rw [hI j hj, if_pos hj]⟩
theorem add_to {I items : Nat → Int32} {n v : Nat} (hI : IR I items n) : ∃ I', f_X11_addTo I (nI v) = some I' ∧ IR I' (upd items n (nI v)) (n + 1) :=
  add_loop (upd_s _ _ _) 1000 0 I (by omega) (by omega) (fun j hj => by
    rw [if_neg (by omega), hI j hj, cb_cong n (fun i hi => (upd_n items (nI v) (show i ≠ n by omega)).symm)])
def AN (h : Nat) (y : Int32) (q : Nat × (Nat → Int32)) : Int32 := if y = (-1 : Int32) then nI q.1 else if y = (-2 : Int32) then (f_X9_bestParting (nI h) (nI q.1) q.2).getD 0 else pk y q.1 q.2
/-- the reference's gathering from a place on, told by a list -/
def PH (h x : Nat) (keptIn colds y : Int32) (places : Nat → Int32) (e : Nat → Bool) (f : (Nat → Int32) → (Nat → Int32) → Int32 → Int32 → Option (Int32 × (Nat → Int32) × (Nat → Int32))) (l : List Nat) (B : Nat) : Prop := ∀ (I w items : Nat → Int32) (n : Nat), n ≤ B → RW h 0 x keptIn colds places w → IR I items n → (gl e l (n, items)).1 ≤ 46 → ∃ (I' w' : Nat → Int32), wok w w' ∧ f I w (nI n) (pk y n items) = some (AN h y (gl e l (n, items)), I', w')
theorem b40 (hu : u < 256) (hh : h ≤ 9) (hT : TR h pinches sayings pinched says) (hn0 : n0 ≤ 6) (hS : SN n0 dd co vo sd sa ss) {t : Nat} (ht : t < 3) {rest : List Nat} {k31 : (Nat → Int32) → (Nat → Int32) → Int32 → Int32 → Int32 → Int32 → Option (Int32 × (Nat → Int32) × (Nat → Int32))} (hK : PH h x keptIn colds y places (ek u h x n0 keptIn colds places pinches sayings dd co vo) (fun I w x2 x3 => k31 I w y x2 x3 (nI (t + 1))) rest (512 * (t + 1))) : ∀ (k m v : Nat), m + v = 2 ^ h → 2 ^ h < k + v → PH h x keptIn colds y places (ek u h x n0 keptIn colds places pinches sayings dd co vo) (fun I w x2 x3 => f_X11_behind_40 (nI h) (nI n0) pinched sa sd ss k31 k I w y x2 x3 (nI t) (nI v)) (SL h t m v ++ rest) (512 * t + v) := by
  obtain ⟨f1, f2, f3, f4⟩ := full_1 h hh
  intro k
  induction k with
  | zero => intro m v h1 h2; omega
  | succ k ih =>
    intro m v hm hk I w items n hnB hW hI hle
    show ∃ I' w', wok w w' ∧ f_X11_behind_40 (nI h) (nI n0) pinched sa sd ss k31 (k + 1) I w y (nI n) (pk y n items) (nI t) (nI v) = _
    rw [f_X11_behind_40, f1]
    by_cases hlt : v < 2 ^ h
    · obtain ⟨m', rfl⟩ : ∃ m', m = m' + 1 := ⟨m - 1, by omega⟩
      rw [if_neg (nI_ge hlt (by omega)), may1 (show v < 512 by omega) ht hW, Option.bind_some]
      have N := ih m' (v + 1) (by omega) (by omega)
      unfold SL at hle ⊢
      by_cases hp : pc v = t
      · rw [if_pos hp, List.cons_append] at hle ⊢
        by_cases hkp : (nI v &&& keptIn) = 0
        · obtain ⟨a1, a2, a3, a4, a5, a6, w', q1, q2, q3⟩ := ex_both (v := v) hu hh hT hn0 hS hW 0 0 0 0 0 0
          rw [if_pos (show pc v = t ∧ (nI v &&& keptIn) = 0 from ⟨hp, hkp⟩), if_neg one_ne, q3, Option.bind_some]
          have hW' := rw_wok hh q1 hW
          by_cases ce : ex u h x n0 keptIn colds places pinches sayings dd co vo v = true
          · have K : ek u h x n0 keptIn colds places pinches sayings dd co vo v = true := by unfold ek; rw [ce, decide_eq_true hkp]; rfl
            rw [gl_t K] at hle ⊢
            obtain ⟨I2, i1, i2⟩ := add_to (v := v) hI
            obtain ⟨I3, w3, r1, r2⟩ := N I2 w' (upd items n (nI v)) (n + 1) (by omega) hW' i2 hle
            rw [pk_step _ _ (by omega)] at r2
            refine ⟨I3, w3, wok_tr q1 r1, ?_⟩
            rw [if_pos ce, if_neg one_ne]
            unfold f_X11_behind_82
            by_cases cy : nI n = y
            · rw [if_pos cy] at r2 ⊢
              rw [onm, i1, Option.bind_some, onm, nI_1, nI_1]
              exact r2
            · rw [if_neg cy] at r2 ⊢
              rw [onm, i1, Option.bind_some, onm, nI_1, nI_1]
              exact r2
          · have K : ¬ ek u h x n0 keptIn colds places pinches sayings dd co vo v = true := by unfold ek; simp [ce]
            rw [gl_f K] at hle ⊢
            rw [if_neg ce, if_pos rfl, onm, nI_1]
            obtain ⟨I3, w3, r1, r2⟩ := N I w' items n (by omega) hW' hI hle
            exact ⟨I3, w3, wok_tr q1 r1, r2⟩
        · have K : ¬ ek u h x n0 keptIn colds places pinches sayings dd co vo v = true := by unfold ek; simp [hkp]
          rw [gl_f K] at hle ⊢
          rw [if_neg (show ¬ (pc v = t ∧ (nI v &&& keptIn) = 0) from fun z => hkp z.2), if_pos rfl, onm, nI_1]
          exact N I w items n (by omega) hW hI hle
      · rw [if_neg hp] at hle ⊢
        rw [if_neg (show ¬ (pc v = t ∧ (nI v &&& keptIn) = 0) from fun z => hp z.1), if_pos rfl, onm, nI_1]
        exact N I w items n (by omega) hW hI hle
    · have e : m = 0 := by omega
      subst e
      rw [if_pos (nI_le (by omega) (by omega)), onm, nI_1]
      exact hK I w items n (by omega) hW hI hle
theorem b31 (hu : u < 256) (hh : h ≤ 9) (hT : TR h pinches sayings pinched says) (hn0 : n0 ≤ 6) (hS : SN n0 dd co vo sd sa ss) : PH h x keptIn colds y places (ek u h x n0 keptIn colds places pinches sayings dd co vo) (fun I w x2 x3 => f_X11_behind_31 (nI h) (nI n0) pinched sa sd ss 1000 I w y x2 x3 (0 : Int32)) (FL h 0) 0 := by
  obtain ⟨f1, f2, f3, f4⟩ := full_1 h hh
  have step : ∀ (n t : Nat) (rest : List Nat), t < 3 → PH h x keptIn colds y places (ek u h x n0 keptIn colds places pinches sayings dd co vo) (fun I w x2 x3 => f_X11_behind_31 (nI h) (nI n0) pinched sa sd ss n I w y x2 x3 (nI (t + 1))) rest (512 * (t + 1)) → PH h x keptIn colds y places (ek u h x n0 keptIn colds places pinches sayings dd co vo) (fun I w x2 x3 => f_X11_behind_31 (nI h) (nI n0) pinched sa sd ss (n + 1) I w y x2 x3 (nI t)) (SL h t (2 ^ h) 0 ++ rest) (512 * t) := by
    intro n t rest ht hK I w items n1 hnB hW hI hle
    show ∃ I' w', wok w w' ∧ f_X11_behind_31 (nI h) (nI n0) pinched sa sd ss (n + 1) I w y (nI n1) (pk y n1 items) (nI t) = _
    rw [f_X11_behind_31, if_neg (show ¬ (3 : Int32) ≤ nI t from nI_ge (b := 3) ht (by decide))]
    exact b40 hu hh hT hn0 hS ht hK 1000 (2 ^ h) 0 (by omega) (by omega) I w items n1 (by omega) hW hI hle
  have K3 : PH h x keptIn colds y places (ek u h x n0 keptIn colds places pinches sayings dd co vo) (fun I w x2 x3 => f_X11_behind_31 (nI h) (nI n0) pinched sa sd ss (996 + 1) I w y x2 x3 (nI 3)) [] (512 * 3) := by
    intro I w items n hnB hW hI hle
    have hle : n ≤ 46 := hle
    show ∃ I' w', wok w w' ∧ f_X11_behind_31 (nI h) (nI n0) pinched sa sd ss (996 + 1) I w y (nI n) (pk y n items) (nI 3) = some (AN h y (n, items), I', w')
    rw [f_X11_behind_31, if_pos (show (3 : Int32) ≤ nI 3 by decide)]
    unfold AN
    refine ⟨I, w, wok_rfl w, ?_⟩
    by_cases y1 : y = (-1 : Int32)
    · rw [if_pos y1, if_pos y1]
    · rw [if_neg y1, if_neg y1]
      by_cases y2 : y = (-2 : Int32)
      · rw [if_pos y2, if_pos y2]
        obtain ⟨r, l1, l2⟩ := look_loop hh hle hI 1000 0 (-1) (nI n) (by omega) (by omega)
        have l1 : f_X9_bestParting (nI h) (nI n) items = some r := l1
        have l2 : f_X11_look (nI h) I (nI n) = some r := l2
        rw [l2, Option.bind_some]
        show some (r, I, w) = some ((f_X9_bestParting (nI h) (nI n) items).getD 0, I, w)
        rw [l1]
        rfl
      · rw [if_neg y2, if_neg y2]
  have K := step _ 0 _ (by decide) (step _ 1 _ (by decide) (step _ 2 _ (by decide) K3))
  rw [← few_all h hh] at K
  exact K
theorem clr_loop {w : Nat → Int32} {x2 x3 : Int32} : ∀ (k i : Nat) (I : Nat → Int32), i ≤ 9 → 9 < k + i → (∀ j, j < i → I j = 0) → ∃ I', f_X11_behind_7 (nI h) (nI n0) pinched sa sd ss k I w y x2 x3 (nI i) = f_X11_behind_31 (nI h) (nI n0) pinched sa sd ss 1000 I' w y x2 x3 (0 : Int32) ∧ ∀ j, j < 9 → I' j = 0 := by
  intro k
  induction k with
  | zero => intro i I h1 h2; omega
  | succ k ih =>
    intro i I hi hk hI
    rw [f_X11_behind_7]
    by_cases hlt : i < 9
    · rw [if_neg (show ¬ (9 : Int32) ≤ nI i from nI_ge (b := 9) hlt (by decide)), st_in hlt (by decide), Option.bind_some, onm, nI_1]
      refine ih (i + 1) _ (by omega) (by omega) fun j hj => ?_
      by_cases e : j = i
      · subst e; rw [upd_s]
      · rw [upd_n _ _ e]; exact hI j (by omega)
    · have e : i = 9 := by omega
      subst e
      rw [if_pos (show (9 : Int32) ≤ nI 9 from nI_le (a := 9) (Nat.le_refl 9) (by decide))]
      exact ⟨I, rfl, hI⟩
theorem q_behind (hu : u < 256) (hh : h ≤ 9) (hT : TR h pinches sayings pinched says) (hn0 : n0 ≤ 6) (hS : SN n0 dd co vo sd sa ss) {cs cl cd ch csp cho sc : Int32} {si0 I w : Nat → Int32} (hW : RW h 0 x keptIn colds places w) (y : Int32) :
    ∃ (r a1 a2 a3 a4 a5 a6 sc' : Int32) (si' I' w' : Nat → Int32), f_X10_behind cs cl cd ch csp cho (nI x) keptIn colds (nI u) (nI h) places pinches sayings (nI n0) (nI n0) sc (nI n0) co dd si0 vo y = some (r, a1, a2, a3, a4, a5, a6, sc', si') ∧ f_X11_behind (nI h) (nI n0) I pinched sa sd ss w y = some (r, I', w') ∧ wok w w' := by
  obtain ⟨a1, a2, a3, a4, a5, a6, g1, g2⟩ := gat_x hu hh hT hn0 hS hW 1000 0 0 si0 cs cl cd ch csp cho (by omega) (by omega) (by omega)
  obtain ⟨I1, k1, k2⟩ := clr_loop (h := h) (n0 := n0) (pinched := pinched) (sa := sa) (sd := sd) (ss := ss) (y := y) (w := w) (x2 := 0) (x3 := -1) 1000 0 I (by omega) (by omega) (fun j hj => by omega)
  obtain ⟨I2, w2, m1, m2⟩ := b31 (y := y) hu hh hT hn0 hS I1 w si0 0 (by omega) hW (fun j hj => by rw [k2 j hj]; rfl) g2
  rw [pk_0] at m2
  have m2 : f_X11_behind_31 (nI h) (nI n0) pinched sa sd ss 1000 I1 w y (0 : Int32) (-1 : Int32) (0 : Int32) = _ := m2
  rw [show nI 0 = (0 : Int32) from rfl] at k1 g1
  unfold f_X10_behind f_X11_behind f_X9_gatherSuspects f_X5_clear
  rw [Option.bind_some, g1, Option.bind_some, k1, m2]
  unfold AN
  generalize gl (ek u h x n0 keptIn colds places pinches sayings dd co vo) (FL h 0) (0, si0) = q at g2
  by_cases y1 : y = (-1 : Int32)
  · rw [if_pos y1, if_pos y1]
    exact ⟨_, _, _, _, _, _, _, _, _, _, _, rfl, rfl, m1⟩
  · rw [if_neg y1, if_neg y1]
    by_cases y2 : y = (-2 : Int32)
    · rw [if_pos y2, if_pos y2]
      obtain ⟨r, l1, _⟩ := look_loop (I := fun j => nI (cb q.2 j q.1)) (items := q.2) hh g2 (fun j _ => rfl) 1000 0 (-1) (nI q.1) (by omega) (by omega)
      have l1 : f_X9_bestParting (nI h) (nI q.1) q.2 = some r := l1
      rw [l1, Option.bind_some]
      exact ⟨_, _, _, _, _, _, _, _, _, _, _, rfl, rfl, m1⟩
    · rw [if_neg y2, if_neg y2, get_pk y g2 (by decide), Option.bind_some]
      exact ⟨_, _, _, _, _, _, _, _, _, _, _, rfl, rfl, m1⟩
end BEH
