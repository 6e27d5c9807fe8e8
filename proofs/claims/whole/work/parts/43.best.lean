/-! few sets, in their order -/
def FEWN : List Nat := [0, 1, 2, 4, 8, 16, 32, 64, 128, 256, 3, 5, 6, 9, 10, 12, 17, 18, 20, 24, 33, 34, 36, 40, 48, 65, 66, 68, 72, 80, 96, 129, 130, 132, 136, 144, 160, 192, 257, 258, 260, 264, 272, 288, 320, 384]
def FL (h j : Nat) : List Nat := (FEWN.drop j).filter (fun v => decide (v < 2 ^ h))
/-- the sets of t hearers from v on -/
def SL (h t : Nat) : Nat → Nat → List Nat
  | 0, _ => []
  | n + 1, v => if pc v = t then v :: SL h t n (v + 1) else SL h t n (v + 1)
theorem few_all : ∀ h, h ≤ 9 → FL h 0 = SL h 0 (2 ^ h) 0 ++ (SL h 1 (2 ^ h) 0 ++ (SL h 2 (2 ^ h) 0 ++ [])) := by decide +kernel
theorem few_at : ∀ j, j < 46 → few j = nI (FEWN[j]?.getD 0) ∧ FEWN[j]?.getD 0 < 512 ∧ FEWN.drop j = FEWN[j]?.getD 0 :: FEWN.drop (j + 1) := by decide +kernel
theorem FL_step {h j : Nat} (hj : j < 46) : FL h j = if FEWN[j]?.getD 0 < 2 ^ h then FEWN[j]?.getD 0 :: FL h (j + 1) else FL h (j + 1) := by
  unfold FL
  rw [(few_at j hj).2.2, List.filter_cons]
  simp
theorem FL_end (h : Nat) : FL h 46 = [] := rfl
theorem in_first : ∀ h, h ≤ 9 → ∀ v, v < 512 → ((nI v &&& (nI (2 ^ h - 1) ^^^ (-1 : Int32))) = 0 ↔ v < 2 ^ h) := by
  intro h hh v hv
  constructor
  · intro z
    refine Nat.lt_pow_two_of_testBit v fun i hi => ?_
    by_cases i32 : i < 32
    · have q : bt (nI v &&& (nI (2 ^ h - 1) ^^^ (-1 : Int32))) i = false := by rw [z]; exact b_0 i
      rw [b_and, b_not _ i32, bt_nI _ i32, bt_nI _ i32, Nat.testBit_two_pow_sub_one] at q
      simpa [show ¬ i < h by omega] using q
    · exact Nat.testBit_lt_two_pow (Nat.lt_of_lt_of_le hv (show 2 ^ 9 ≤ 2 ^ i from Nat.pow_le_pow_right (by decide) (by omega)))
  · intro z
    refine b_ext fun i hi => ?_
    rw [b_and, b_not _ hi, bt_nI _ hi, bt_nI _ hi, b_0, Nat.testBit_two_pow_sub_one]
    by_cases c : i < h
    · simp [c]
    · rw [Nat.testBit_lt_two_pow (Nat.lt_of_lt_of_le z (Nat.pow_le_pow_right (by decide) (by omega)))]
      rfl
/-! the best round -/
def ff (p : Nat → Bool) : Nat → Nat → Option Nat
  | 0, _ => none
  | n + 1, s => if p s = true then some s else ff p n (s + 1)
theorem ff_lt {p : Nat → Bool} : ∀ n s r, ff p n s = some r → r < s + n
  | 0, s, r, h => by cases h
  | n + 1, s, r, h => by
    unfold ff at h
    by_cases c : p s = true
    · rw [if_pos c] at h; cases h; omega
    · rw [if_neg c] at h; have := ff_lt n (s + 1) r h; omega
def bl (g : Nat → Option Nat) : List Nat → Option (Nat × Nat)
  | [] => none
  | v :: l => match g v with
    | some s => some (v, s)
    | none => bl g l
theorem bl_some {g : Nat → Option Nat} {v s : Nat} {l : List Nat} (h : g v = some s) : bl g (v :: l) = some (v, s) := by simp [bl, h]
theorem bl_none {g : Nat → Option Nat} {v : Nat} {l : List Nat} (h : g v = none) : bl g (v :: l) = bl g l := by simp [bl, h]
def oI : Option Nat → Int32
  | none => -1
  | some s => nI s
section BST
variable {u c h x d : Nat} {keptIn colds y2 y3 : Int32} {places pinches sayings pinched says : Nat → Int32}
/-- the law's holding all round, with the set v kept in and the s-th start -/
def hold (u c h x d : Nat) (keptIn colds y2 : Int32) (places pinches sayings : Nat → Int32) (v s : Nat) : Bool :=
  match f_X0_holdsAllRound (keptIn ||| nI v) 0 (nI d) 0 0 (nI x) colds (nI u) (nI c) (nI h) places pinches sayings (nI (s / 2)) (nI (s % 2)) with
  | some q => decide (¬ q.1 = 0 ∧ (y2 &&& (q.2.1 ^^^ (-1 : Int32))) = 0)
  | none => false
theorem dv2 {m : Nat} (hm : m < 2 ^ 31) : o_dv (nI m) (2 : Int32) = some (nI (m / 2)) := by
  unfold o_dv
  rw [if_neg (by decide), show (2 : Int32) = nI 2 from rfl, pk_div hm (by decide) (by decide)]
theorem hold1 (hu : u < 256) (hc : c ≤ 8) (hh : h ≤ 9) (hT : TR h pinches sayings pinched says) (hx : x < 512) (hd : d < 256) {v s : Nat} (hs : s < 2 * c) {sp hq : Int32} {w : Nat → Int32} (hW : RW h 0 x keptIn colds places w) :
    ∃ (rr dA hA sA xA sp' hq' : Int32) (w' : Nat → Int32), f_X0_holdsAllRound (keptIn ||| nI v) 0 (nI d) 0 0 (nI x) colds (nI u) (nI c) (nI h) places pinches sayings (nI (s / 2)) (nI (s % 2)) = some (rr, dA, hA, sA, xA) ∧ f_X11_isLawAllRound (nI u) (nI c) (nI h) sp hq pinched says w (nI d) y2 (nI (s / 2)) (nI (s % 2)) (nI v) = some (if hold u c h x d keptIn colds y2 places pinches sayings v s = true then 1 else 0, sp', hq', w') ∧ wok w w' ∧ (hold u c h x d keptIn colds y2 places pinches sayings v s = true ↔ (¬ rr = 0 ∧ (y2 &&& (dA ^^^ (-1 : Int32))) = 0)) := by
  obtain ⟨d', x', g', s', A, dA, hA, sA, xA, w', a1, a2, a3, a4, a5, a6, a7, a8, a9⟩ := try2 (liars := 0) (kept := nI v) (way := nI (s % 2)) (sp := sp) (hq := hq) hu hh hT hc (show s / 2 < c by omega) hd hx hW
  have hiff : hold u c h x d keptIn colds y2 places pinches sayings v s = true ↔ (¬ (if A = true then (1 : Int32) else 0) = 0 ∧ (y2 &&& (dA ^^^ (-1 : Int32))) = 0) := by
    unfold hold
    rw [a5]
    exact decide_eq_true_iff
  obtain ⟨f1, f2, f3, f4⟩ := full_1 c (by omega)
  refine ⟨_, dA, hA, sA, xA, s', nI g', w', a5, ?_, a7, hiff⟩
  unfold f_X11_isLawAllRound
  rw [a6, Option.bind_some, f2]
  by_cases cA : A = true
  · have e : nI g' = nI (2 ^ c - 1) := by rw [a9.mp cA]
    rw [if_pos e]
    have hiff : hold u c h x d keptIn colds y2 places pinches sayings v s = true ↔ (y2 &&& (nI d' ^^^ (-1 : Int32))) = 0 := by
      rw [hiff, if_pos cA, a8 cA]
      exact ⟨fun z => z.2, fun z => ⟨one_ne, z⟩⟩
    by_cases cz : (y2 &&& (nI d' ^^^ (-1 : Int32))) = 0
    · rw [if_pos cz, if_pos (hiff.mpr cz)]
    · rw [if_neg cz, if_neg (fun z => cz (hiff.mp z))]
  · have e : ¬ nI g' = nI (2 ^ c - 1) := fun z => cA (a9.mpr ((nI_eq (by omega) (by omega)).mp z))
    have : ¬ hold u c h x d keptIn colds y2 places pinches sayings v s = true := by
      rw [hiff, if_neg cA]
      exact fun z => z.1 rfl
    rw [if_neg e, if_neg this]
theorem start_loop (hu : u < 256) (hc : c ≤ 8) (hh : h ≤ 9) (hT : TR h pinches sayings pinched says) (hx : x < 512) (hd : d < 256) {v : Nat} {w : Nat → Int32} (hW : RW h 0 x keptIn colds places w) : ∀ (k s : Nat) (cs cl cd ch csp cho : Int32), s ≤ 2 * c → 2 * c < k + s → ∃ a1 a2 a3 a4 a5 a6, f_X8_findStart_3 (nI x) keptIn colds (nI u) (nI c) (nI h) places pinches sayings k cs cl cd ch csp cho (nI d) y2 (nI v) (nI s) = some (oI (ff (hold u c h x d keptIn colds y2 places pinches sayings v) (2 * c - s) s), a1, a2, a3, a4, a5, a6) := by
  intro k
  induction k with
  | zero => intro s cs cl cd ch csp cho h1 h2; omega
  | succ k ih =>
    intro s cs cl cd ch csp cho hs hk
    rw [f_X8_findStart_3, show (2 : Int32) * nI c = nI (2 * c) from pk_mul 2 c]
    by_cases hlt : s < 2 * c
    · obtain ⟨rr, dA, hA, sA, xA, sp', hq', w', e1, e2, e3, e4⟩ := hold1 (sp := 0) (hq := 0) (v := v) (y2 := y2) hu hc hh hT hx hd hlt hW
      rw [if_neg (nI_ge hlt (by omega))]
      unfold f_X0_start
      rw [onm, Option.bind_some, dv2 (by omega), Option.bind_some, rm2 (by omega), Option.bind_some]
      simp only []
      rw [e1, Option.bind_some]
      obtain ⟨n, hn⟩ : ∃ n, 2 * c - s = n + 1 := ⟨2 * c - s - 1, by omega⟩
      rw [hn]
      unfold ff
      rw [show n = 2 * c - (s + 1) by omega]
      by_cases cz : rr = 0
      · rw [if_pos cz, if_neg (fun z => (e4.mp z).1 cz), onm, nI_1]
        exact ih (s + 1) _ _ _ _ _ _ (by omega) (by omega)
      · rw [if_neg cz]
        by_cases cy : (y2 &&& (dA ^^^ (-1 : Int32))) = 0
        · rw [if_pos cy, if_pos (e4.mpr ⟨cz, cy⟩)]
          exact ⟨_, _, _, _, _, _, rfl⟩
        · rw [if_neg cy, if_neg (fun z => cy (e4.mp z).2), onm, nI_1]
          exact ih (s + 1) _ _ _ _ _ _ (by omega) (by omega)
    · rw [if_pos (nI_le (by omega) (by omega)), show 2 * c - s = 0 by omega]
      exact ⟨_, _, _, _, _, _, rfl⟩
def gg (u c h x d : Nat) (keptIn colds y2 : Int32) (places pinches sayings : Nat → Int32) (v : Nat) : Option Nat := if (nI v &&& keptIn) = 0 then ff (hold u c h x d keptIn colds y2 places pinches sayings v) (2 * c) 0 else none
def eI : Option (Nat × Nat) → Int32
  | none => -1
  | some (v, s) => nI (v * 16 + s)
theorem best_x (hu : u < 256) (hc : c ≤ 8) (hh : h ≤ 9) (hT : TR h pinches sayings pinched says) (hx : x < 512) (hd : d < 256) {w : Nat → Int32} (hW : RW h 0 x keptIn colds places w) : ∀ (k j : Nat) (cs cl cd ch csp cho : Int32), j ≤ 46 → 46 < k + j → ∃ a1 a2 a3 a4 a5 a6, f_X8_findBestRound_2 (nI x) keptIn colds (nI u) (nI c) (nI h) places pinches sayings k cs cl cd ch csp cho (nI d) y2 (nI j) = some (eI (bl (gg u c h x d keptIn colds y2 places pinches sayings) (FL h j)), a1, a2, a3, a4, a5, a6) := by
  intro k
  induction k with
  | zero => intro j cs cl cd ch csp cho h1 h2; omega
  | succ k ih =>
    intro j cs cl cd ch csp cho hj hk
    rw [f_X8_findBestRound_2]
    by_cases hlt : j < 46
    · obtain ⟨e1, e2, e3⟩ := few_at j hlt
      rw [FL_step hlt, if_neg (show ¬ (46 : Int32) ≤ nI j from nI_ge (b := 46) hlt (by decide)), ld_in hlt (by decide), Option.bind_some, e1]
      generalize FEWN[j]?.getD 0 = v at e1 e2
      unfold f_X0_canKeepIn f_X10_firstOf
      rw [Option.bind_some, (full_1 h hh).2.1]
      have skip : ∀ a b c' d' e f, f_X8_findBestRound_40 (nI x) keptIn colds (nI u) (nI c) (nI h) places pinches sayings (f_X8_findBestRound_2 (nI x) keptIn colds (nI u) (nI c) (nI h) places pinches sayings k) a b c' d' e f (nI d) y2 (nI j) (-1 : Int32) = f_X8_findBestRound_2 (nI x) keptIn colds (nI u) (nI c) (nI h) places pinches sayings k a b c' d' e f (nI d) y2 (nI (j + 1)) := by
        intro a b c' d' e f
        unfold f_X8_findBestRound_40
        rw [if_pos rfl, onm, nI_1]
      by_cases c1 : v < 2 ^ h
      · rw [if_pos ((in_first h hh v e2).mpr c1), if_pos c1]
        by_cases c2 : (nI v &&& keptIn) = 0
        · rw [if_pos c2, Option.bind_some, if_neg one_ne, Option.bind_some]
          obtain ⟨a1, a2, a3, a4, a5, a6, q⟩ := start_loop (y2 := y2) (v := v) hu hc hh hT hx hd hW 1000 0 cs cl cd ch csp cho (by omega) (by omega)
          have q : f_X8_findStart cs cl cd ch csp cho (nI x) keptIn colds (nI u) (nI c) (nI h) places pinches sayings (nI d) y2 (nI v) = _ := q
          rw [q, Option.bind_some]
          have G : gg u c h x d keptIn colds y2 places pinches sayings v = ff (hold u c h x d keptIn colds y2 places pinches sayings v) (2 * c - 0) 0 := by unfold gg; rw [if_pos c2]; rfl
          cases hf : ff (hold u c h x d keptIn colds y2 places pinches sayings v) (2 * c - 0) 0 with
          | none =>
            rw [hf] at G
            rw [bl_none G]
            show ∃ a1 a2 a3 a4 a5 a6, f_X8_findBestRound_40 _ _ _ _ _ _ _ _ _ _ _ _ _ _ _ _ _ _ _ (-1 : Int32) = _
            rw [skip]
            exact ih (j + 1) _ _ _ _ _ _ (by omega) (by omega)
          | some s =>
            rw [hf] at G
            have hs := ff_lt _ _ _ hf
            rw [bl_some G]
            unfold f_X8_findBestRound_40 oI
            rw [if_neg (show ¬ nI s = (-1 : Int32) from fun z => nI_pos (n := s) (by omega) (by rw [z]; decide)), ld_in hlt (by decide), Option.bind_some, e1, show (16 : Int32) = nI 16 from rfl, pk_mul, nI_add]
            exact ⟨_, _, _, _, _, _, rfl⟩
        · have G : gg u c h x d keptIn colds y2 places pinches sayings v = none := by unfold gg; rw [if_neg c2]
          rw [if_neg c2, Option.bind_some, if_pos rfl, skip, bl_none G]
          exact ih (j + 1) _ _ _ _ _ _ (by omega) (by omega)
      · rw [if_neg (fun z => c1 ((in_first h hh v e2).mp z)), if_neg c1, Option.bind_some, if_pos rfl, skip]
        exact ih (j + 1) _ _ _ _ _ _ (by omega) (by omega)
    · have e : j = 46 := by omega
      subst e
      rw [if_pos (show (46 : Int32) ≤ nI 46 from nI_le (a := 46) (Nat.le_refl 46) (by decide))]
      exact ⟨_, _, _, _, _, _, rfl⟩
def aI (y3 : Int32) : Option (Nat × Nat) → Int32
  | none => -1
  | some (v, s) => if y3 = 0 then nI s else nI v
theorem may1 {v t : Nat} (hv : v < 512) (ht : t < 3) {w : Nat → Int32} (hW : RW h 0 x keptIn colds places w) : f_X11_mayKeep w (nI v) (nI t) = some (if pc v = t ∧ (nI v &&& keptIn) = 0 then 1 else 0) := by
  obtain ⟨p1, p2, p3, p4⟩ := pc_all v hv
  unfold f_X11_mayKeep
  rw [p2, Option.bind_some, (l_w w).2.1, Option.bind_some, show w 10 = keptIn from hW.2.1]
  by_cases c1 : pc v = t
  · rw [if_pos (show nI (pc v) = nI t by rw [c1])]
    by_cases c2 : (nI v &&& keptIn) = 0
    · rw [if_pos c2, if_pos ⟨c1, c2⟩]
    · rw [if_neg c2, if_neg (fun z => c2 z.2)]
  · rw [if_neg (fun z => c1 ((nI_eq (by omega) (by omega)).mp z)), if_neg (fun z => c1 z.1)]
theorem b58_no {v t : Nat} (hc : c ≤ 8) (hv : v < 512) (ht : t < 3) {sp hq : Int32} {w : Nat → Int32} (hW : RW h 0 x keptIn colds places w) (hno : ¬ (pc v = t ∧ (nI v &&& keptIn) = 0)) {k35 : Int32 → Int32 → (Nat → Int32) → Int32 → Int32 → Int32 → Int32 → Option (Int32 × Int32 × Int32 × (Nat → Int32))} {k44 : Int32 → Int32 → (Nat → Int32) → Int32 → Int32 → Int32 → Int32 → Int32 → Option (Int32 × Int32 × Int32 × (Nat → Int32))} : ∀ (k s : Nat), s ≤ 2 * c → 2 * c < k + s → f_X11_bestRound_58 (nI u) (nI c) (nI h) pinched says k35 k44 k sp hq w (nI d) y2 y3 (nI t) (nI v) (nI s) = k44 sp hq w (nI d) y2 y3 (nI t) (nI (v + 1)) := by
  intro k
  induction k with
  | zero => intro s h1 h2; omega
  | succ k ih =>
    intro s hs hk
    rw [f_X11_bestRound_58, show (2 : Int32) * nI c = nI (2 * c) from pk_mul 2 c]
    by_cases hlt : s < 2 * c
    · rw [if_neg (nI_ge hlt (by omega)), may1 hv ht hW, Option.bind_some, if_neg hno, if_pos rfl, onm, nI_1]
      exact ih (s + 1) (by omega) (by omega)
    · rw [if_pos (nI_le (by omega) (by omega)), onm, nI_1]
theorem b58_yes (hu : u < 256) (hc : c ≤ 8) (hh : h ≤ 9) (hT : TR h pinches sayings pinched says) (hx : x < 512) (hd : d < 256) {v t : Nat} (hv : v < 512) (ht : t < 3) (hyes : pc v = t ∧ (nI v &&& keptIn) = 0) {k35 : Int32 → Int32 → (Nat → Int32) → Int32 → Int32 → Int32 → Int32 → Option (Int32 × Int32 × Int32 × (Nat → Int32))} {k44 : Int32 → Int32 → (Nat → Int32) → Int32 → Int32 → Int32 → Int32 → Int32 → Option (Int32 × Int32 × Int32 × (Nat → Int32))} : ∀ (k s : Nat) (sp hq : Int32) (w : Nat → Int32), s ≤ 2 * c → 2 * c < k + s → RW h 0 x keptIn colds places w → ∃ (sp' hq' : Int32) (w' : Nat → Int32), wok w w' ∧ f_X11_bestRound_58 (nI u) (nI c) (nI h) pinched says k35 k44 k sp hq w (nI d) y2 y3 (nI t) (nI v) (nI s) = match ff (hold u c h x d keptIn colds y2 places pinches sayings v) (2 * c - s) s with
      | some s' => some (if y3 = 0 then nI s' else nI v, sp', hq', w')
      | none => k44 sp' hq' w' (nI d) y2 y3 (nI t) (nI (v + 1)) := by
  intro k
  induction k with
  | zero => intro s sp hq w h1 h2; omega
  | succ k ih =>
    intro s sp hq w hs hk hW
    rw [f_X11_bestRound_58, show (2 : Int32) * nI c = nI (2 * c) from pk_mul 2 c]
    by_cases hlt : s < 2 * c
    · obtain ⟨rr, dA, hA, sA, xA, sp', hq', w', e1, e2, e3, e4⟩ := hold1 (sp := sp) (hq := hq) (v := v) (y2 := y2) hu hc hh hT hx hd hlt hW
      obtain ⟨n, hn⟩ : ∃ n, 2 * c - s = n + 1 := ⟨2 * c - s - 1, by omega⟩
      rw [if_neg (nI_ge hlt (by omega)), may1 hv ht hW, Option.bind_some, if_pos hyes, if_neg one_ne, dv2 (by omega), Option.bind_some, rm2 (by omega), Option.bind_some, e2, Option.bind_some, hn]
      unfold ff
      rw [show n = 2 * c - (s + 1) by omega]
      by_cases ch : hold u c h x d keptIn colds y2 places pinches sayings v s = true
      · rw [if_pos ch, if_pos ch, if_neg one_ne]
        refine ⟨sp', hq', w', e3, ?_⟩
        show _ = some (if y3 = 0 then nI s else nI v, sp', hq', w')
        by_cases z : y3 = 0
        · rw [if_pos z, if_pos z]
        · rw [if_neg z, if_neg z]
      · rw [if_neg ch, if_neg ch, if_pos rfl, onm, nI_1]
        obtain ⟨sp2, hq2, w2, q1, q2⟩ := ih (s + 1) sp' hq' w' (by omega) (by omega) (rw_wok hh e3 hW)
        exact ⟨sp2, hq2, w2, wok_tr e3 q1, q2⟩
    · rw [if_pos (nI_le (by omega) (by omega)), onm, nI_1, show 2 * c - s = 0 by omega]
      exact ⟨sp, hq, w, wok_rfl w, rfl⟩
/-- the reference's answer from a place on, told by a list -/
def PB (h x : Nat) (keptIn colds y3 : Int32) (places : Nat → Int32) (f : Int32 → Int32 → (Nat → Int32) → Option (Int32 × Int32 × Int32 × (Nat → Int32))) (b : Option (Nat × Nat)) : Prop := ∀ (sp hq : Int32) (w : Nat → Int32), RW h 0 x keptIn colds places w → ∃ (sp' hq' : Int32) (w' : Nat → Int32), wok w w' ∧ f sp hq w = some (aI y3 b, sp', hq', w')
theorem b44 (hu : u < 256) (hc : c ≤ 8) (hh : h ≤ 9) (hT : TR h pinches sayings pinched says) (hx : x < 512) (hd : d < 256) {t : Nat} (ht : t < 3) {rest : List Nat} {k35 : Int32 → Int32 → (Nat → Int32) → Int32 → Int32 → Int32 → Int32 → Option (Int32 × Int32 × Int32 × (Nat → Int32))} (hK : PB h x keptIn colds y3 places (fun sp hq w => k35 sp hq w (nI d) y2 y3 (nI (t + 1))) (bl (gg u c h x d keptIn colds y2 places pinches sayings) rest)) : ∀ (k n v : Nat), n + v = 2 ^ h → 2 ^ h < k + v → PB h x keptIn colds y3 places (fun sp hq w => f_X11_bestRound_44 (nI u) (nI c) (nI h) pinched says k35 k sp hq w (nI d) y2 y3 (nI t) (nI v)) (bl (gg u c h x d keptIn colds y2 places pinches sayings) (SL h t n v ++ rest)) := by
  obtain ⟨f1, f2, f3, f4⟩ := full_1 h hh
  intro k
  induction k with
  | zero => intro n v h1 h2; omega
  | succ k ih =>
    intro n v hn hk sp hq w hW
    show ∃ sp' hq' w', wok w w' ∧ f_X11_bestRound_44 (nI u) (nI c) (nI h) pinched says k35 (k + 1) sp hq w (nI d) y2 y3 (nI t) (nI v) = _
    rw [f_X11_bestRound_44, f1]
    by_cases hlt : v < 2 ^ h
    · obtain ⟨m, rfl⟩ : ∃ m, n = m + 1 := ⟨n - 1, by omega⟩
      rw [if_neg (nI_ge hlt (by omega))]
      unfold SL
      have I := ih m (v + 1) (by omega) (by omega)
      by_cases hm : pc v = t ∧ (nI v &&& keptIn) = 0
      · have G : gg u c h x d keptIn colds y2 places pinches sayings v = ff (hold u c h x d keptIn colds y2 places pinches sayings v) (2 * c - 0) 0 := by unfold gg; rw [if_pos hm.2]; rfl
        obtain ⟨sp', hq', w', q1, q2⟩ := b58_yes (y2 := y2) (y3 := y3) (k35 := k35) (k44 := f_X11_bestRound_44 (nI u) (nI c) (nI h) pinched says k35 k) hu hc hh hT hx hd (show v < 512 by omega) ht hm 1000 0 sp hq w (by omega) (by omega) hW
        have q2 : f_X11_bestRound_58 (nI u) (nI c) (nI h) pinched says k35 (f_X11_bestRound_44 (nI u) (nI c) (nI h) pinched says k35 k) 1000 sp hq w (nI d) y2 y3 (nI t) (nI v) (0 : Int32) = _ := q2
        rw [q2, if_pos hm.1, List.cons_append]
        cases hf : ff (hold u c h x d keptIn colds y2 places pinches sayings v) (2 * c - 0) 0 with
        | none =>
          rw [hf] at G
          rw [bl_none G]
          obtain ⟨sp2, hq2, w2, r1, r2⟩ := I sp' hq' w' (rw_wok hh q1 hW)
          exact ⟨sp2, hq2, w2, wok_tr q1 r1, r2⟩
        | some s =>
          rw [hf] at G
          rw [bl_some G]
          exact ⟨sp', hq', w', q1, rfl⟩
      · have q := b58_no (u := u) (d := d) (y2 := y2) (y3 := y3) (sp := sp) (hq := hq) (pinched := pinched) (says := says) (k35 := k35) (k44 := f_X11_bestRound_44 (nI u) (nI c) (nI h) pinched says k35 k) hc (show v < 512 by omega) ht hW hm 1000 0 (by omega) (by omega)
        have q : f_X11_bestRound_58 (nI u) (nI c) (nI h) pinched says k35 (f_X11_bestRound_44 (nI u) (nI c) (nI h) pinched says k35 k) 1000 sp hq w (nI d) y2 y3 (nI t) (nI v) (0 : Int32) = _ := q
        rw [q]
        by_cases hp : pc v = t
        · have G : gg u c h x d keptIn colds y2 places pinches sayings v = none := by unfold gg; rw [if_neg (fun z => hm ⟨hp, z⟩)]
          rw [if_pos hp, List.cons_append, bl_none G]
          exact I sp hq w hW
        · rw [if_neg hp]
          exact I sp hq w hW
    · have e : n = 0 := by omega
      subst e
      rw [if_pos (nI_le (by omega) (by omega)), onm, nI_1]
      exact hK sp hq w hW
theorem b35 (hu : u < 256) (hc : c ≤ 8) (hh : h ≤ 9) (hT : TR h pinches sayings pinched says) (hx : x < 512) (hd : d < 256) : PB h x keptIn colds y3 places (fun sp hq w => f_X11_bestRound_35 (nI u) (nI c) (nI h) pinched says 1000 sp hq w (nI d) y2 y3 (0 : Int32)) (bl (gg u c h x d keptIn colds y2 places pinches sayings) (FL h 0)) := by
  obtain ⟨f1, f2, f3, f4⟩ := full_1 h hh
  have step : ∀ (n t : Nat) (rest : List Nat), t < 3 → PB h x keptIn colds y3 places (fun sp hq w => f_X11_bestRound_35 (nI u) (nI c) (nI h) pinched says n sp hq w (nI d) y2 y3 (nI (t + 1))) (bl (gg u c h x d keptIn colds y2 places pinches sayings) rest) → PB h x keptIn colds y3 places (fun sp hq w => f_X11_bestRound_35 (nI u) (nI c) (nI h) pinched says (n + 1) sp hq w (nI d) y2 y3 (nI t)) (bl (gg u c h x d keptIn colds y2 places pinches sayings) (SL h t (2 ^ h) 0 ++ rest)) := by
    intro n t rest ht hK sp hq w hW
    show ∃ sp' hq' w', wok w w' ∧ f_X11_bestRound_35 (nI u) (nI c) (nI h) pinched says (n + 1) sp hq w (nI d) y2 y3 (nI t) = _
    rw [f_X11_bestRound_35, if_neg (show ¬ (3 : Int32) ≤ nI t from nI_ge (b := 3) ht (by decide))]
    exact b44 (y2 := y2) hu hc hh hT hx hd ht hK 1000 (2 ^ h) 0 (by omega) (by omega) sp hq w hW
  have K3 : PB h x keptIn colds y3 places (fun sp hq w => f_X11_bestRound_35 (nI u) (nI c) (nI h) pinched says (996 + 1) sp hq w (nI d) y2 y3 (nI 3)) (bl (gg u c h x d keptIn colds y2 places pinches sayings) []) := by
    intro sp hq w hW
    show ∃ sp' hq' w', wok w w' ∧ f_X11_bestRound_35 (nI u) (nI c) (nI h) pinched says (996 + 1) sp hq w (nI d) y2 y3 (nI 3) = _
    rw [f_X11_bestRound_35, if_pos (show (3 : Int32) ≤ nI 3 by decide)]
    exact ⟨sp, hq, w, wok_rfl w, rfl⟩
  have K := step _ 0 _ (by decide) (step _ 1 _ (by decide) (step _ 2 _ (by decide) K3))
  rw [← few_all h hh] at K
  exact K
theorem q_bestRound (hu : u < 256) (hc : c ≤ 8) (hh : h ≤ 9) (hT : TR h pinches sayings pinched says) {cs cl cd ch csp cho sp hq : Int32} {w : Nat → Int32} (hx : x < 512) (hW : RW h 0 x keptIn colds places w) (y1 y2 y3 : Int32) :
    ∃ (r a1 a2 a3 a4 a5 a6 sp' hq' : Int32) (w' : Nat → Int32), f_X10_bestRound cs cl cd ch csp cho (nI x) keptIn colds (nI u) (nI c) (nI h) places pinches sayings y1 y2 y3 = some (r, a1, a2, a3, a4, a5, a6) ∧ f_X11_bestRound (nI u) (nI c) (nI h) sp hq pinched says w y1 y2 y3 = some (r, sp', hq', w') ∧ wok w w' := by
  unfold f_X10_bestRound f_X11_bestRound
  rcases decree_cases hu y1 with ⟨a1, a2⟩ | ⟨d, hd, rfl, a1, a2⟩
  · rw [a1, a2, Option.bind_some, Option.bind_some, if_pos rfl, if_pos rfl]
    exact ⟨_, _, _, _, _, _, _, _, _, _, rfl, rfl, wok_rfl w⟩
  · rw [a1, a2, Option.bind_some, Option.bind_some, if_neg one_ne, if_neg one_ne]
    rcases decree_cases hu y2 with ⟨b1, b2⟩ | ⟨d2, hd2, e2, b1, b2⟩
    · rw [b1, b2, Option.bind_some, Option.bind_some, if_pos rfl, if_pos rfl]
      exact ⟨_, _, _, _, _, _, _, _, _, _, rfl, rfl, wok_rfl w⟩
    · rw [b1, b2, Option.bind_some, Option.bind_some, if_neg one_ne, if_neg one_ne]
      rcases way_cases y3 with ⟨w1, w2⟩ | ⟨w1, w2, w3, w4⟩
      · have w1 : f_X11_in (Int32.toInt64 y3) (0 : Int64) (1 : Int64) = some 0 := by
          rcases in_cases (n := 1) (by decide) (B := 1) rfl y3 with ⟨h1, h2⟩ | ⟨j, hj, e, h1⟩
          · exact h1
          · exfalso
            subst e
            rcases w2 with z | ⟨z1, z2⟩
            · exact nI_pos (by omega) z
            · exact z2 (nI_le (b := 1) hj (by decide))
        rw [w1, Option.bind_some, if_pos rfl]
        rcases w2 with w2 | ⟨w2, w3⟩
        · rw [if_pos w2]
          exact ⟨_, _, _, _, _, _, _, _, _, _, rfl, rfl, wok_rfl w⟩
        · rw [if_neg w2, if_neg w3]
          exact ⟨_, _, _, _, _, _, _, _, _, _, rfl, rfl, wok_rfl w⟩
      · have w1 : f_X11_in (Int32.toInt64 y3) (0 : Int64) (1 : Int64) = some 1 := by
          rcases w4 with rfl | rfl <;> decide
        obtain ⟨q1, q2, q3, q4, q5, q6, Q⟩ := best_x (y2 := y2) hu hc hh hT hx hd hW 1000 0 cs cl cd ch csp cho (by omega) (by omega)
        have Q : f_X8_findBestRound cs cl cd ch csp cho (nI x) keptIn colds (nI u) (nI c) (nI h) places pinches sayings (nI d) y2 = _ := Q
        obtain ⟨sp', hq', w', m1, m2⟩ := b35 (y2 := y2) (y3 := y3) hu hc hh hT hx hd sp hq w hW
        have m2 : f_X11_bestRound_35 (nI u) (nI c) (nI h) pinched says 1000 sp hq w (nI d) y2 y3 (0 : Int32) = _ := m2
        rw [w1, Option.bind_some, if_neg one_ne, m2, if_neg w2, if_pos w3, Q, Option.bind_some]
        have hb : ∀ v s, bl (gg u c h x d keptIn colds y2 places pinches sayings) (FL h 0) = some (v, s) → v < 512 ∧ s < 16 := by
          intro v s hbl
          have gen : ∀ l : List Nat, (∀ z ∈ l, z < 512) → bl (gg u c h x d keptIn colds y2 places pinches sayings) l = some (v, s) → v < 512 ∧ s < 16 := by
            intro l
            induction l with
            | nil => intro _ z; cases z
            | cons z l ih =>
              intro hz hl
              cases hg : gg u c h x d keptIn colds y2 places pinches sayings z with
              | none => rw [bl_none hg] at hl; exact ih (fun q hq => hz q (List.mem_cons_of_mem _ hq)) hl
              | some s0 =>
                rw [bl_some hg] at hl
                cases hl
                unfold gg at hg
                by_cases k : (nI v &&& keptIn) = 0
                · rw [if_pos k] at hg
                  have := ff_lt _ _ _ hg
                  exact ⟨hz v (List.mem_cons_self ..), by omega⟩
                · rw [if_neg k] at hg; cases hg
          refine gen (FL h 0) ?_ hbl
          intro z hz
          have : z ∈ FEWN := (List.mem_filter.mp hz).1
          have all : ∀ z ∈ FEWN, z < 512 := by decide
          exact all z this
        cases hbl : bl (gg u c h x d keptIn colds y2 places pinches sayings) (FL h 0) with
        | none =>
          show ∃ (r a1 a2 a3 a4 a5 a6 sp' hq' : Int32) (w' : Nat → Int32), (if (-1 : Int32) = (-1 : Int32) then _ else _) = _ ∧ _
          rw [if_pos rfl]
          exact ⟨_, _, _, _, _, _, _, sp', hq', w', rfl, rfl, m1⟩
        | some vs =>
          obtain ⟨v, s⟩ := vs
          obtain ⟨hv, hs⟩ := hb v s hbl
          have e1 : eI (some (v, s)) = nI (v * 16 + s) := rfl
          have e2 : aI y3 (some (v, s)) = if y3 = 0 then nI s else nI v := rfl
          rw [e1, e2]
          rw [if_neg (show ¬ nI (v * 16 + s) = (-1 : Int32) from fun z => nI_pos (n := v * 16 + s) (by omega) (by rw [z]; decide))]
          by_cases z : y3 = 0
          · have es : f_X8_startOf (nI (v * 16 + s)) = some (nI s) := by
              unfold f_X8_startOf o_rm
              rw [if_neg (by decide), show (16 : Int32) = nI 16 from rfl, pk_rem (by omega) (by decide) (by decide), show (v * 16 + s) % 16 = s by omega]
              rfl
            rw [if_pos z, if_pos z, es, Option.bind_some]
            exact ⟨_, _, _, _, _, _, _, sp', hq', w', rfl, rfl, m1⟩
          · have es : f_X8_setOf (nI (v * 16 + s)) = some (nI v) := by
              unfold f_X8_setOf o_dv
              rw [if_neg (by decide), show (16 : Int32) = nI 16 from rfl, pk_div (by omega) (by decide) (by decide), show (v * 16 + s) / 16 = v by omega]
              rfl
            rw [if_neg z, if_neg z, es, Option.bind_some]
            exact ⟨_, _, _, _, _, _, _, sp', hq', w', rfl, rfl, m1⟩
end BST
