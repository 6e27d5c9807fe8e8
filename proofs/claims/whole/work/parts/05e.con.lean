def f_X11_in (x0 : Int64) (x2 : Int64) (x4 : Int64) : Option (Int32) :=
  if (lg_cmp x0 x2) < 0 then (some (0 : Int32))
  else (if 0 < (lg_cmp x0 x4) then (some (0 : Int32))
  else (some (1 : Int32)))
theorem hdS_X11_in : yX11_in.cls ≠ "java/lang/invoke/MethodHandle" ∧ yX11_in.cls ≠ "java/lang/invoke/VarHandle" ∧ (parseMethodDescriptor yX11_in.desc).map (fun d => d.parameters.length) = some 3 := by decide +kernel
theorem hdV_X11_in : yX11_in.cls = RX11 ∧ yX11_in.cls ≠ "java/lang/invoke/MethodHandle" ∧ yX11_in.cls ≠ "java/lang/invoke/VarHandle" ∧ (parseMethodDescriptor yX11_in.desc).map (fun d => d.parameters.length) = some 3 := ⟨rfl, hdS_X11_in⟩
set_option maxHeartbeats 4000000 in
set_option maxRecDepth 100000 in
theorem c_X11_in (l : Launch) (D : va_G) (a : Nat → ClassId) (t : Nat) (x0 : Int64) (x2 : Int64) (x4 : Int64) (r : Int32) (hf : f_X11_in x0 x2 x4 = some r) : Ki l yX11_in wsX11_in 0 0 D a t [.long x0, .long x2, .long x4] [] [] r := by
  refine Ki.mk (cc := cX11_in) (nL := 6) (ty := .boolean) (own := RX11) (by decide) rfl rfl (Nat.le_of_ble_eq_true rfl) ?_
  intro p e s m args below meth c A Q ls hX hP hD hS hl hret
  have hx := hX.1.1
  have hb := hX.1.2.1
  have hown := hX.1.2.2.2.1
  have hts := hX.1.2.2.2.2
  have hN := hX.2.2.1
  have hA := hX.2.2.2.2
  have hl : lv_has ls 6 [(0, .long x0), (2, .long x2), (4, .long x4)] := hl
  unfold f_X11_in at hf
  refine lv_lload_n hx hb dX11_in_0 rfl (lv_at hl 0 rfl) ?_
  refine lv_lload_n hx hb dX11_in_1 rfl (lv_at hl 1 rfl) ?_
  refine W.lcmp hx hb dX11_in_2 ?_
  refine lv_if_lt (tgt := 17) hx hb dX11_in_3 (by decide) (fun c1 => ?_) (fun c1 => ?_)
  · replace hf := o_ifp hf c1
    refine lv_iconst (v := (0 : Int32)) hx hb dX11_in_17 (by decide) ?_
    cases hf
    exact hret _ _ _ _ narrow_b0 hP hD hS dX11_in_18
  replace hf := o_ifn hf c1
  refine lv_lload_n hx hb dX11_in_6 rfl (lv_at hl 0 rfl) ?_
  refine lv_lload hx hb dX11_in_7 (lv_at hl 2 rfl) ?_
  refine W.lcmp hx hb dX11_in_9 ?_
  refine lv_if_gt (tgt := 17) hx hb dX11_in_10 (by decide) (fun c2 => ?_) (fun c2 => ?_)
  · replace hf := o_ifp hf c2
    refine lv_iconst (v := (0 : Int32)) hx hb dX11_in_17 (by decide) ?_
    cases hf
    exact hret _ _ _ _ narrow_b0 hP hD hS dX11_in_18
  replace hf := o_ifn hf c2
  refine lv_iconst (v := (1 : Int32)) hx hb dX11_in_13 (by decide) ?_
  refine lv_goto (tgt := 18) hx hb dX11_in_14 (by decide) ?_
  cases hf
  exact hret _ _ _ _ narrow_b1 hP hD hS dX11_in_18
def f_X11_one (x0 : Int32) : Option (Int32) :=
  if x0 = 0 then (some (0 : Int32))
  else (some (1 : Int32))
theorem hdS_X11_one : yX11_one.cls ≠ "java/lang/invoke/MethodHandle" ∧ yX11_one.cls ≠ "java/lang/invoke/VarHandle" ∧ (parseMethodDescriptor yX11_one.desc).map (fun d => d.parameters.length) = some 1 := by decide +kernel
theorem hdV_X11_one : yX11_one.cls = RX11 ∧ yX11_one.cls ≠ "java/lang/invoke/MethodHandle" ∧ yX11_one.cls ≠ "java/lang/invoke/VarHandle" ∧ (parseMethodDescriptor yX11_one.desc).map (fun d => d.parameters.length) = some 1 := ⟨rfl, hdS_X11_one⟩
set_option maxHeartbeats 4000000 in
set_option maxRecDepth 100000 in
theorem c_X11_one (l : Launch) (D : va_G) (a : Nat → ClassId) (t : Nat) (x0 : Int32) (r : Int32) (hf : f_X11_one x0 = some r) : Ki l yX11_one wsX11_one 0 0 D a t [.int x0] [] [] r := by
  refine Ki.mk (cc := cX11_one) (nL := 1) (ty := .int) (own := RX11) (by decide) rfl rfl (Nat.le_of_ble_eq_true rfl) ?_
  intro p e s m args below meth c A Q ls hX hP hD hS hl hret
  have hx := hX.1.1
  have hb := hX.1.2.1
  have hown := hX.1.2.2.2.1
  have hts := hX.1.2.2.2.2
  have hN := hX.2.2.1
  have hA := hX.2.2.2.2
  have hl : lv_has ls 1 [(0, .int x0)] := hl
  unfold f_X11_one at hf
  refine lv_iload_n hx hb dX11_one_0 rfl (lv_at hl 0 rfl) ?_
  refine lv_if_eq (tgt := 8) hx hb dX11_one_1 (by decide) (fun c1 => ?_) (fun c1 => ?_)
  · replace hf := o_ifp hf c1
    refine lv_iconst (v := (0 : Int32)) hx hb dX11_one_8 (by decide) ?_
    cases hf
    exact hret _ _ _ _ (vp_nar_int _) hP hD hS dX11_one_9
  replace hf := o_ifn hf c1
  refine lv_iconst (v := (1 : Int32)) hx hb dX11_one_4 (by decide) ?_
  refine lv_goto (tgt := 9) hx hb dX11_one_5 (by decide) ?_
  cases hf
  exact hret _ _ _ _ (vp_nar_int _) hP hD hS dX11_one_9
def f_X11_has (x0 : Int32) (x1 : Int32) : Option (Int32) :=
  if ((x0 >>> (x1 &&& 31)) &&& (1 : Int32)) = (1 : Int32) then (some (1 : Int32))
  else (some (0 : Int32))
theorem hdS_X11_has : yX11_has.cls ≠ "java/lang/invoke/MethodHandle" ∧ yX11_has.cls ≠ "java/lang/invoke/VarHandle" ∧ (parseMethodDescriptor yX11_has.desc).map (fun d => d.parameters.length) = some 2 := by decide +kernel
theorem hdV_X11_has : yX11_has.cls = RX11 ∧ yX11_has.cls ≠ "java/lang/invoke/MethodHandle" ∧ yX11_has.cls ≠ "java/lang/invoke/VarHandle" ∧ (parseMethodDescriptor yX11_has.desc).map (fun d => d.parameters.length) = some 2 := ⟨rfl, hdS_X11_has⟩
set_option maxHeartbeats 4000000 in
set_option maxRecDepth 100000 in
theorem c_X11_has (l : Launch) (D : va_G) (a : Nat → ClassId) (t : Nat) (x0 : Int32) (x1 : Int32) (r : Int32) (hf : f_X11_has x0 x1 = some r) : Ki l yX11_has wsX11_has 0 0 D a t [.int x0, .int x1] [] [] r := by
  refine Ki.mk (cc := cX11_has) (nL := 2) (ty := .boolean) (own := RX11) (by decide) rfl rfl (Nat.le_of_ble_eq_true rfl) ?_
  intro p e s m args below meth c A Q ls hX hP hD hS hl hret
  have hx := hX.1.1
  have hb := hX.1.2.1
  have hown := hX.1.2.2.2.1
  have hts := hX.1.2.2.2.2
  have hN := hX.2.2.1
  have hA := hX.2.2.2.2
  have hl : lv_has ls 2 [(0, .int x0), (1, .int x1)] := hl
  unfold f_X11_has at hf
  refine lv_iload_n hx hb dX11_has_0 rfl (lv_at hl 0 rfl) ?_
  refine lv_iload_n hx hb dX11_has_1 rfl (lv_at hl 1 rfl) ?_
  refine lv_ishr hx hb dX11_has_2 ?_
  refine lv_iconst (v := (1 : Int32)) hx hb dX11_has_3 (by decide) ?_
  refine lv_iand hx hb dX11_has_4 ?_
  refine lv_iconst (v := (1 : Int32)) hx hb dX11_has_5 (by decide) ?_
  refine lv_icmp_ne (tgt := 13) hx hb dX11_has_6 (by decide) (fun c1 => ?_) (fun c1 => ?_)
  · replace hf := o_ifn hf c1
    refine lv_iconst (v := (0 : Int32)) hx hb dX11_has_13 (by decide) ?_
    cases hf
    exact hret _ _ _ _ narrow_b0 hP hD hS dX11_has_14
  replace hf := o_ifp hf c1
  refine lv_iconst (v := (1 : Int32)) hx hb dX11_has_9 (by decide) ?_
  refine lv_goto (tgt := 14) hx hb dX11_has_10 (by decide) ?_
  cases hf
  exact hret _ _ _ _ narrow_b1 hP hD hS dX11_has_14
def f_X11_ones_4  : Nat → Int32 → Int32 → Int32 → Option (Int32)
  | 0, _, _, _ => none
  | n_4 + 1, x0, x1, x2 =>
    if (9 : Int32) ≤ x2 then (some x1)
    else (o_nm ((x1 + ((x0 >>> (x2 &&& 31)) &&& (1 : Int32)))) fun v2 =>
    o_nm (x2 + (1 : Int32)) fun v3 =>
    f_X11_ones_4  n_4 x0 v2 v3)
def f_X11_ones (x0 : Int32) : Option (Int32) :=
  f_X11_ones_4 1000 x0 (0 : Int32) (0 : Int32)
theorem hdS_X11_ones : yX11_ones.cls ≠ "java/lang/invoke/MethodHandle" ∧ yX11_ones.cls ≠ "java/lang/invoke/VarHandle" ∧ (parseMethodDescriptor yX11_ones.desc).map (fun d => d.parameters.length) = some 1 := by decide +kernel
theorem hdV_X11_ones : yX11_ones.cls = RX11 ∧ yX11_ones.cls ≠ "java/lang/invoke/MethodHandle" ∧ yX11_ones.cls ≠ "java/lang/invoke/VarHandle" ∧ (parseMethodDescriptor yX11_ones.desc).map (fun d => d.parameters.length) = some 1 := ⟨rfl, hdS_X11_ones⟩
set_option maxHeartbeats 4000000 in
set_option maxRecDepth 100000 in
theorem c_X11_ones (l : Launch) (D : va_G) (a : Nat → ClassId) (t : Nat) (x0 : Int32) (r : Int32) (hf : f_X11_ones x0 = some r) : Ki l yX11_ones wsX11_ones 0 0 D a t [.int x0] [] [] r := by
  refine Ki.mk (cc := cX11_ones) (nL := 3) (ty := .int) (own := RX11) (by decide) rfl rfl (Nat.le_of_ble_eq_true rfl) ?_
  intro p e s m args below meth c A Q ls hX hP hD hS hl hret
  have hx := hX.1.1
  have hb := hX.1.2.1
  have hown := hX.1.2.2.2.1
  have hts := hX.1.2.2.2.2
  have hN := hX.2.2.1
  have hA := hX.2.2.2.2
  have hl : lv_has ls 3 [(0, .int x0)] := hl
  have L_4 : ∀ (n_4 : Nat) (x0 : Int32) (x1 : Int32) (x2 : Int32) (H : Heap) (locs : List Loc) (ls : Array Slot), f_X11_ones_4 n_4 x0 x1 x2 = some r → va_P D vwCl [] H → va_D A [] → va_S A s.heap H locs → lv_has ls 3 [(0, .int x0), (1, .int x1), (2, .int x2)] → W p l e { frames := 0, cells := 0, slots := 0, locals := 0 } s m args below meth c H locs 0 0 Q (F0 m 4 ls []) := by
    intro n_4
    induction n_4 with
    | zero => intro x0 x1 x2 H locs ls hf hP hD hS hl; rw [f_X11_ones_4] at hf; cases hf
    | succ n_4 ih_4 =>
      intro x0 x1 x2 H locs ls hf hP hD hS hl
      rw [f_X11_ones_4] at hf
      refine lv_iload_n hx hb dX11_ones_4 rfl (lv_at hl 2 rfl) ?_
      refine lv_bipush (v := (9 : Int32)) hx hb dX11_ones_5 (by decide) ?_
      refine lv_icmp_ge (tgt := 24) hx hb dX11_ones_7 (by decide) (fun c1 => ?_) (fun c1 => ?_)
      · replace hf := o_ifp hf c1
        refine lv_iload_n hx hb dX11_ones_24 rfl (lv_at hl 1 rfl) ?_
        cases hf
        exact hret _ _ _ _ (vp_nar_int _) hP hD hS dX11_ones_25
      replace hf := o_ifn hf c1
      refine lv_iload_n hx hb dX11_ones_10 rfl (lv_at hl 1 rfl) ?_
      refine lv_iload_n hx hb dX11_ones_11 rfl (lv_at hl 0 rfl) ?_
      refine lv_iload_n hx hb dX11_ones_12 rfl (lv_at hl 2 rfl) ?_
      refine lv_ishr hx hb dX11_ones_13 ?_
      refine lv_iconst (v := (1 : Int32)) hx hb dX11_ones_14 (by decide) ?_
      refine lv_iand hx hb dX11_ones_15 ?_
      refine lv_iadd hx hb dX11_ones_16 ?_
      refine lv_topi (fun v2 ev2 => ?_)
      replace hf := o_nmh hf v2 ev2
      refine lv_istore_n (lv' := [(1, .int v2), (0, .int x0), (2, .int x2)]) hx hb dX11_ones_17 rfl hl (by decide) rfl (fun ls hl => ?_)
      obtain ⟨v3, ev3⟩ : ∃ y : Int32, y = x2 + (1 : Int32) := ⟨_, rfl⟩
      replace hf := o_nmh hf v3 ev3
      refine lv_iinc (v := v3) (lv' := [(2, .int v3), (1, .int v2), (0, .int x0)]) hx hb dX11_ones_18 hl (k := 2) rfl (by rw [ev3]; rfl) (by decide) rfl (fun ls hl => ?_)
      refine lv_goto (tgt := 4) hx hb dX11_ones_21 (by decide) ?_
      exact ih_4 x0 v2 v3 _ _ _ hf hP hD hS (lv_sub hl [2, 1, 0] rfl)
  unfold f_X11_ones at hf
  refine lv_iconst (v := (0 : Int32)) hx hb dX11_ones_0 (by decide) ?_
  refine lv_istore_n (lv' := [(1, .int (0 : Int32)), (0, .int x0)]) hx hb dX11_ones_1 rfl hl (by decide) rfl (fun ls hl => ?_)
  refine lv_iconst (v := (0 : Int32)) hx hb dX11_ones_2 (by decide) ?_
  refine lv_istore_n (lv' := [(2, .int (0 : Int32)), (1, .int (0 : Int32)), (0, .int x0)]) hx hb dX11_ones_3 rfl hl (by decide) rfl (fun ls hl => ?_)
  exact L_4 1000 x0 (0 : Int32) (0 : Int32) _ _ _ hf hP hD hS (lv_sub hl [2, 1, 0] rfl)
def f_X11_least_2  : Nat → Int32 → Int32 → Option (Int32)
  | 0, _, _ => none
  | n_2 + 1, x0, x1 =>
    (f_X11_has x0 x1).bind fun o1 =>
    if o1 = 0 then (o_nm (x1 + (1 : Int32)) fun v3 =>
    f_X11_least_2  n_2 x0 v3)
    else (some x1)
def f_X11_least (x0 : Int32) : Option (Int32) :=
  f_X11_least_2 1000 x0 (0 : Int32)
theorem hdS_X11_least : yX11_least.cls ≠ "java/lang/invoke/MethodHandle" ∧ yX11_least.cls ≠ "java/lang/invoke/VarHandle" ∧ (parseMethodDescriptor yX11_least.desc).map (fun d => d.parameters.length) = some 1 := by decide +kernel
theorem hdV_X11_least : yX11_least.cls = RX11 ∧ yX11_least.cls ≠ "java/lang/invoke/MethodHandle" ∧ yX11_least.cls ≠ "java/lang/invoke/VarHandle" ∧ (parseMethodDescriptor yX11_least.desc).map (fun d => d.parameters.length) = some 1 := ⟨rfl, hdS_X11_least⟩
set_option maxHeartbeats 4000000 in
set_option maxRecDepth 100000 in
theorem c_X11_least (l : Launch) (D : va_G) (a : Nat → ClassId) (t : Nat) (x0 : Int32) (r : Int32) (hf : f_X11_least x0 = some r) : Ki l yX11_least wsX11_least 1 21 D a t [.int x0] [] [] r := by
  refine Ki.mk (cc := cX11_least) (nL := 2) (ty := .int) (own := RX11) (by decide) rfl rfl (Nat.le_of_ble_eq_true rfl) ?_
  intro p e s m args below meth c A Q ls hX hP hD hS hl hret
  have hx := hX.1.1
  have hb := hX.1.2.1
  have hown := hX.1.2.2.2.1
  have hts := hX.1.2.2.2.2
  have hN := hX.2.2.1
  have hA := hX.2.2.2.2
  have hl : lv_has ls 2 [(0, .int x0)] := hl
  have L_2 : ∀ (n_2 : Nat) (x0 : Int32) (x1 : Int32) (H : Heap) (locs : List Loc) (ls : Array Slot), f_X11_least_2 n_2 x0 x1 = some r → va_P D vwCl [] H → va_D A [] → va_S A s.heap H locs → lv_has ls 2 [(0, .int x0), (1, .int x1)] → W p l e { frames := 1, cells := 0, slots := 0, locals := 21 } s m args below meth c H locs 0 0 Q (F0 m 2 ls []) := by
    intro n_2
    induction n_2 with
    | zero => intro x0 x1 H locs ls hf hP hD hS hl; rw [f_X11_least_2] at hf; cases hf
    | succ n_2 ih_2 =>
      intro x0 x1 H locs ls hf hP hD hS hl
      rw [f_X11_least_2] at hf
      refine lv_iload_n hx hb dX11_least_2 rfl (lv_at hl 0 rfl) ?_
      refine lv_iload_n hx hb dX11_least_3 rfl (lv_at hl 1 rfl) ?_
      obtain ⟨o1, ho1, hf⟩ := o_bd hf
      refine call_iS hX (c_X11_has l D a t x0 x1 o1 ho1) (va_cwS 2 hts gX11_least_X11_has rfl rfl rfl hdS_X11_has ⟨by decide, by decide⟩) (Cut.none hA hP hD hS) hS rfl hl.1 rfl (Nat.le_of_ble_eq_true rfl) dX11_least_4 (by decide) (fun H locs hP hD hS => ?_)
      refine lv_if_ne (tgt := 16) hx hb dX11_least_7 (by decide) (fun c2 => ?_) (fun c2 => ?_)
      · replace hf := o_ifn hf c2
        refine lv_iload_n hx hb dX11_least_16 rfl (lv_at hl 1 rfl) ?_
        cases hf
        exact hret _ _ _ _ (vp_nar_int _) hP hD hS dX11_least_17
      replace hf := o_ifp hf c2
      obtain ⟨v3, ev3⟩ : ∃ y : Int32, y = x1 + (1 : Int32) := ⟨_, rfl⟩
      replace hf := o_nmh hf v3 ev3
      refine lv_iinc (v := v3) (lv' := [(1, .int v3), (0, .int x0)]) hx hb dX11_least_10 hl (k := 1) rfl (by rw [ev3]; rfl) (by decide) rfl (fun ls hl => ?_)
      refine lv_goto (tgt := 2) hx hb dX11_least_13 (by decide) ?_
      exact ih_2 x0 v3 _ _ _ hf hP hD hS (lv_sub hl [1, 0] rfl)
  unfold f_X11_least at hf
  refine lv_iconst (v := (0 : Int32)) hx hb dX11_least_0 (by decide) ?_
  refine lv_istore_n (lv' := [(1, .int (0 : Int32)), (0, .int x0)]) hx hb dX11_least_1 rfl hl (by decide) rfl (fun ls hl => ?_)
  exact L_2 1000 x0 (0 : Int32) _ _ _ hf hP hD hS (lv_sub hl [1, 0] rfl)
def f_X11_feed (t_textSize : Int32) (text : Nat → Int32) (x1 : Int32) : Option (Int32 × Int32 × (Nat → Int32)) :=
  (f_X11_in (Int32.toInt64 x1) (0 : Int64) (255 : Int64)).bind fun o1 =>
  if o1 = 0 then (some ((-1000000002 : Int32), t_textSize, text))
  else (if t_textSize = (230 : Int32) then (some ((-1000000004 : Int32), t_textSize, text))
  else ((o_st text 230 t_textSize x1).bind fun w4 =>
  o_nm ((t_textSize + (1 : Int32))) fun v5 =>
  some (v5, v5, w4)))
theorem hdS_X11_feed : yX11_feed.cls ≠ "java/lang/invoke/MethodHandle" ∧ yX11_feed.cls ≠ "java/lang/invoke/VarHandle" ∧ (parseMethodDescriptor yX11_feed.desc).map (fun d => d.parameters.length) = some 1 := by decide +kernel
theorem hdV_X11_feed : yX11_feed.cls = RX11 ∧ yX11_feed.cls ≠ "java/lang/invoke/MethodHandle" ∧ yX11_feed.cls ≠ "java/lang/invoke/VarHandle" ∧ (parseMethodDescriptor yX11_feed.desc).map (fun d => d.parameters.length) = some 1 := ⟨rfl, hdS_X11_feed⟩
set_option maxHeartbeats 4000000 in
set_option maxRecDepth 100000 in
theorem c_X11_feed (l : Launch) (D : va_G) (a : Nat → ClassId) (t : Nat) (q_t : Nat) (q_w : Nat) (q_isKept : Nat) (t_all : Int32) (t_corners : Int32) (t_hearers : Int32) (t_newAll : Int32) (t_newCorners : Int32) (t_newHearers : Int32) (q_beer : Nat) (q_cold : Nat) (q_stands : Nat) (q_pinched : Nat) (q_says : Nat) (q_text : Nat) (t_textSize : Int32) (t_at : Int32) (t_first : Int32) (t_faultOf : Int32) (t_fault : Int32) (t_spoke : Int32) (t_holds : Int32) (t_undoMany : Int32) (q_seenDecree : Nat) (q_seenAt : Nat) (q_seenSpoke : Nat) (t_seen : Int32) (q_inSets : Nat) (q_book : Nat) (t_written : Int32) (text : Nat → Int32) (x1 : Int32) (r : Int32) (o_t_textSize : Int32) (o_text : Nat → Int32) (hf : f_X11_feed t_textSize text x1 = some (r, o_t_textSize, o_text)) : Ki l yX11_feed wsX11_feed 1 25 D a t [.ref q_t, .int x1] [(q_t, .inr (11, [.ref q_w, .ref q_isKept, .int t_all, .int t_corners, .int t_hearers, .int t_newAll, .int t_newCorners, .int t_newHearers, .ref q_beer, .ref q_cold, .ref q_stands, .ref q_pinched, .ref q_says, .ref q_text, .int t_textSize, .int t_at, .int t_first, .int t_faultOf, .int t_fault, .int t_spoke, .int t_holds, .int t_undoMany, .ref q_seenDecree, .ref q_seenAt, .ref q_seenSpoke, .int t_seen, .ref q_inSets, .ref q_book, .int t_written])), (q_text, .inl (a 0, 230, .inl text))] [(q_t, .inr (11, [.ref q_w, .ref q_isKept, .int t_all, .int t_corners, .int t_hearers, .int t_newAll, .int t_newCorners, .int t_newHearers, .ref q_beer, .ref q_cold, .ref q_stands, .ref q_pinched, .ref q_says, .ref q_text, .int o_t_textSize, .int t_at, .int t_first, .int t_faultOf, .int t_fault, .int t_spoke, .int t_holds, .int t_undoMany, .ref q_seenDecree, .ref q_seenAt, .ref q_seenSpoke, .int t_seen, .ref q_inSets, .ref q_book, .int t_written])), (q_text, .inl (a 0, 230, .inl o_text))] r := by
  refine Ki.mk (cc := cX11_feed) (nL := 2) (ty := .int) (own := RX11) (by decide) rfl rfl (Nat.le_of_ble_eq_true rfl) ?_
  intro p e s m args below meth c A Q ls hX hP hD hS hl hret
  have hx := hX.1.1
  have hb := hX.1.2.1
  have hown := hX.1.2.2.2.1
  have hts := hX.1.2.2.2.2
  have hN := hX.2.2.1
  have hA := hX.2.2.2.2
  have hl : lv_has ls 2 [(0, .ref q_t), (1, .int x1)] := hl
  have hk1 := hts (.constantLong RX11 58 (255)) (List.mem_of_getElem? (i := 1) rfl)
  have hk2 := hts (.constant RX11 64 (-1000000002)) (List.mem_of_getElem? (i := 2) rfl)
  have hk3 := hts (.fieldLink RX11 65 "GainsaidOnceModel" "textSize" "I") (List.mem_of_getElem? (i := 3) rfl)
  have hk4 := hts (.constant RX11 68 (-1000000004)) (List.mem_of_getElem? (i := 4) rfl)
  have hk5 := hts (.fieldLink RX11 32 "GainsaidOnceModel" "text" "[I") (List.mem_of_getElem? (i := 5) rfl)
  have hiX11 : ∀ w ∈ wsX110, w ∈ wsX11_feed := (fun _ h => List.mem_cons_of_mem _ (List.mem_append_right _ h))
  unfold f_X11_feed at hf
  refine lv_iload_n hx hb dX11_feed_0 rfl (lv_at hl 1 rfl) ?_
  refine lv_i2l (v := Int32.toInt64 x1) hx hb dX11_feed_1 rfl ?_
  refine lv_lconst (v := (0 : Int64)) hx hb dX11_feed_2 (by decide) ?_
  refine lv_ldc2 (v := (255 : Int64)) hx hb hown hk1 dX11_feed_3 ?_
  obtain ⟨o1, ho1, hf⟩ := o_bd hf
  refine call_iS hX (c_X11_in l D a t (Int32.toInt64 x1) (0 : Int64) (255 : Int64) o1 ho1) (va_cwS 3 hts gX11_feed_X11_in rfl rfl rfl hdS_X11_in ⟨by decide, by decide⟩) (Cut.none hA hP hD hS) hS rfl hl.1 rfl (Nat.le_of_ble_eq_true rfl) dX11_feed_6 (by decide) (fun H locs hP hD hS => ?_)
  refine lv_if_ne (tgt := 15) hx hb dX11_feed_9 (by decide) (fun c2 => ?_) (fun c2 => ?_)
  · replace hf := o_ifn hf c2
    refine lv_aload_n hx hb dX11_feed_15 rfl (lv_at hl 0 rfl) ?_
    refine g_get hX hiX11 hP 0 rfl rfl 14 (by decide) hk3 rfl rfl dX11_feed_16 ?_
    refine lv_sipush (v := (230 : Int32)) hx hb dX11_feed_19 (by decide) ?_
    refine lv_icmp_ne (tgt := 28) hx hb dX11_feed_22 (by decide) (fun c3 => ?_) (fun c3 => ?_)
    · replace hf := o_ifn hf c3
      refine lv_aload_n hx hb dX11_feed_28 rfl (lv_at hl 0 rfl) ?_
      refine g_get hX hiX11 hP 0 rfl rfl 13 (by decide) hk5 rfl rfl dX11_feed_29 ?_
      refine lv_aload_n hx hb dX11_feed_32 rfl (lv_at hl 0 rfl) ?_
      refine g_get hX hiX11 hP 0 rfl rfl 14 (by decide) hk3 rfl rfl dX11_feed_33 ?_
      refine lv_iload_n hx hb dX11_feed_36 rfl (lv_at hl 1 rfl) ?_
      obtain ⟨hiw4, hf⟩ := o_sth hf
      refine g_iast hX hP hD hS 1 rfl hiw4 dX11_feed_37 (fun w4 ew4 H locs hP hD hS => ?_)
      replace hf := hf w4 ew4
      replace hP : va_P D vwCl [(q_t, .inr (11, [.ref q_w, .ref q_isKept, .int t_all, .int t_corners, .int t_hearers, .int t_newAll, .int t_newCorners, .int t_newHearers, .ref q_beer, .ref q_cold, .ref q_stands, .ref q_pinched, .ref q_says, .ref q_text, .int t_textSize, .int t_at, .int t_first, .int t_faultOf, .int t_fault, .int t_spoke, .int t_holds, .int t_undoMany, .ref q_seenDecree, .ref q_seenAt, .ref q_seenSpoke, .int t_seen, .ref q_inSets, .ref q_book, .int t_written])), (q_text, .inl (a 0, 230, .inl w4))] H := hP
      replace hD : va_D A [(q_t, .inr (11, [.ref q_w, .ref q_isKept, .int t_all, .int t_corners, .int t_hearers, .int t_newAll, .int t_newCorners, .int t_newHearers, .ref q_beer, .ref q_cold, .ref q_stands, .ref q_pinched, .ref q_says, .ref q_text, .int t_textSize, .int t_at, .int t_first, .int t_faultOf, .int t_fault, .int t_spoke, .int t_holds, .int t_undoMany, .ref q_seenDecree, .ref q_seenAt, .ref q_seenSpoke, .int t_seen, .ref q_inSets, .ref q_book, .int t_written])), (q_text, .inl (a 0, 230, .inl w4))] := hD
      refine lv_aload_n hx hb dX11_feed_38 rfl (lv_at hl 0 rfl) ?_
      refine lv_dup hx hb dX11_feed_39 rfl ?_
      refine g_get hX hiX11 hP 0 rfl rfl 14 (by decide) hk3 rfl rfl dX11_feed_40 ?_
      refine lv_iconst (v := (1 : Int32)) hx hb dX11_feed_43 (by decide) ?_
      refine lv_iadd hx hb dX11_feed_44 ?_
      refine lv_topi (fun v5 ev5 => ?_)
      replace hf := o_nmh hf v5 ev5
      refine g_put hX hiX11 tyX11 tyX11_ok nmX11 hP hD hS 0 rfl rfl 14 (by decide) hk3 rfl rfl rfl rfl (Nat.le_of_ble_eq_true rfl) dX11_feed_45 (fun H locs hP hD hS => ?_)
      replace hP : va_P D vwCl [(q_t, .inr (11, [.ref q_w, .ref q_isKept, .int t_all, .int t_corners, .int t_hearers, .int t_newAll, .int t_newCorners, .int t_newHearers, .ref q_beer, .ref q_cold, .ref q_stands, .ref q_pinched, .ref q_says, .ref q_text, .int v5, .int t_at, .int t_first, .int t_faultOf, .int t_fault, .int t_spoke, .int t_holds, .int t_undoMany, .ref q_seenDecree, .ref q_seenAt, .ref q_seenSpoke, .int t_seen, .ref q_inSets, .ref q_book, .int t_written])), (q_text, .inl (a 0, 230, .inl w4))] H := hP
      replace hD : va_D A [(q_t, .inr (11, [.ref q_w, .ref q_isKept, .int t_all, .int t_corners, .int t_hearers, .int t_newAll, .int t_newCorners, .int t_newHearers, .ref q_beer, .ref q_cold, .ref q_stands, .ref q_pinched, .ref q_says, .ref q_text, .int v5, .int t_at, .int t_first, .int t_faultOf, .int t_fault, .int t_spoke, .int t_holds, .int t_undoMany, .ref q_seenDecree, .ref q_seenAt, .ref q_seenSpoke, .int t_seen, .ref q_inSets, .ref q_book, .int t_written])), (q_text, .inl (a 0, 230, .inl w4))] := hD
      refine lv_aload_n hx hb dX11_feed_48 rfl (lv_at hl 0 rfl) ?_
      refine g_get hX hiX11 hP 0 rfl rfl 14 (by decide) hk3 rfl rfl dX11_feed_49 ?_
      cases hf
      exact hret _ _ _ _ (vp_nar_int _) hP hD hS dX11_feed_52
    replace hf := o_ifp hf c3
    refine lv_ldc (v := (-1000000004 : Int32)) hx hb hown hk4 dX11_feed_25 ?_
    cases hf
    exact hret _ _ _ _ (vp_nar_int _) hP hD hS dX11_feed_27
  replace hf := o_ifp hf c2
  refine lv_ldc (v := (-1000000002 : Int32)) hx hb hown hk2 dX11_feed_12 ?_
  cases hf
  exact hret _ _ _ _ (vp_nar_int _) hP hD hS dX11_feed_14
def f_X11_here_38 (t_textSize : Int32) (text : Nat → Int32) (t_at : Int32) : Option (Int32 × Int32) :=
  if t_textSize ≤ t_at then (some ((-1 : Int32), t_at))
  else ((o_ld text 230 t_at).bind fun v2 =>
  some (v2, t_at))
def f_X11_here_0 (t_textSize : Int32) (text : Nat → Int32) : Nat → Int32 → Option (Int32 × Int32)
  | 0, _ => none
  | n_0 + 1, t_at =>
    if t_textSize ≤ t_at then (f_X11_here_38 t_textSize text t_at)
    else ((o_ld text 230 t_at).bind fun v4 =>
    if v4 = (32 : Int32) then (o_nm ((t_at + (1 : Int32))) fun v6 =>
    f_X11_here_0 t_textSize text n_0 v6)
    else (f_X11_here_38 t_textSize text t_at))
def f_X11_here (t_textSize : Int32) (t_at : Int32) (text : Nat → Int32) : Option (Int32 × Int32) :=
  f_X11_here_0 t_textSize text 1000 t_at
theorem hdS_X11_here : yX11_here.cls ≠ "java/lang/invoke/MethodHandle" ∧ yX11_here.cls ≠ "java/lang/invoke/VarHandle" ∧ (parseMethodDescriptor yX11_here.desc).map (fun d => d.parameters.length) = some 0 := by decide +kernel
theorem hdV_X11_here : yX11_here.cls = RX11 ∧ yX11_here.cls ≠ "java/lang/invoke/MethodHandle" ∧ yX11_here.cls ≠ "java/lang/invoke/VarHandle" ∧ (parseMethodDescriptor yX11_here.desc).map (fun d => d.parameters.length) = some 0 := ⟨rfl, hdS_X11_here⟩
set_option maxHeartbeats 4000000 in
set_option maxRecDepth 100000 in
theorem c_X11_here (l : Launch) (D : va_G) (a : Nat → ClassId) (t : Nat) (q_t : Nat) (q_w : Nat) (q_isKept : Nat) (t_all : Int32) (t_corners : Int32) (t_hearers : Int32) (t_newAll : Int32) (t_newCorners : Int32) (t_newHearers : Int32) (q_beer : Nat) (q_cold : Nat) (q_stands : Nat) (q_pinched : Nat) (q_says : Nat) (q_text : Nat) (t_textSize : Int32) (t_at : Int32) (t_first : Int32) (t_faultOf : Int32) (t_fault : Int32) (t_spoke : Int32) (t_holds : Int32) (t_undoMany : Int32) (q_seenDecree : Nat) (q_seenAt : Nat) (q_seenSpoke : Nat) (t_seen : Int32) (q_inSets : Nat) (q_book : Nat) (t_written : Int32) (text : Nat → Int32) (r : Int32) (o_t_at : Int32) (hf : f_X11_here t_textSize t_at text = some (r, o_t_at)) : Ki l yX11_here wsX11_here 0 0 D a t [.ref q_t] [(q_t, .inr (11, [.ref q_w, .ref q_isKept, .int t_all, .int t_corners, .int t_hearers, .int t_newAll, .int t_newCorners, .int t_newHearers, .ref q_beer, .ref q_cold, .ref q_stands, .ref q_pinched, .ref q_says, .ref q_text, .int t_textSize, .int t_at, .int t_first, .int t_faultOf, .int t_fault, .int t_spoke, .int t_holds, .int t_undoMany, .ref q_seenDecree, .ref q_seenAt, .ref q_seenSpoke, .int t_seen, .ref q_inSets, .ref q_book, .int t_written])), (q_text, .inl (a 0, 230, .inl text))] [(q_t, .inr (11, [.ref q_w, .ref q_isKept, .int t_all, .int t_corners, .int t_hearers, .int t_newAll, .int t_newCorners, .int t_newHearers, .ref q_beer, .ref q_cold, .ref q_stands, .ref q_pinched, .ref q_says, .ref q_text, .int t_textSize, .int o_t_at, .int t_first, .int t_faultOf, .int t_fault, .int t_spoke, .int t_holds, .int t_undoMany, .ref q_seenDecree, .ref q_seenAt, .ref q_seenSpoke, .int t_seen, .ref q_inSets, .ref q_book, .int t_written])), (q_text, .inl (a 0, 230, .inl text))] r := by
  refine Ki.mk (cc := cX11_here) (nL := 1) (ty := .int) (own := RX11) (by decide) rfl rfl (Nat.le_of_ble_eq_true rfl) ?_
  intro p e s m args below meth c A Q ls hX hP hD hS hl hret
  have hx := hX.1.1
  have hb := hX.1.2.1
  have hown := hX.1.2.2.2.1
  have hts := hX.1.2.2.2.2
  have hN := hX.2.2.1
  have hA := hX.2.2.2.2
  have hl : lv_has ls 1 [(0, .ref q_t)] := hl
  have hk1 := hts (.fieldLink RX11 69 "GainsaidOnceModel" "at" "I") (List.mem_of_getElem? (i := 1) rfl)
  have hk2 := hts (.fieldLink RX11 65 "GainsaidOnceModel" "textSize" "I") (List.mem_of_getElem? (i := 2) rfl)
  have hk3 := hts (.fieldLink RX11 32 "GainsaidOnceModel" "text" "[I") (List.mem_of_getElem? (i := 3) rfl)
  have hiX11 : ∀ w ∈ wsX110, w ∈ wsX11_here := (fun _ h => List.mem_cons_of_mem _ (List.mem_append_right _ h))
  have L_38 : ∀ (t_at : Int32) (H : Heap) (locs : List Loc) (ls : Array Slot), f_X11_here_38 t_textSize text t_at = some (r, o_t_at) → va_P D vwCl [(q_t, .inr (11, [.ref q_w, .ref q_isKept, .int t_all, .int t_corners, .int t_hearers, .int t_newAll, .int t_newCorners, .int t_newHearers, .ref q_beer, .ref q_cold, .ref q_stands, .ref q_pinched, .ref q_says, .ref q_text, .int t_textSize, .int t_at, .int t_first, .int t_faultOf, .int t_fault, .int t_spoke, .int t_holds, .int t_undoMany, .ref q_seenDecree, .ref q_seenAt, .ref q_seenSpoke, .int t_seen, .ref q_inSets, .ref q_book, .int t_written])), (q_text, .inl (a 0, 230, .inl text))] H → va_D A [(q_t, .inr (11, [.ref q_w, .ref q_isKept, .int t_all, .int t_corners, .int t_hearers, .int t_newAll, .int t_newCorners, .int t_newHearers, .ref q_beer, .ref q_cold, .ref q_stands, .ref q_pinched, .ref q_says, .ref q_text, .int t_textSize, .int t_at, .int t_first, .int t_faultOf, .int t_fault, .int t_spoke, .int t_holds, .int t_undoMany, .ref q_seenDecree, .ref q_seenAt, .ref q_seenSpoke, .int t_seen, .ref q_inSets, .ref q_book, .int t_written])), (q_text, .inl (a 0, 230, .inl text))] → va_S A s.heap H locs → lv_has ls 1 [(0, .ref q_t)] → W p l e { frames := 0, cells := 0, slots := 0, locals := 0 } s m args below meth c H locs 0 0 Q (F0 m 38 ls []) := by
    intro t_at H locs ls hf hP hD hS hl
    unfold f_X11_here_38 at hf
    refine lv_aload_n hx hb dX11_here_38 rfl (lv_at hl 0 rfl) ?_
    refine g_get hX hiX11 hP 0 rfl rfl 15 (by decide) hk1 rfl rfl dX11_here_39 ?_
    refine lv_aload_n hx hb dX11_here_42 rfl (lv_at hl 0 rfl) ?_
    refine g_get hX hiX11 hP 0 rfl rfl 14 (by decide) hk2 rfl rfl dX11_here_43 ?_
    refine lv_icmp_ge (tgt := 61) hx hb dX11_here_46 (by decide) (fun c1 => ?_) (fun c1 => ?_)
    · replace hf := o_ifp hf c1
      refine lv_iconst (v := (-1 : Int32)) hx hb dX11_here_61 (by decide) ?_
      cases hf
      exact hret _ _ _ _ (vp_nar_int _) hP hD hS dX11_here_62
    replace hf := o_ifn hf c1
    refine lv_aload_n hx hb dX11_here_49 rfl (lv_at hl 0 rfl) ?_
    refine g_get hX hiX11 hP 0 rfl rfl 13 (by decide) hk3 rfl rfl dX11_here_50 ?_
    refine lv_aload_n hx hb dX11_here_53 rfl (lv_at hl 0 rfl) ?_
    refine g_get hX hiX11 hP 0 rfl rfl 15 (by decide) hk1 rfl rfl dX11_here_54 ?_
    obtain ⟨hiv2, hf⟩ := o_ldh hf
    refine g_iald hX hP 1 rfl hiv2 dX11_here_57 (fun v2 ev2 => ?_)
    replace hf := hf v2 ev2
    refine lv_goto (tgt := 62) hx hb dX11_here_58 (by decide) ?_
    cases hf
    exact hret _ _ _ _ (vp_nar_int _) hP hD hS dX11_here_62
  have L_0 : ∀ (n_0 : Nat) (t_at : Int32) (H : Heap) (locs : List Loc) (ls : Array Slot), f_X11_here_0 t_textSize text n_0 t_at = some (r, o_t_at) → va_P D vwCl [(q_t, .inr (11, [.ref q_w, .ref q_isKept, .int t_all, .int t_corners, .int t_hearers, .int t_newAll, .int t_newCorners, .int t_newHearers, .ref q_beer, .ref q_cold, .ref q_stands, .ref q_pinched, .ref q_says, .ref q_text, .int t_textSize, .int t_at, .int t_first, .int t_faultOf, .int t_fault, .int t_spoke, .int t_holds, .int t_undoMany, .ref q_seenDecree, .ref q_seenAt, .ref q_seenSpoke, .int t_seen, .ref q_inSets, .ref q_book, .int t_written])), (q_text, .inl (a 0, 230, .inl text))] H → va_D A [(q_t, .inr (11, [.ref q_w, .ref q_isKept, .int t_all, .int t_corners, .int t_hearers, .int t_newAll, .int t_newCorners, .int t_newHearers, .ref q_beer, .ref q_cold, .ref q_stands, .ref q_pinched, .ref q_says, .ref q_text, .int t_textSize, .int t_at, .int t_first, .int t_faultOf, .int t_fault, .int t_spoke, .int t_holds, .int t_undoMany, .ref q_seenDecree, .ref q_seenAt, .ref q_seenSpoke, .int t_seen, .ref q_inSets, .ref q_book, .int t_written])), (q_text, .inl (a 0, 230, .inl text))] → va_S A s.heap H locs → lv_has ls 1 [(0, .ref q_t)] → W p l e { frames := 0, cells := 0, slots := 0, locals := 0 } s m args below meth c H locs 0 0 Q (F0 m 0 ls []) := by
    intro n_0
    induction n_0 with
    | zero => intro t_at H locs ls hf hP hD hS hl; rw [f_X11_here_0] at hf; cases hf
    | succ n_0 ih_0 =>
      intro t_at H locs ls hf hP hD hS hl
      rw [f_X11_here_0] at hf
      refine lv_aload_n hx hb dX11_here_0 rfl (lv_at hl 0 rfl) ?_
      refine g_get hX hiX11 hP 0 rfl rfl 15 (by decide) hk1 rfl rfl dX11_here_1 ?_
      refine lv_aload_n hx hb dX11_here_4 rfl (lv_at hl 0 rfl) ?_
      refine g_get hX hiX11 hP 0 rfl rfl 14 (by decide) hk2 rfl rfl dX11_here_5 ?_
      refine lv_icmp_ge (tgt := 38) hx hb dX11_here_8 (by decide) (fun c3 => ?_) (fun c3 => ?_)
      · replace hf := o_ifp hf c3
        exact L_38 t_at _ _ _ hf hP hD hS (lv_sub hl [0] rfl)
      replace hf := o_ifn hf c3
      refine lv_aload_n hx hb dX11_here_11 rfl (lv_at hl 0 rfl) ?_
      refine g_get hX hiX11 hP 0 rfl rfl 13 (by decide) hk3 rfl rfl dX11_here_12 ?_
      refine lv_aload_n hx hb dX11_here_15 rfl (lv_at hl 0 rfl) ?_
      refine g_get hX hiX11 hP 0 rfl rfl 15 (by decide) hk1 rfl rfl dX11_here_16 ?_
      obtain ⟨hiv4, hf⟩ := o_ldh hf
      refine g_iald hX hP 1 rfl hiv4 dX11_here_19 (fun v4 ev4 => ?_)
      replace hf := hf v4 ev4
      refine lv_bipush (v := (32 : Int32)) hx hb dX11_here_20 (by decide) ?_
      refine lv_icmp_ne (tgt := 38) hx hb dX11_here_22 (by decide) (fun c5 => ?_) (fun c5 => ?_)
      · replace hf := o_ifn hf c5
        exact L_38 t_at _ _ _ hf hP hD hS (lv_sub hl [0] rfl)
      replace hf := o_ifp hf c5
      refine lv_aload_n hx hb dX11_here_25 rfl (lv_at hl 0 rfl) ?_
      refine lv_dup hx hb dX11_here_26 rfl ?_
      refine g_get hX hiX11 hP 0 rfl rfl 15 (by decide) hk1 rfl rfl dX11_here_27 ?_
      refine lv_iconst (v := (1 : Int32)) hx hb dX11_here_30 (by decide) ?_
      refine lv_iadd hx hb dX11_here_31 ?_
      refine lv_topi (fun v6 ev6 => ?_)
      replace hf := o_nmh hf v6 ev6
      refine g_put hX hiX11 tyX11 tyX11_ok nmX11 hP hD hS 0 rfl rfl 15 (by decide) hk1 rfl rfl rfl rfl (Nat.le_of_ble_eq_true rfl) dX11_here_32 (fun H locs hP hD hS => ?_)
      replace hP : va_P D vwCl [(q_t, .inr (11, [.ref q_w, .ref q_isKept, .int t_all, .int t_corners, .int t_hearers, .int t_newAll, .int t_newCorners, .int t_newHearers, .ref q_beer, .ref q_cold, .ref q_stands, .ref q_pinched, .ref q_says, .ref q_text, .int t_textSize, .int v6, .int t_first, .int t_faultOf, .int t_fault, .int t_spoke, .int t_holds, .int t_undoMany, .ref q_seenDecree, .ref q_seenAt, .ref q_seenSpoke, .int t_seen, .ref q_inSets, .ref q_book, .int t_written])), (q_text, .inl (a 0, 230, .inl text))] H := hP
      replace hD : va_D A [(q_t, .inr (11, [.ref q_w, .ref q_isKept, .int t_all, .int t_corners, .int t_hearers, .int t_newAll, .int t_newCorners, .int t_newHearers, .ref q_beer, .ref q_cold, .ref q_stands, .ref q_pinched, .ref q_says, .ref q_text, .int t_textSize, .int v6, .int t_first, .int t_faultOf, .int t_fault, .int t_spoke, .int t_holds, .int t_undoMany, .ref q_seenDecree, .ref q_seenAt, .ref q_seenSpoke, .int t_seen, .ref q_inSets, .ref q_book, .int t_written])), (q_text, .inl (a 0, 230, .inl text))] := hD
      refine lv_goto (tgt := 0) hx hb dX11_here_35 (by decide) ?_
      exact ih_0 v6 _ _ _ hf hP hD hS (lv_sub hl [0] rfl)
  unfold f_X11_here at hf
  exact L_0 1000 t_at _ _ _ hf hP hD hS (lv_sub hl [0] rfl)
def f_X11_want_21  (t_faultOf : Int32) (t_fault : Int32) : Option (Int32 × Int32 × Int32) :=
  if t_faultOf = 0 then (some ((1 : Int32), t_faultOf, t_fault))
  else (some ((0 : Int32), t_faultOf, t_fault))
def f_X11_want (t_faultOf : Int32) (t_fault : Int32) (x1 : Int32) (x2 : Int32) (x3 : Int32) : Option (Int32 × Int32 × Int32) :=
  if x1 = 0 then (if t_faultOf = 0 then (f_X11_want_21 x2 x3)
  else (f_X11_want_21 t_faultOf t_fault))
  else (f_X11_want_21 t_faultOf t_fault)
theorem hdS_X11_want : yX11_want.cls ≠ "java/lang/invoke/MethodHandle" ∧ yX11_want.cls ≠ "java/lang/invoke/VarHandle" ∧ (parseMethodDescriptor yX11_want.desc).map (fun d => d.parameters.length) = some 3 := by decide +kernel
theorem hdV_X11_want : yX11_want.cls = RX11 ∧ yX11_want.cls ≠ "java/lang/invoke/MethodHandle" ∧ yX11_want.cls ≠ "java/lang/invoke/VarHandle" ∧ (parseMethodDescriptor yX11_want.desc).map (fun d => d.parameters.length) = some 3 := ⟨rfl, hdS_X11_want⟩
set_option maxHeartbeats 4000000 in
set_option maxRecDepth 100000 in
theorem c_X11_want (l : Launch) (D : va_G) (a : Nat → ClassId) (t : Nat) (q_t : Nat) (q_w : Nat) (q_isKept : Nat) (t_all : Int32) (t_corners : Int32) (t_hearers : Int32) (t_newAll : Int32) (t_newCorners : Int32) (t_newHearers : Int32) (q_beer : Nat) (q_cold : Nat) (q_stands : Nat) (q_pinched : Nat) (q_says : Nat) (q_text : Nat) (t_textSize : Int32) (t_at : Int32) (t_first : Int32) (t_faultOf : Int32) (t_fault : Int32) (t_spoke : Int32) (t_holds : Int32) (t_undoMany : Int32) (q_seenDecree : Nat) (q_seenAt : Nat) (q_seenSpoke : Nat) (t_seen : Int32) (q_inSets : Nat) (q_book : Nat) (t_written : Int32) (x1 : Int32) (x2 : Int32) (x3 : Int32) (r : Int32) (o_t_faultOf : Int32) (o_t_fault : Int32) (hf : f_X11_want t_faultOf t_fault x1 x2 x3 = some (r, o_t_faultOf, o_t_fault)) : Ki l yX11_want wsX11_want 0 0 D a t [.ref q_t, .int x1, .int x2, .int x3] [(q_t, .inr (11, [.ref q_w, .ref q_isKept, .int t_all, .int t_corners, .int t_hearers, .int t_newAll, .int t_newCorners, .int t_newHearers, .ref q_beer, .ref q_cold, .ref q_stands, .ref q_pinched, .ref q_says, .ref q_text, .int t_textSize, .int t_at, .int t_first, .int t_faultOf, .int t_fault, .int t_spoke, .int t_holds, .int t_undoMany, .ref q_seenDecree, .ref q_seenAt, .ref q_seenSpoke, .int t_seen, .ref q_inSets, .ref q_book, .int t_written]))] [(q_t, .inr (11, [.ref q_w, .ref q_isKept, .int t_all, .int t_corners, .int t_hearers, .int t_newAll, .int t_newCorners, .int t_newHearers, .ref q_beer, .ref q_cold, .ref q_stands, .ref q_pinched, .ref q_says, .ref q_text, .int t_textSize, .int t_at, .int t_first, .int o_t_faultOf, .int o_t_fault, .int t_spoke, .int t_holds, .int t_undoMany, .ref q_seenDecree, .ref q_seenAt, .ref q_seenSpoke, .int t_seen, .ref q_inSets, .ref q_book, .int t_written]))] r := by
  refine Ki.mk (cc := cX11_want) (nL := 4) (ty := .boolean) (own := RX11) (by decide) rfl rfl (Nat.le_of_ble_eq_true rfl) ?_
  intro p e s m args below meth c A Q ls hX hP hD hS hl hret
  have hx := hX.1.1
  have hb := hX.1.2.1
  have hown := hX.1.2.2.2.1
  have hts := hX.1.2.2.2.2
  have hN := hX.2.2.1
  have hA := hX.2.2.2.2
  have hl : lv_has ls 4 [(0, .ref q_t), (1, .int x1), (2, .int x2), (3, .int x3)] := hl
  have hk1 := hts (.fieldLink RX11 72 "GainsaidOnceModel" "faultOf" "I") (List.mem_of_getElem? (i := 1) rfl)
  have hk2 := hts (.fieldLink RX11 35 "GainsaidOnceModel" "fault" "I") (List.mem_of_getElem? (i := 2) rfl)
  have hiX11 : ∀ w ∈ wsX110, w ∈ wsX11_want := (fun _ h => List.mem_cons_of_mem _ (List.mem_append_right _ h))
  have L_21 : ∀ (t_faultOf : Int32) (t_fault : Int32) (H : Heap) (locs : List Loc) (ls : Array Slot), f_X11_want_21 t_faultOf t_fault = some (r, o_t_faultOf, o_t_fault) → va_P D vwCl [(q_t, .inr (11, [.ref q_w, .ref q_isKept, .int t_all, .int t_corners, .int t_hearers, .int t_newAll, .int t_newCorners, .int t_newHearers, .ref q_beer, .ref q_cold, .ref q_stands, .ref q_pinched, .ref q_says, .ref q_text, .int t_textSize, .int t_at, .int t_first, .int t_faultOf, .int t_fault, .int t_spoke, .int t_holds, .int t_undoMany, .ref q_seenDecree, .ref q_seenAt, .ref q_seenSpoke, .int t_seen, .ref q_inSets, .ref q_book, .int t_written]))] H → va_D A [(q_t, .inr (11, [.ref q_w, .ref q_isKept, .int t_all, .int t_corners, .int t_hearers, .int t_newAll, .int t_newCorners, .int t_newHearers, .ref q_beer, .ref q_cold, .ref q_stands, .ref q_pinched, .ref q_says, .ref q_text, .int t_textSize, .int t_at, .int t_first, .int t_faultOf, .int t_fault, .int t_spoke, .int t_holds, .int t_undoMany, .ref q_seenDecree, .ref q_seenAt, .ref q_seenSpoke, .int t_seen, .ref q_inSets, .ref q_book, .int t_written]))] → va_S A s.heap H locs → lv_has ls 4 [(0, .ref q_t)] → W p l e { frames := 0, cells := 0, slots := 0, locals := 0 } s m args below meth c H locs 0 0 Q (F0 m 21 ls []) := by
    intro t_faultOf t_fault H locs ls hf hP hD hS hl
    unfold f_X11_want_21 at hf
    refine lv_aload_n hx hb dX11_want_21 rfl (lv_at hl 0 rfl) ?_
    refine g_get hX hiX11 hP 0 rfl rfl 17 (by decide) hk1 rfl rfl dX11_want_22 ?_
    refine lv_if_ne (tgt := 32) hx hb dX11_want_25 (by decide) (fun c1 => ?_) (fun c1 => ?_)
    · replace hf := o_ifn hf c1
      refine lv_iconst (v := (0 : Int32)) hx hb dX11_want_32 (by decide) ?_
      cases hf
      exact hret _ _ _ _ narrow_b0 hP hD hS dX11_want_33
    replace hf := o_ifp hf c1
    refine lv_iconst (v := (1 : Int32)) hx hb dX11_want_28 (by decide) ?_
    refine lv_goto (tgt := 33) hx hb dX11_want_29 (by decide) ?_
    cases hf
    exact hret _ _ _ _ narrow_b1 hP hD hS dX11_want_33
  unfold f_X11_want at hf
  refine lv_iload_n hx hb dX11_want_0 rfl (lv_at hl 1 rfl) ?_
  refine lv_if_ne (tgt := 21) hx hb dX11_want_1 (by decide) (fun c2 => ?_) (fun c2 => ?_)
  · replace hf := o_ifn hf c2
    exact L_21 t_faultOf t_fault _ _ _ hf hP hD hS (lv_sub hl [0] rfl)
  replace hf := o_ifp hf c2
  refine lv_aload_n hx hb dX11_want_4 rfl (lv_at hl 0 rfl) ?_
  refine g_get hX hiX11 hP 0 rfl rfl 17 (by decide) hk1 rfl rfl dX11_want_5 ?_
  refine lv_if_ne (tgt := 21) hx hb dX11_want_8 (by decide) (fun c3 => ?_) (fun c3 => ?_)
  · replace hf := o_ifn hf c3
    exact L_21 t_faultOf t_fault _ _ _ hf hP hD hS (lv_sub hl [0] rfl)
  replace hf := o_ifp hf c3
  refine lv_aload_n hx hb dX11_want_11 rfl (lv_at hl 0 rfl) ?_
  refine lv_iload_n hx hb dX11_want_12 rfl (lv_at hl 2 rfl) ?_
  refine g_put hX hiX11 tyX11 tyX11_ok nmX11 hP hD hS 0 rfl rfl 17 (by decide) hk1 rfl rfl rfl rfl (Nat.le_of_ble_eq_true rfl) dX11_want_13 (fun H locs hP hD hS => ?_)
  replace hP : va_P D vwCl [(q_t, .inr (11, [.ref q_w, .ref q_isKept, .int t_all, .int t_corners, .int t_hearers, .int t_newAll, .int t_newCorners, .int t_newHearers, .ref q_beer, .ref q_cold, .ref q_stands, .ref q_pinched, .ref q_says, .ref q_text, .int t_textSize, .int t_at, .int t_first, .int x2, .int t_fault, .int t_spoke, .int t_holds, .int t_undoMany, .ref q_seenDecree, .ref q_seenAt, .ref q_seenSpoke, .int t_seen, .ref q_inSets, .ref q_book, .int t_written]))] H := hP
  replace hD : va_D A [(q_t, .inr (11, [.ref q_w, .ref q_isKept, .int t_all, .int t_corners, .int t_hearers, .int t_newAll, .int t_newCorners, .int t_newHearers, .ref q_beer, .ref q_cold, .ref q_stands, .ref q_pinched, .ref q_says, .ref q_text, .int t_textSize, .int t_at, .int t_first, .int x2, .int t_fault, .int t_spoke, .int t_holds, .int t_undoMany, .ref q_seenDecree, .ref q_seenAt, .ref q_seenSpoke, .int t_seen, .ref q_inSets, .ref q_book, .int t_written]))] := hD
  refine lv_aload_n hx hb dX11_want_16 rfl (lv_at hl 0 rfl) ?_
  refine lv_iload_n hx hb dX11_want_17 rfl (lv_at hl 3 rfl) ?_
  refine g_put hX hiX11 tyX11 tyX11_ok nmX11 hP hD hS 0 rfl rfl 18 (by decide) hk2 rfl rfl rfl rfl (Nat.le_of_ble_eq_true rfl) dX11_want_18 (fun H locs hP hD hS => ?_)
  replace hP : va_P D vwCl [(q_t, .inr (11, [.ref q_w, .ref q_isKept, .int t_all, .int t_corners, .int t_hearers, .int t_newAll, .int t_newCorners, .int t_newHearers, .ref q_beer, .ref q_cold, .ref q_stands, .ref q_pinched, .ref q_says, .ref q_text, .int t_textSize, .int t_at, .int t_first, .int x2, .int x3, .int t_spoke, .int t_holds, .int t_undoMany, .ref q_seenDecree, .ref q_seenAt, .ref q_seenSpoke, .int t_seen, .ref q_inSets, .ref q_book, .int t_written]))] H := hP
  replace hD : va_D A [(q_t, .inr (11, [.ref q_w, .ref q_isKept, .int t_all, .int t_corners, .int t_hearers, .int t_newAll, .int t_newCorners, .int t_newHearers, .ref q_beer, .ref q_cold, .ref q_stands, .ref q_pinched, .ref q_says, .ref q_text, .int t_textSize, .int t_at, .int t_first, .int x2, .int x3, .int t_spoke, .int t_holds, .int t_undoMany, .ref q_seenDecree, .ref q_seenAt, .ref q_seenSpoke, .int t_seen, .ref q_inSets, .ref q_book, .int t_written]))] := hD
  exact L_21 x2 x3 _ _ _ hf hP hD hS (lv_sub hl [0] rfl)
def f_X11_takeNumber_142  (t_at : Int32) (t_first : Int32) (t_faultOf : Int32) (t_fault : Int32) (x2 : Int32) (s0 : Int32) : Option (Int32 × Int32 × Int32 × Int32 × Int32) :=
  (f_X11_want t_faultOf t_fault s0 (2 : Int32) t_first).bind fun o1 =>
  some (x2, t_at, t_first, o1.2.1, o1.2.2)
def f_X11_takeNumber_123  (t_at : Int32) (t_first : Int32) (t_faultOf : Int32) (t_fault : Int32) (x2 : Int32) : Option (Int32 × Int32 × Int32 × Int32 × Int32) :=
  if (4 : Int32) ≤ (t_at - t_first) then (f_X11_takeNumber_142 t_at t_first t_faultOf t_fault x2 (0 : Int32))
  else (f_X11_takeNumber_142 t_at t_first t_faultOf t_fault x2 (1 : Int32))
def f_X11_takeNumber_49 (t_textSize : Int32) (text : Nat → Int32) : Nat → Int32 → Int32 → Int32 → Int32 → Int32 → Option (Int32 × Int32 × Int32 × Int32 × Int32)
  | 0, _, _, _, _, _ => none
  | n_49 + 1, t_at, t_first, t_faultOf, t_fault, x2 =>
    if t_textSize ≤ t_at then (f_X11_takeNumber_123 t_at t_first t_faultOf t_fault x2)
    else ((o_ld text 230 t_at).bind fun v4 =>
    (f_X11_in (Int32.toInt64 v4) (48 : Int64) (57 : Int64)).bind fun o5 =>
    if o5 = 0 then (f_X11_takeNumber_123 t_at t_first t_faultOf t_fault x2)
    else (if x2 ≤ (99999 : Int32) then ((o_ld text 230 t_at).bind fun v8 =>
    o_nm (((((10 : Int32) * x2) + v8) - (48 : Int32))) fun v9 =>
    o_nm ((t_at + (1 : Int32))) fun v10 =>
    f_X11_takeNumber_49 t_textSize text n_49 v10 t_first t_faultOf t_fault v9)
    else (o_nm ((t_at + (1 : Int32))) fun v11 =>
    f_X11_takeNumber_49 t_textSize text n_49 v11 t_first t_faultOf t_fault x2)))
def f_X11_takeNumber (t_textSize : Int32) (t_at : Int32) (t_first : Int32) (t_faultOf : Int32) (t_fault : Int32) (text : Nat → Int32) : Option (Int32 × Int32 × Int32 × Int32 × Int32) :=
  if t_faultOf ≤ 0 then ((f_X11_here t_textSize t_at text).bind fun o13 =>
  (f_X11_in (Int32.toInt64 o13.1) (48 : Int64) (57 : Int64)).bind fun o14 =>
  (f_X11_want t_faultOf t_fault o14 (1 : Int32) o13.2).bind fun o15 =>
  if o15.1 = 0 then (some ((0 : Int32), o13.2, o13.2, o15.2.1, o15.2.2))
  else (f_X11_takeNumber_49 t_textSize text 1000 o13.2 o13.2 o15.2.1 o15.2.2 (0 : Int32)))
  else (some ((0 : Int32), t_at, t_first, t_faultOf, t_fault))
theorem hdS_X11_takeNumber : yX11_takeNumber.cls ≠ "java/lang/invoke/MethodHandle" ∧ yX11_takeNumber.cls ≠ "java/lang/invoke/VarHandle" ∧ (parseMethodDescriptor yX11_takeNumber.desc).map (fun d => d.parameters.length) = some 0 := by decide +kernel
theorem hdV_X11_takeNumber : yX11_takeNumber.cls = RX11 ∧ yX11_takeNumber.cls ≠ "java/lang/invoke/MethodHandle" ∧ yX11_takeNumber.cls ≠ "java/lang/invoke/VarHandle" ∧ (parseMethodDescriptor yX11_takeNumber.desc).map (fun d => d.parameters.length) = some 0 := ⟨rfl, hdS_X11_takeNumber⟩
set_option maxHeartbeats 4000000 in
set_option maxRecDepth 100000 in
theorem c_X11_takeNumber (l : Launch) (D : va_G) (a : Nat → ClassId) (t : Nat) (q_t : Nat) (q_w : Nat) (q_isKept : Nat) (t_all : Int32) (t_corners : Int32) (t_hearers : Int32) (t_newAll : Int32) (t_newCorners : Int32) (t_newHearers : Int32) (q_beer : Nat) (q_cold : Nat) (q_stands : Nat) (q_pinched : Nat) (q_says : Nat) (q_text : Nat) (t_textSize : Int32) (t_at : Int32) (t_first : Int32) (t_faultOf : Int32) (t_fault : Int32) (t_spoke : Int32) (t_holds : Int32) (t_undoMany : Int32) (q_seenDecree : Nat) (q_seenAt : Nat) (q_seenSpoke : Nat) (t_seen : Int32) (q_inSets : Nat) (q_book : Nat) (t_written : Int32) (text : Nat → Int32) (r : Int32) (o_t_at : Int32) (o_t_first : Int32) (o_t_faultOf : Int32) (o_t_fault : Int32) (hf : f_X11_takeNumber t_textSize t_at t_first t_faultOf t_fault text = some (r, o_t_at, o_t_first, o_t_faultOf, o_t_fault)) : Ki l yX11_takeNumber wsX11_takeNumber 1 25 D a t [.ref q_t] [(q_t, .inr (11, [.ref q_w, .ref q_isKept, .int t_all, .int t_corners, .int t_hearers, .int t_newAll, .int t_newCorners, .int t_newHearers, .ref q_beer, .ref q_cold, .ref q_stands, .ref q_pinched, .ref q_says, .ref q_text, .int t_textSize, .int t_at, .int t_first, .int t_faultOf, .int t_fault, .int t_spoke, .int t_holds, .int t_undoMany, .ref q_seenDecree, .ref q_seenAt, .ref q_seenSpoke, .int t_seen, .ref q_inSets, .ref q_book, .int t_written])), (q_text, .inl (a 0, 230, .inl text))] [(q_t, .inr (11, [.ref q_w, .ref q_isKept, .int t_all, .int t_corners, .int t_hearers, .int t_newAll, .int t_newCorners, .int t_newHearers, .ref q_beer, .ref q_cold, .ref q_stands, .ref q_pinched, .ref q_says, .ref q_text, .int t_textSize, .int o_t_at, .int o_t_first, .int o_t_faultOf, .int o_t_fault, .int t_spoke, .int t_holds, .int t_undoMany, .ref q_seenDecree, .ref q_seenAt, .ref q_seenSpoke, .int t_seen, .ref q_inSets, .ref q_book, .int t_written])), (q_text, .inl (a 0, 230, .inl text))] r := by
  refine Ki.mk (cc := cX11_takeNumber) (nL := 4) (ty := .int) (own := RX11) (by decide) rfl rfl (Nat.le_of_ble_eq_true rfl) ?_
  intro p e s m args below meth c A Q ls hX hP hD hS hl hret
  have hx := hX.1.1
  have hb := hX.1.2.1
  have hown := hX.1.2.2.2.1
  have hts := hX.1.2.2.2.2
  have hN := hX.2.2.1
  have hA := hX.2.2.2.2
  have hl : lv_has ls 4 [(0, .ref q_t)] := hl
  have hk1 := hts (.fieldLink RX11 72 "GainsaidOnceModel" "faultOf" "I") (List.mem_of_getElem? (i := 1) rfl)
  have hk2 := hts (.fieldLink RX11 69 "GainsaidOnceModel" "at" "I") (List.mem_of_getElem? (i := 2) rfl)
  have hk3 := hts (.fieldLink RX11 79 "GainsaidOnceModel" "first" "I") (List.mem_of_getElem? (i := 3) rfl)
  have hk4 := hts (.constantLong RX11 82 (48)) (List.mem_of_getElem? (i := 4) rfl)
  have hk5 := hts (.constantLong RX11 84 (57)) (List.mem_of_getElem? (i := 5) rfl)
  have hk6 := hts (.fieldLink RX11 65 "GainsaidOnceModel" "textSize" "I") (List.mem_of_getElem? (i := 6) rfl)
  have hk7 := hts (.fieldLink RX11 32 "GainsaidOnceModel" "text" "[I") (List.mem_of_getElem? (i := 7) rfl)
  have hk8 := hts (.constant RX11 90 (99999)) (List.mem_of_getElem? (i := 8) rfl)
  have hiX11 : ∀ w ∈ wsX110, w ∈ wsX11_takeNumber := (fun _ h => List.mem_cons_of_mem _ (List.mem_append_right _ h))
  have L_142 : ∀ (t_at : Int32) (t_first : Int32) (t_faultOf : Int32) (t_fault : Int32) (x2 : Int32) (s0 : Int32) (H : Heap) (locs : List Loc) (ls : Array Slot), f_X11_takeNumber_142 t_at t_first t_faultOf t_fault x2 s0 = some (r, o_t_at, o_t_first, o_t_faultOf, o_t_fault) → va_P D vwCl [(q_t, .inr (11, [.ref q_w, .ref q_isKept, .int t_all, .int t_corners, .int t_hearers, .int t_newAll, .int t_newCorners, .int t_newHearers, .ref q_beer, .ref q_cold, .ref q_stands, .ref q_pinched, .ref q_says, .ref q_text, .int t_textSize, .int t_at, .int t_first, .int t_faultOf, .int t_fault, .int t_spoke, .int t_holds, .int t_undoMany, .ref q_seenDecree, .ref q_seenAt, .ref q_seenSpoke, .int t_seen, .ref q_inSets, .ref q_book, .int t_written])), (q_text, .inl (a 0, 230, .inl text))] H → va_D A [(q_t, .inr (11, [.ref q_w, .ref q_isKept, .int t_all, .int t_corners, .int t_hearers, .int t_newAll, .int t_newCorners, .int t_newHearers, .ref q_beer, .ref q_cold, .ref q_stands, .ref q_pinched, .ref q_says, .ref q_text, .int t_textSize, .int t_at, .int t_first, .int t_faultOf, .int t_fault, .int t_spoke, .int t_holds, .int t_undoMany, .ref q_seenDecree, .ref q_seenAt, .ref q_seenSpoke, .int t_seen, .ref q_inSets, .ref q_book, .int t_written])), (q_text, .inl (a 0, 230, .inl text))] → va_S A s.heap H locs → lv_has ls 4 [(0, .ref q_t), (2, .int x2)] → W p l e { frames := 1, cells := 0, slots := 0, locals := 25 } s m args below meth c H locs 0 0 Q (F0 m 142 ls [.int s0, .ref q_t]) := by
    intro t_at t_first t_faultOf t_fault x2 s0 H locs ls hf hP hD hS hl
    unfold f_X11_takeNumber_142 at hf
    refine lv_iconst (v := (2 : Int32)) hx hb dX11_takeNumber_142 (by decide) ?_
    refine lv_aload_n hx hb dX11_takeNumber_143 rfl (lv_at hl 0 rfl) ?_
    refine g_get hX hiX11 hP 0 rfl rfl 16 (by decide) hk3 rfl rfl dX11_takeNumber_144 ?_
    obtain ⟨o1, ho1, hf⟩ := o_bd hf
    refine call_iV (q0 := 0) (ci := 11) hX (c_X11_want l D a t q_t q_w q_isKept t_all t_corners t_hearers t_newAll t_newCorners t_newHearers q_beer q_cold q_stands q_pinched q_says q_text t_textSize t_at t_first t_faultOf t_fault t_spoke t_holds t_undoMany q_seenDecree q_seenAt q_seenSpoke t_seen q_inSets q_book t_written s0 (2 : Int32) t_first o1.1 o1.2.1 o1.2.2 ho1) (cwV 3 hts gX11_takeNumber_X11_want rfl rfl rfl hdV_X11_want ⟨by decide, by decide⟩) (Cut.of hA hP hD hS [0] (by decide) rfl rfl (W' := [(q_t, .inr (11, [.ref q_w, .ref q_isKept, .int t_all, .int t_corners, .int t_hearers, .int t_newAll, .int t_newCorners, .int t_newHearers, .ref q_beer, .ref q_cold, .ref q_stands, .ref q_pinched, .ref q_says, .ref q_text, .int t_textSize, .int t_at, .int t_first, .int o1.2.1, .int o1.2.2, .int t_spoke, .int t_holds, .int t_undoMany, .ref q_seenDecree, .ref q_seenAt, .ref q_seenSpoke, .int t_seen, .ref q_inSets, .ref q_book, .int t_written])), (q_text, .inl (a 0, 230, .inl text))]) rfl) hS rfl rfl rfl hl.1 rfl (Nat.le_of_ble_eq_true rfl) dX11_takeNumber_147 (by decide) (fun H locs hP hD hS => ?_)
    replace hP : va_P D vwCl [(q_t, .inr (11, [.ref q_w, .ref q_isKept, .int t_all, .int t_corners, .int t_hearers, .int t_newAll, .int t_newCorners, .int t_newHearers, .ref q_beer, .ref q_cold, .ref q_stands, .ref q_pinched, .ref q_says, .ref q_text, .int t_textSize, .int t_at, .int t_first, .int o1.2.1, .int o1.2.2, .int t_spoke, .int t_holds, .int t_undoMany, .ref q_seenDecree, .ref q_seenAt, .ref q_seenSpoke, .int t_seen, .ref q_inSets, .ref q_book, .int t_written])), (q_text, .inl (a 0, 230, .inl text))] H := hP
    replace hD : va_D A [(q_t, .inr (11, [.ref q_w, .ref q_isKept, .int t_all, .int t_corners, .int t_hearers, .int t_newAll, .int t_newCorners, .int t_newHearers, .ref q_beer, .ref q_cold, .ref q_stands, .ref q_pinched, .ref q_says, .ref q_text, .int t_textSize, .int t_at, .int t_first, .int o1.2.1, .int o1.2.2, .int t_spoke, .int t_holds, .int t_undoMany, .ref q_seenDecree, .ref q_seenAt, .ref q_seenSpoke, .int t_seen, .ref q_inSets, .ref q_book, .int t_written])), (q_text, .inl (a 0, 230, .inl text))] := hD
    refine lv_istore_n (lv' := [(3, .int o1.1), (0, .ref q_t), (2, .int x2)]) hx hb dX11_takeNumber_150 rfl hl (by decide) rfl (fun ls hl => ?_)
    refine lv_iload_n hx hb dX11_takeNumber_151 rfl (lv_at hl 2 rfl) ?_
    cases hf
    exact hret _ _ _ _ (vp_nar_int _) hP hD hS dX11_takeNumber_152
  have L_123 : ∀ (t_at : Int32) (t_first : Int32) (t_faultOf : Int32) (t_fault : Int32) (x2 : Int32) (H : Heap) (locs : List Loc) (ls : Array Slot), f_X11_takeNumber_123 t_at t_first t_faultOf t_fault x2 = some (r, o_t_at, o_t_first, o_t_faultOf, o_t_fault) → va_P D vwCl [(q_t, .inr (11, [.ref q_w, .ref q_isKept, .int t_all, .int t_corners, .int t_hearers, .int t_newAll, .int t_newCorners, .int t_newHearers, .ref q_beer, .ref q_cold, .ref q_stands, .ref q_pinched, .ref q_says, .ref q_text, .int t_textSize, .int t_at, .int t_first, .int t_faultOf, .int t_fault, .int t_spoke, .int t_holds, .int t_undoMany, .ref q_seenDecree, .ref q_seenAt, .ref q_seenSpoke, .int t_seen, .ref q_inSets, .ref q_book, .int t_written])), (q_text, .inl (a 0, 230, .inl text))] H → va_D A [(q_t, .inr (11, [.ref q_w, .ref q_isKept, .int t_all, .int t_corners, .int t_hearers, .int t_newAll, .int t_newCorners, .int t_newHearers, .ref q_beer, .ref q_cold, .ref q_stands, .ref q_pinched, .ref q_says, .ref q_text, .int t_textSize, .int t_at, .int t_first, .int t_faultOf, .int t_fault, .int t_spoke, .int t_holds, .int t_undoMany, .ref q_seenDecree, .ref q_seenAt, .ref q_seenSpoke, .int t_seen, .ref q_inSets, .ref q_book, .int t_written])), (q_text, .inl (a 0, 230, .inl text))] → va_S A s.heap H locs → lv_has ls 4 [(0, .ref q_t), (2, .int x2)] → W p l e { frames := 1, cells := 0, slots := 0, locals := 25 } s m args below meth c H locs 0 0 Q (F0 m 123 ls []) := by
    intro t_at t_first t_faultOf t_fault x2 H locs ls hf hP hD hS hl
    unfold f_X11_takeNumber_123 at hf
    refine lv_aload_n hx hb dX11_takeNumber_123 rfl (lv_at hl 0 rfl) ?_
    refine lv_aload_n hx hb dX11_takeNumber_124 rfl (lv_at hl 0 rfl) ?_
    refine g_get hX hiX11 hP 0 rfl rfl 15 (by decide) hk2 rfl rfl dX11_takeNumber_125 ?_
    refine lv_aload_n hx hb dX11_takeNumber_128 rfl (lv_at hl 0 rfl) ?_
    refine g_get hX hiX11 hP 0 rfl rfl 16 (by decide) hk3 rfl rfl dX11_takeNumber_129 ?_
    refine lv_isub hx hb dX11_takeNumber_132 ?_
    refine lv_iconst (v := (4 : Int32)) hx hb dX11_takeNumber_133 (by decide) ?_
    refine lv_icmp_ge (tgt := 141) hx hb dX11_takeNumber_134 (by decide) (fun c2 => ?_) (fun c2 => ?_)
    · replace hf := o_ifp hf c2
      refine lv_iconst (v := (0 : Int32)) hx hb dX11_takeNumber_141 (by decide) ?_
      exact L_142 t_at t_first t_faultOf t_fault x2 (0 : Int32) _ _ _ hf hP hD hS (lv_sub hl [0, 1] rfl)
    replace hf := o_ifn hf c2
    refine lv_iconst (v := (1 : Int32)) hx hb dX11_takeNumber_137 (by decide) ?_
    refine lv_goto (tgt := 142) hx hb dX11_takeNumber_138 (by decide) ?_
    exact L_142 t_at t_first t_faultOf t_fault x2 (1 : Int32) _ _ _ hf hP hD hS (lv_sub hl [0, 1] rfl)
  have L_49 : ∀ (n_49 : Nat) (t_at : Int32) (t_first : Int32) (t_faultOf : Int32) (t_fault : Int32) (x2 : Int32) (H : Heap) (locs : List Loc) (ls : Array Slot), f_X11_takeNumber_49 t_textSize text n_49 t_at t_first t_faultOf t_fault x2 = some (r, o_t_at, o_t_first, o_t_faultOf, o_t_fault) → va_P D vwCl [(q_t, .inr (11, [.ref q_w, .ref q_isKept, .int t_all, .int t_corners, .int t_hearers, .int t_newAll, .int t_newCorners, .int t_newHearers, .ref q_beer, .ref q_cold, .ref q_stands, .ref q_pinched, .ref q_says, .ref q_text, .int t_textSize, .int t_at, .int t_first, .int t_faultOf, .int t_fault, .int t_spoke, .int t_holds, .int t_undoMany, .ref q_seenDecree, .ref q_seenAt, .ref q_seenSpoke, .int t_seen, .ref q_inSets, .ref q_book, .int t_written])), (q_text, .inl (a 0, 230, .inl text))] H → va_D A [(q_t, .inr (11, [.ref q_w, .ref q_isKept, .int t_all, .int t_corners, .int t_hearers, .int t_newAll, .int t_newCorners, .int t_newHearers, .ref q_beer, .ref q_cold, .ref q_stands, .ref q_pinched, .ref q_says, .ref q_text, .int t_textSize, .int t_at, .int t_first, .int t_faultOf, .int t_fault, .int t_spoke, .int t_holds, .int t_undoMany, .ref q_seenDecree, .ref q_seenAt, .ref q_seenSpoke, .int t_seen, .ref q_inSets, .ref q_book, .int t_written])), (q_text, .inl (a 0, 230, .inl text))] → va_S A s.heap H locs → lv_has ls 4 [(0, .ref q_t), (2, .int x2)] → W p l e { frames := 1, cells := 0, slots := 0, locals := 25 } s m args below meth c H locs 0 0 Q (F0 m 49 ls []) := by
    intro n_49
    induction n_49 with
    | zero => intro t_at t_first t_faultOf t_fault x2 H locs ls hf hP hD hS hl; rw [f_X11_takeNumber_49] at hf; cases hf
    | succ n_49 ih_49 =>
      intro t_at t_first t_faultOf t_fault x2 H locs ls hf hP hD hS hl
      rw [f_X11_takeNumber_49] at hf
      refine lv_aload_n hx hb dX11_takeNumber_49 rfl (lv_at hl 0 rfl) ?_
      refine g_get hX hiX11 hP 0 rfl rfl 15 (by decide) hk2 rfl rfl dX11_takeNumber_50 ?_
      refine lv_aload_n hx hb dX11_takeNumber_53 rfl (lv_at hl 0 rfl) ?_
      refine g_get hX hiX11 hP 0 rfl rfl 14 (by decide) hk6 rfl rfl dX11_takeNumber_54 ?_
      refine lv_icmp_ge (tgt := 123) hx hb dX11_takeNumber_57 (by decide) (fun c3 => ?_) (fun c3 => ?_)
      · replace hf := o_ifp hf c3
        exact L_123 t_at t_first t_faultOf t_fault x2 _ _ _ hf hP hD hS (lv_sub hl [0, 1] rfl)
      replace hf := o_ifn hf c3
      refine lv_aload_n hx hb dX11_takeNumber_60 rfl (lv_at hl 0 rfl) ?_
      refine g_get hX hiX11 hP 0 rfl rfl 13 (by decide) hk7 rfl rfl dX11_takeNumber_61 ?_
      refine lv_aload_n hx hb dX11_takeNumber_64 rfl (lv_at hl 0 rfl) ?_
      refine g_get hX hiX11 hP 0 rfl rfl 15 (by decide) hk2 rfl rfl dX11_takeNumber_65 ?_
      obtain ⟨hiv4, hf⟩ := o_ldh hf
      refine g_iald hX hP 1 rfl hiv4 dX11_takeNumber_68 (fun v4 ev4 => ?_)
      replace hf := hf v4 ev4
      refine lv_i2l (v := Int32.toInt64 v4) hx hb dX11_takeNumber_69 rfl ?_
      refine lv_ldc2 (v := (48 : Int64)) hx hb hown hk4 dX11_takeNumber_70 ?_
      refine lv_ldc2 (v := (57 : Int64)) hx hb hown hk5 dX11_takeNumber_73 ?_
      obtain ⟨o5, ho5, hf⟩ := o_bd hf
      refine call_iS hX (c_X11_in l D a t (Int32.toInt64 v4) (48 : Int64) (57 : Int64) o5 ho5) (va_cwS 3 hts gX11_takeNumber_X11_in rfl rfl rfl hdS_X11_in ⟨by decide, by decide⟩) (Cut.none hA hP hD hS) hS rfl hl.1 rfl (Nat.le_of_ble_eq_true rfl) dX11_takeNumber_76 (by decide) (fun H locs hP hD hS => ?_)
      refine lv_if_eq (tgt := 123) hx hb dX11_takeNumber_79 (by decide) (fun c6 => ?_) (fun c6 => ?_)
      · replace hf := o_ifp hf c6
        exact L_123 t_at t_first t_faultOf t_fault x2 _ _ _ hf hP hD hS (lv_sub hl [0, 1] rfl)
      replace hf := o_ifn hf c6
      refine lv_iload_n hx hb dX11_takeNumber_82 rfl (lv_at hl 1 rfl) ?_
      refine lv_ldc (v := (99999 : Int32)) hx hb hown hk8 dX11_takeNumber_83 ?_
      refine lv_icmp_le (tgt := 92) hx hb dX11_takeNumber_85 (by decide) (fun c7 => ?_) (fun c7 => ?_)
      · replace hf := o_ifp hf c7
        refine lv_bipush (v := (10 : Int32)) hx hb dX11_takeNumber_92 (by decide) ?_
        refine lv_iload_n hx hb dX11_takeNumber_94 rfl (lv_at hl 1 rfl) ?_
        refine lv_imul hx hb dX11_takeNumber_95 ?_
        refine lv_aload_n hx hb dX11_takeNumber_96 rfl (lv_at hl 0 rfl) ?_
        refine g_get hX hiX11 hP 0 rfl rfl 13 (by decide) hk7 rfl rfl dX11_takeNumber_97 ?_
        refine lv_aload_n hx hb dX11_takeNumber_100 rfl (lv_at hl 0 rfl) ?_
        refine g_get hX hiX11 hP 0 rfl rfl 15 (by decide) hk2 rfl rfl dX11_takeNumber_101 ?_
        obtain ⟨hiv8, hf⟩ := o_ldh hf
        refine g_iald hX hP 1 rfl hiv8 dX11_takeNumber_104 (fun v8 ev8 => ?_)
        replace hf := hf v8 ev8
        refine lv_iadd hx hb dX11_takeNumber_105 ?_
        refine lv_bipush (v := (48 : Int32)) hx hb dX11_takeNumber_106 (by decide) ?_
        refine lv_isub hx hb dX11_takeNumber_108 ?_
        refine lv_topi (fun v9 ev9 => ?_)
        replace hf := o_nmh hf v9 ev9
        refine lv_istore_n (lv' := [(2, .int v9), (0, .ref q_t)]) hx hb dX11_takeNumber_109 rfl hl (by decide) rfl (fun ls hl => ?_)
        refine lv_aload_n hx hb dX11_takeNumber_110 rfl (lv_at hl 1 rfl) ?_
        refine lv_dup hx hb dX11_takeNumber_111 rfl ?_
        refine g_get hX hiX11 hP 0 rfl rfl 15 (by decide) hk2 rfl rfl dX11_takeNumber_112 ?_
        refine lv_iconst (v := (1 : Int32)) hx hb dX11_takeNumber_115 (by decide) ?_
        refine lv_iadd hx hb dX11_takeNumber_116 ?_
        refine lv_topi (fun v10 ev10 => ?_)
        replace hf := o_nmh hf v10 ev10
        refine g_put hX hiX11 tyX11 tyX11_ok nmX11 hP hD hS 0 rfl rfl 15 (by decide) hk2 rfl rfl rfl rfl (Nat.le_of_ble_eq_true rfl) dX11_takeNumber_117 (fun H locs hP hD hS => ?_)
        replace hP : va_P D vwCl [(q_t, .inr (11, [.ref q_w, .ref q_isKept, .int t_all, .int t_corners, .int t_hearers, .int t_newAll, .int t_newCorners, .int t_newHearers, .ref q_beer, .ref q_cold, .ref q_stands, .ref q_pinched, .ref q_says, .ref q_text, .int t_textSize, .int v10, .int t_first, .int t_faultOf, .int t_fault, .int t_spoke, .int t_holds, .int t_undoMany, .ref q_seenDecree, .ref q_seenAt, .ref q_seenSpoke, .int t_seen, .ref q_inSets, .ref q_book, .int t_written])), (q_text, .inl (a 0, 230, .inl text))] H := hP
        replace hD : va_D A [(q_t, .inr (11, [.ref q_w, .ref q_isKept, .int t_all, .int t_corners, .int t_hearers, .int t_newAll, .int t_newCorners, .int t_newHearers, .ref q_beer, .ref q_cold, .ref q_stands, .ref q_pinched, .ref q_says, .ref q_text, .int t_textSize, .int v10, .int t_first, .int t_faultOf, .int t_fault, .int t_spoke, .int t_holds, .int t_undoMany, .ref q_seenDecree, .ref q_seenAt, .ref q_seenSpoke, .int t_seen, .ref q_inSets, .ref q_book, .int t_written])), (q_text, .inl (a 0, 230, .inl text))] := hD
        refine lv_goto (tgt := 49) hx hb dX11_takeNumber_120 (by decide) ?_
        exact ih_49 v10 t_first t_faultOf t_fault v9 _ _ _ hf hP hD hS (lv_sub hl [1, 0] rfl)
      replace hf := o_ifn hf c7
      refine lv_iload_n hx hb dX11_takeNumber_88 rfl (lv_at hl 1 rfl) ?_
      refine lv_goto (tgt := 109) hx hb dX11_takeNumber_89 (by decide) ?_
      refine lv_istore_n (lv' := [(2, .int x2), (0, .ref q_t)]) hx hb dX11_takeNumber_109 rfl hl (by decide) rfl (fun ls hl => ?_)
      refine lv_aload_n hx hb dX11_takeNumber_110 rfl (lv_at hl 1 rfl) ?_
      refine lv_dup hx hb dX11_takeNumber_111 rfl ?_
      refine g_get hX hiX11 hP 0 rfl rfl 15 (by decide) hk2 rfl rfl dX11_takeNumber_112 ?_
      refine lv_iconst (v := (1 : Int32)) hx hb dX11_takeNumber_115 (by decide) ?_
      refine lv_iadd hx hb dX11_takeNumber_116 ?_
      refine lv_topi (fun v11 ev11 => ?_)
      replace hf := o_nmh hf v11 ev11
      refine g_put hX hiX11 tyX11 tyX11_ok nmX11 hP hD hS 0 rfl rfl 15 (by decide) hk2 rfl rfl rfl rfl (Nat.le_of_ble_eq_true rfl) dX11_takeNumber_117 (fun H locs hP hD hS => ?_)
      replace hP : va_P D vwCl [(q_t, .inr (11, [.ref q_w, .ref q_isKept, .int t_all, .int t_corners, .int t_hearers, .int t_newAll, .int t_newCorners, .int t_newHearers, .ref q_beer, .ref q_cold, .ref q_stands, .ref q_pinched, .ref q_says, .ref q_text, .int t_textSize, .int v11, .int t_first, .int t_faultOf, .int t_fault, .int t_spoke, .int t_holds, .int t_undoMany, .ref q_seenDecree, .ref q_seenAt, .ref q_seenSpoke, .int t_seen, .ref q_inSets, .ref q_book, .int t_written])), (q_text, .inl (a 0, 230, .inl text))] H := hP
      replace hD : va_D A [(q_t, .inr (11, [.ref q_w, .ref q_isKept, .int t_all, .int t_corners, .int t_hearers, .int t_newAll, .int t_newCorners, .int t_newHearers, .ref q_beer, .ref q_cold, .ref q_stands, .ref q_pinched, .ref q_says, .ref q_text, .int t_textSize, .int v11, .int t_first, .int t_faultOf, .int t_fault, .int t_spoke, .int t_holds, .int t_undoMany, .ref q_seenDecree, .ref q_seenAt, .ref q_seenSpoke, .int t_seen, .ref q_inSets, .ref q_book, .int t_written])), (q_text, .inl (a 0, 230, .inl text))] := hD
      refine lv_goto (tgt := 49) hx hb dX11_takeNumber_120 (by decide) ?_
      exact ih_49 v11 t_first t_faultOf t_fault x2 _ _ _ hf hP hD hS (lv_sub hl [1, 0] rfl)
  unfold f_X11_takeNumber at hf
  refine lv_aload_n hx hb dX11_takeNumber_0 rfl (lv_at hl 0 rfl) ?_
  refine g_get hX hiX11 hP 0 rfl rfl 17 (by decide) hk1 rfl rfl dX11_takeNumber_1 ?_
  refine lv_if_le (tgt := 9) hx hb dX11_takeNumber_4 (by decide) (fun c12 => ?_) (fun c12 => ?_)
  · replace hf := o_ifp hf c12
    refine lv_aload_n hx hb dX11_takeNumber_9 rfl (lv_at hl 0 rfl) ?_
    obtain ⟨o13, ho13, hf⟩ := o_bd hf
    refine call_iV (q0 := 0) (ci := 11) hX (c_X11_here l D a t q_t q_w q_isKept t_all t_corners t_hearers t_newAll t_newCorners t_newHearers q_beer q_cold q_stands q_pinched q_says q_text t_textSize t_at t_first t_faultOf t_fault t_spoke t_holds t_undoMany q_seenDecree q_seenAt q_seenSpoke t_seen q_inSets q_book t_written text o13.1 o13.2 ho13) (cwV 0 hts gX11_takeNumber_X11_here rfl rfl rfl hdV_X11_here ⟨by decide, by decide⟩) (Cut.of hA hP hD hS [0, 1] (by decide) rfl rfl (W' := [(q_t, .inr (11, [.ref q_w, .ref q_isKept, .int t_all, .int t_corners, .int t_hearers, .int t_newAll, .int t_newCorners, .int t_newHearers, .ref q_beer, .ref q_cold, .ref q_stands, .ref q_pinched, .ref q_says, .ref q_text, .int t_textSize, .int o13.2, .int t_first, .int t_faultOf, .int t_fault, .int t_spoke, .int t_holds, .int t_undoMany, .ref q_seenDecree, .ref q_seenAt, .ref q_seenSpoke, .int t_seen, .ref q_inSets, .ref q_book, .int t_written])), (q_text, .inl (a 0, 230, .inl text))]) rfl) hS rfl rfl rfl hl.1 rfl (Nat.le_of_ble_eq_true rfl) dX11_takeNumber_10 (by decide) (fun H locs hP hD hS => ?_)
    replace hP : va_P D vwCl [(q_t, .inr (11, [.ref q_w, .ref q_isKept, .int t_all, .int t_corners, .int t_hearers, .int t_newAll, .int t_newCorners, .int t_newHearers, .ref q_beer, .ref q_cold, .ref q_stands, .ref q_pinched, .ref q_says, .ref q_text, .int t_textSize, .int o13.2, .int t_first, .int t_faultOf, .int t_fault, .int t_spoke, .int t_holds, .int t_undoMany, .ref q_seenDecree, .ref q_seenAt, .ref q_seenSpoke, .int t_seen, .ref q_inSets, .ref q_book, .int t_written])), (q_text, .inl (a 0, 230, .inl text))] H := hP
    replace hD : va_D A [(q_t, .inr (11, [.ref q_w, .ref q_isKept, .int t_all, .int t_corners, .int t_hearers, .int t_newAll, .int t_newCorners, .int t_newHearers, .ref q_beer, .ref q_cold, .ref q_stands, .ref q_pinched, .ref q_says, .ref q_text, .int t_textSize, .int o13.2, .int t_first, .int t_faultOf, .int t_fault, .int t_spoke, .int t_holds, .int t_undoMany, .ref q_seenDecree, .ref q_seenAt, .ref q_seenSpoke, .int t_seen, .ref q_inSets, .ref q_book, .int t_written])), (q_text, .inl (a 0, 230, .inl text))] := hD
    refine lv_istore_n (lv' := [(1, .int o13.1), (0, .ref q_t)]) hx hb dX11_takeNumber_13 rfl hl (by decide) rfl (fun ls hl => ?_)
    refine lv_aload_n hx hb dX11_takeNumber_14 rfl (lv_at hl 1 rfl) ?_
    refine lv_aload_n hx hb dX11_takeNumber_15 rfl (lv_at hl 1 rfl) ?_
    refine g_get hX hiX11 hP 0 rfl rfl 15 (by decide) hk2 rfl rfl dX11_takeNumber_16 ?_
    refine g_put hX hiX11 tyX11 tyX11_ok nmX11 hP hD hS 0 rfl rfl 16 (by decide) hk3 rfl rfl rfl rfl (Nat.le_of_ble_eq_true rfl) dX11_takeNumber_19 (fun H locs hP hD hS => ?_)
    replace hP : va_P D vwCl [(q_t, .inr (11, [.ref q_w, .ref q_isKept, .int t_all, .int t_corners, .int t_hearers, .int t_newAll, .int t_newCorners, .int t_newHearers, .ref q_beer, .ref q_cold, .ref q_stands, .ref q_pinched, .ref q_says, .ref q_text, .int t_textSize, .int o13.2, .int o13.2, .int t_faultOf, .int t_fault, .int t_spoke, .int t_holds, .int t_undoMany, .ref q_seenDecree, .ref q_seenAt, .ref q_seenSpoke, .int t_seen, .ref q_inSets, .ref q_book, .int t_written])), (q_text, .inl (a 0, 230, .inl text))] H := hP
    replace hD : va_D A [(q_t, .inr (11, [.ref q_w, .ref q_isKept, .int t_all, .int t_corners, .int t_hearers, .int t_newAll, .int t_newCorners, .int t_newHearers, .ref q_beer, .ref q_cold, .ref q_stands, .ref q_pinched, .ref q_says, .ref q_text, .int t_textSize, .int o13.2, .int o13.2, .int t_faultOf, .int t_fault, .int t_spoke, .int t_holds, .int t_undoMany, .ref q_seenDecree, .ref q_seenAt, .ref q_seenSpoke, .int t_seen, .ref q_inSets, .ref q_book, .int t_written])), (q_text, .inl (a 0, 230, .inl text))] := hD
    refine lv_aload_n hx hb dX11_takeNumber_22 rfl (lv_at hl 1 rfl) ?_
    refine lv_iload_n hx hb dX11_takeNumber_23 rfl (lv_at hl 0 rfl) ?_
    refine lv_i2l (v := Int32.toInt64 o13.1) hx hb dX11_takeNumber_24 rfl ?_
    refine lv_ldc2 (v := (48 : Int64)) hx hb hown hk4 dX11_takeNumber_25 ?_
    refine lv_ldc2 (v := (57 : Int64)) hx hb hown hk5 dX11_takeNumber_28 ?_
    obtain ⟨o14, ho14, hf⟩ := o_bd hf
    refine call_iS hX (c_X11_in l D a t (Int32.toInt64 o13.1) (48 : Int64) (57 : Int64) o14 ho14) (va_cwS 3 hts gX11_takeNumber_X11_in rfl rfl rfl hdS_X11_in ⟨by decide, by decide⟩) (Cut.none hA hP hD hS) hS rfl hl.1 rfl (Nat.le_of_ble_eq_true rfl) dX11_takeNumber_31 (by decide) (fun H locs hP hD hS => ?_)
    refine lv_iconst (v := (1 : Int32)) hx hb dX11_takeNumber_34 (by decide) ?_
    refine lv_aload_n hx hb dX11_takeNumber_35 rfl (lv_at hl 1 rfl) ?_
    refine g_get hX hiX11 hP 0 rfl rfl 15 (by decide) hk2 rfl rfl dX11_takeNumber_36 ?_
    obtain ⟨o15, ho15, hf⟩ := o_bd hf
    refine call_iV (q0 := 0) (ci := 11) hX (c_X11_want l D a t q_t q_w q_isKept t_all t_corners t_hearers t_newAll t_newCorners t_newHearers q_beer q_cold q_stands q_pinched q_says q_text t_textSize o13.2 o13.2 t_faultOf t_fault t_spoke t_holds t_undoMany q_seenDecree q_seenAt q_seenSpoke t_seen q_inSets q_book t_written o14 (1 : Int32) o13.2 o15.1 o15.2.1 o15.2.2 ho15) (cwV 3 hts gX11_takeNumber_X11_want rfl rfl rfl hdV_X11_want ⟨by decide, by decide⟩) (Cut.of hA hP hD hS [0] (by decide) rfl rfl (W' := [(q_t, .inr (11, [.ref q_w, .ref q_isKept, .int t_all, .int t_corners, .int t_hearers, .int t_newAll, .int t_newCorners, .int t_newHearers, .ref q_beer, .ref q_cold, .ref q_stands, .ref q_pinched, .ref q_says, .ref q_text, .int t_textSize, .int o13.2, .int o13.2, .int o15.2.1, .int o15.2.2, .int t_spoke, .int t_holds, .int t_undoMany, .ref q_seenDecree, .ref q_seenAt, .ref q_seenSpoke, .int t_seen, .ref q_inSets, .ref q_book, .int t_written])), (q_text, .inl (a 0, 230, .inl text))]) rfl) hS rfl rfl rfl hl.1 rfl (Nat.le_of_ble_eq_true rfl) dX11_takeNumber_39 (by decide) (fun H locs hP hD hS => ?_)
    replace hP : va_P D vwCl [(q_t, .inr (11, [.ref q_w, .ref q_isKept, .int t_all, .int t_corners, .int t_hearers, .int t_newAll, .int t_newCorners, .int t_newHearers, .ref q_beer, .ref q_cold, .ref q_stands, .ref q_pinched, .ref q_says, .ref q_text, .int t_textSize, .int o13.2, .int o13.2, .int o15.2.1, .int o15.2.2, .int t_spoke, .int t_holds, .int t_undoMany, .ref q_seenDecree, .ref q_seenAt, .ref q_seenSpoke, .int t_seen, .ref q_inSets, .ref q_book, .int t_written])), (q_text, .inl (a 0, 230, .inl text))] H := hP
    replace hD : va_D A [(q_t, .inr (11, [.ref q_w, .ref q_isKept, .int t_all, .int t_corners, .int t_hearers, .int t_newAll, .int t_newCorners, .int t_newHearers, .ref q_beer, .ref q_cold, .ref q_stands, .ref q_pinched, .ref q_says, .ref q_text, .int t_textSize, .int o13.2, .int o13.2, .int o15.2.1, .int o15.2.2, .int t_spoke, .int t_holds, .int t_undoMany, .ref q_seenDecree, .ref q_seenAt, .ref q_seenSpoke, .int t_seen, .ref q_inSets, .ref q_book, .int t_written])), (q_text, .inl (a 0, 230, .inl text))] := hD
    refine lv_if_ne (tgt := 47) hx hb dX11_takeNumber_42 (by decide) (fun c16 => ?_) (fun c16 => ?_)
    · replace hf := o_ifn hf c16
      refine lv_iconst (v := (0 : Int32)) hx hb dX11_takeNumber_47 (by decide) ?_
      refine lv_istore_n (lv' := [(2, .int (0 : Int32)), (1, .int o13.1), (0, .ref q_t)]) hx hb dX11_takeNumber_48 rfl hl (by decide) rfl (fun ls hl => ?_)
      exact L_49 1000 o13.2 o13.2 o15.2.1 o15.2.2 (0 : Int32) _ _ _ hf hP hD hS (lv_sub hl [2, 0] rfl)
    replace hf := o_ifp hf c16
    refine lv_iconst (v := (0 : Int32)) hx hb dX11_takeNumber_45 (by decide) ?_
    cases hf
    exact hret _ _ _ _ (vp_nar_int _) hP hD hS dX11_takeNumber_46
  replace hf := o_ifn hf c12
  refine lv_iconst (v := (0 : Int32)) hx hb dX11_takeNumber_7 (by decide) ?_
  cases hf
  exact hret _ _ _ _ (vp_nar_int _) hP hD hS dX11_takeNumber_8
def f_X11_takeIn_30  (t_at : Int32) (t_first : Int32) (t_faultOf : Int32) (t_fault : Int32) (x3 : Int32) (s0 : Int32) : Option (Int32 × Int32 × Int32 × Int32 × Int32) :=
  (f_X11_want t_faultOf t_fault s0 (2 : Int32) t_first).bind fun o1 =>
  some (x3, t_at, t_first, o1.2.1, o1.2.2)
def f_X11_takeIn_25  (t_at : Int32) (t_first : Int32) (t_faultOf : Int32) (t_fault : Int32) (x3 : Int32) : Option (Int32 × Int32 × Int32 × Int32 × Int32) :=
  f_X11_takeIn_30 t_at t_first t_faultOf t_fault x3 (1 : Int32)
def f_X11_takeIn (t_textSize : Int32) (t_at : Int32) (t_first : Int32) (t_faultOf : Int32) (t_fault : Int32) (text : Nat → Int32) (x1 : Int32) (x2 : Int32) : Option (Int32 × Int32 × Int32 × Int32 × Int32) :=
  (f_X11_takeNumber t_textSize t_at t_first t_faultOf t_fault text).bind fun o2 =>
  if 0 < o2.2.2.2.1 then (f_X11_takeIn_25 o2.2.1 o2.2.2.1 o2.2.2.2.1 o2.2.2.2.2 o2.1)
  else ((f_X11_in (Int32.toInt64 o2.1) (Int32.toInt64 x1) (Int32.toInt64 x2)).bind fun o4 =>
  if o4 = 0 then (f_X11_takeIn_30 o2.2.1 o2.2.2.1 o2.2.2.2.1 o2.2.2.2.2 o2.1 (0 : Int32))
  else (f_X11_takeIn_25 o2.2.1 o2.2.2.1 o2.2.2.2.1 o2.2.2.2.2 o2.1))
theorem hdS_X11_takeIn : yX11_takeIn.cls ≠ "java/lang/invoke/MethodHandle" ∧ yX11_takeIn.cls ≠ "java/lang/invoke/VarHandle" ∧ (parseMethodDescriptor yX11_takeIn.desc).map (fun d => d.parameters.length) = some 2 := by decide +kernel
theorem hdV_X11_takeIn : yX11_takeIn.cls = RX11 ∧ yX11_takeIn.cls ≠ "java/lang/invoke/MethodHandle" ∧ yX11_takeIn.cls ≠ "java/lang/invoke/VarHandle" ∧ (parseMethodDescriptor yX11_takeIn.desc).map (fun d => d.parameters.length) = some 2 := ⟨rfl, hdS_X11_takeIn⟩
set_option maxHeartbeats 4000000 in
set_option maxRecDepth 100000 in
theorem c_X11_takeIn (l : Launch) (D : va_G) (a : Nat → ClassId) (t : Nat) (q_t : Nat) (q_w : Nat) (q_isKept : Nat) (t_all : Int32) (t_corners : Int32) (t_hearers : Int32) (t_newAll : Int32) (t_newCorners : Int32) (t_newHearers : Int32) (q_beer : Nat) (q_cold : Nat) (q_stands : Nat) (q_pinched : Nat) (q_says : Nat) (q_text : Nat) (t_textSize : Int32) (t_at : Int32) (t_first : Int32) (t_faultOf : Int32) (t_fault : Int32) (t_spoke : Int32) (t_holds : Int32) (t_undoMany : Int32) (q_seenDecree : Nat) (q_seenAt : Nat) (q_seenSpoke : Nat) (t_seen : Int32) (q_inSets : Nat) (q_book : Nat) (t_written : Int32) (text : Nat → Int32) (x1 : Int32) (x2 : Int32) (r : Int32) (o_t_at : Int32) (o_t_first : Int32) (o_t_faultOf : Int32) (o_t_fault : Int32) (hf : f_X11_takeIn t_textSize t_at t_first t_faultOf t_fault text x1 x2 = some (r, o_t_at, o_t_first, o_t_faultOf, o_t_fault)) : Ki l yX11_takeIn wsX11_takeIn 2 48 D a t [.ref q_t, .int x1, .int x2] [(q_t, .inr (11, [.ref q_w, .ref q_isKept, .int t_all, .int t_corners, .int t_hearers, .int t_newAll, .int t_newCorners, .int t_newHearers, .ref q_beer, .ref q_cold, .ref q_stands, .ref q_pinched, .ref q_says, .ref q_text, .int t_textSize, .int t_at, .int t_first, .int t_faultOf, .int t_fault, .int t_spoke, .int t_holds, .int t_undoMany, .ref q_seenDecree, .ref q_seenAt, .ref q_seenSpoke, .int t_seen, .ref q_inSets, .ref q_book, .int t_written])), (q_text, .inl (a 0, 230, .inl text))] [(q_t, .inr (11, [.ref q_w, .ref q_isKept, .int t_all, .int t_corners, .int t_hearers, .int t_newAll, .int t_newCorners, .int t_newHearers, .ref q_beer, .ref q_cold, .ref q_stands, .ref q_pinched, .ref q_says, .ref q_text, .int t_textSize, .int o_t_at, .int o_t_first, .int o_t_faultOf, .int o_t_fault, .int t_spoke, .int t_holds, .int t_undoMany, .ref q_seenDecree, .ref q_seenAt, .ref q_seenSpoke, .int t_seen, .ref q_inSets, .ref q_book, .int t_written])), (q_text, .inl (a 0, 230, .inl text))] r := by
  refine Ki.mk (cc := cX11_takeIn) (nL := 5) (ty := .int) (own := RX11) (by decide) rfl rfl (Nat.le_of_ble_eq_true rfl) ?_
  intro p e s m args below meth c A Q ls hX hP hD hS hl hret
  have hx := hX.1.1
  have hb := hX.1.2.1
  have hown := hX.1.2.2.2.1
  have hts := hX.1.2.2.2.2
  have hN := hX.2.2.1
  have hA := hX.2.2.2.2
  have hl : lv_has ls 5 [(0, .ref q_t), (1, .int x1), (2, .int x2)] := hl
  have hk1 := hts (.fieldLink RX11 72 "GainsaidOnceModel" "faultOf" "I") (List.mem_of_getElem? (i := 1) rfl)
  have hk2 := hts (.fieldLink RX11 79 "GainsaidOnceModel" "first" "I") (List.mem_of_getElem? (i := 2) rfl)
  have hiX11 : ∀ w ∈ wsX110, w ∈ wsX11_takeIn := (fun _ h => List.mem_cons_of_mem _ (List.mem_append_right _ h))
  have L_30 : ∀ (t_at : Int32) (t_first : Int32) (t_faultOf : Int32) (t_fault : Int32) (x3 : Int32) (s0 : Int32) (H : Heap) (locs : List Loc) (ls : Array Slot), f_X11_takeIn_30 t_at t_first t_faultOf t_fault x3 s0 = some (r, o_t_at, o_t_first, o_t_faultOf, o_t_fault) → va_P D vwCl [(q_t, .inr (11, [.ref q_w, .ref q_isKept, .int t_all, .int t_corners, .int t_hearers, .int t_newAll, .int t_newCorners, .int t_newHearers, .ref q_beer, .ref q_cold, .ref q_stands, .ref q_pinched, .ref q_says, .ref q_text, .int t_textSize, .int t_at, .int t_first, .int t_faultOf, .int t_fault, .int t_spoke, .int t_holds, .int t_undoMany, .ref q_seenDecree, .ref q_seenAt, .ref q_seenSpoke, .int t_seen, .ref q_inSets, .ref q_book, .int t_written])), (q_text, .inl (a 0, 230, .inl text))] H → va_D A [(q_t, .inr (11, [.ref q_w, .ref q_isKept, .int t_all, .int t_corners, .int t_hearers, .int t_newAll, .int t_newCorners, .int t_newHearers, .ref q_beer, .ref q_cold, .ref q_stands, .ref q_pinched, .ref q_says, .ref q_text, .int t_textSize, .int t_at, .int t_first, .int t_faultOf, .int t_fault, .int t_spoke, .int t_holds, .int t_undoMany, .ref q_seenDecree, .ref q_seenAt, .ref q_seenSpoke, .int t_seen, .ref q_inSets, .ref q_book, .int t_written])), (q_text, .inl (a 0, 230, .inl text))] → va_S A s.heap H locs → lv_has ls 5 [(0, .ref q_t), (3, .int x3)] → W p l e { frames := 2, cells := 0, slots := 0, locals := 48 } s m args below meth c H locs 0 0 Q (F0 m 30 ls [.int s0, .ref q_t]) := by
    intro t_at t_first t_faultOf t_fault x3 s0 H locs ls hf hP hD hS hl
    unfold f_X11_takeIn_30 at hf
    refine lv_iconst (v := (2 : Int32)) hx hb dX11_takeIn_30 (by decide) ?_
    refine lv_aload_n hx hb dX11_takeIn_31 rfl (lv_at hl 0 rfl) ?_
    refine g_get hX hiX11 hP 0 rfl rfl 16 (by decide) hk2 rfl rfl dX11_takeIn_32 ?_
    obtain ⟨o1, ho1, hf⟩ := o_bd hf
    refine call_iV (q0 := 0) (ci := 11) hX (c_X11_want l D a t q_t q_w q_isKept t_all t_corners t_hearers t_newAll t_newCorners t_newHearers q_beer q_cold q_stands q_pinched q_says q_text t_textSize t_at t_first t_faultOf t_fault t_spoke t_holds t_undoMany q_seenDecree q_seenAt q_seenSpoke t_seen q_inSets q_book t_written s0 (2 : Int32) t_first o1.1 o1.2.1 o1.2.2 ho1) (cwV 3 hts gX11_takeIn_X11_want rfl rfl rfl hdV_X11_want ⟨by decide, by decide⟩) (Cut.of hA hP hD hS [0] (by decide) rfl rfl (W' := [(q_t, .inr (11, [.ref q_w, .ref q_isKept, .int t_all, .int t_corners, .int t_hearers, .int t_newAll, .int t_newCorners, .int t_newHearers, .ref q_beer, .ref q_cold, .ref q_stands, .ref q_pinched, .ref q_says, .ref q_text, .int t_textSize, .int t_at, .int t_first, .int o1.2.1, .int o1.2.2, .int t_spoke, .int t_holds, .int t_undoMany, .ref q_seenDecree, .ref q_seenAt, .ref q_seenSpoke, .int t_seen, .ref q_inSets, .ref q_book, .int t_written])), (q_text, .inl (a 0, 230, .inl text))]) rfl) hS rfl rfl rfl hl.1 rfl (Nat.le_of_ble_eq_true rfl) dX11_takeIn_35 (by decide) (fun H locs hP hD hS => ?_)
    replace hP : va_P D vwCl [(q_t, .inr (11, [.ref q_w, .ref q_isKept, .int t_all, .int t_corners, .int t_hearers, .int t_newAll, .int t_newCorners, .int t_newHearers, .ref q_beer, .ref q_cold, .ref q_stands, .ref q_pinched, .ref q_says, .ref q_text, .int t_textSize, .int t_at, .int t_first, .int o1.2.1, .int o1.2.2, .int t_spoke, .int t_holds, .int t_undoMany, .ref q_seenDecree, .ref q_seenAt, .ref q_seenSpoke, .int t_seen, .ref q_inSets, .ref q_book, .int t_written])), (q_text, .inl (a 0, 230, .inl text))] H := hP
    replace hD : va_D A [(q_t, .inr (11, [.ref q_w, .ref q_isKept, .int t_all, .int t_corners, .int t_hearers, .int t_newAll, .int t_newCorners, .int t_newHearers, .ref q_beer, .ref q_cold, .ref q_stands, .ref q_pinched, .ref q_says, .ref q_text, .int t_textSize, .int t_at, .int t_first, .int o1.2.1, .int o1.2.2, .int t_spoke, .int t_holds, .int t_undoMany, .ref q_seenDecree, .ref q_seenAt, .ref q_seenSpoke, .int t_seen, .ref q_inSets, .ref q_book, .int t_written])), (q_text, .inl (a 0, 230, .inl text))] := hD
    refine lv_istore (lv' := [(4, .int o1.1), (0, .ref q_t), (3, .int x3)]) hx hb dX11_takeIn_38 hl (by decide) rfl (fun ls hl => ?_)
    refine lv_iload_n hx hb dX11_takeIn_40 rfl (lv_at hl 2 rfl) ?_
    cases hf
    exact hret _ _ _ _ (vp_nar_int _) hP hD hS dX11_takeIn_41
  have L_25 : ∀ (t_at : Int32) (t_first : Int32) (t_faultOf : Int32) (t_fault : Int32) (x3 : Int32) (H : Heap) (locs : List Loc) (ls : Array Slot), f_X11_takeIn_25 t_at t_first t_faultOf t_fault x3 = some (r, o_t_at, o_t_first, o_t_faultOf, o_t_fault) → va_P D vwCl [(q_t, .inr (11, [.ref q_w, .ref q_isKept, .int t_all, .int t_corners, .int t_hearers, .int t_newAll, .int t_newCorners, .int t_newHearers, .ref q_beer, .ref q_cold, .ref q_stands, .ref q_pinched, .ref q_says, .ref q_text, .int t_textSize, .int t_at, .int t_first, .int t_faultOf, .int t_fault, .int t_spoke, .int t_holds, .int t_undoMany, .ref q_seenDecree, .ref q_seenAt, .ref q_seenSpoke, .int t_seen, .ref q_inSets, .ref q_book, .int t_written])), (q_text, .inl (a 0, 230, .inl text))] H → va_D A [(q_t, .inr (11, [.ref q_w, .ref q_isKept, .int t_all, .int t_corners, .int t_hearers, .int t_newAll, .int t_newCorners, .int t_newHearers, .ref q_beer, .ref q_cold, .ref q_stands, .ref q_pinched, .ref q_says, .ref q_text, .int t_textSize, .int t_at, .int t_first, .int t_faultOf, .int t_fault, .int t_spoke, .int t_holds, .int t_undoMany, .ref q_seenDecree, .ref q_seenAt, .ref q_seenSpoke, .int t_seen, .ref q_inSets, .ref q_book, .int t_written])), (q_text, .inl (a 0, 230, .inl text))] → va_S A s.heap H locs → lv_has ls 5 [(0, .ref q_t), (3, .int x3)] → W p l e { frames := 2, cells := 0, slots := 0, locals := 48 } s m args below meth c H locs 0 0 Q (F0 m 25 ls [.ref q_t]) := by
    intro t_at t_first t_faultOf t_fault x3 H locs ls hf hP hD hS hl
    unfold f_X11_takeIn_25 at hf
    refine lv_iconst (v := (1 : Int32)) hx hb dX11_takeIn_25 (by decide) ?_
    refine lv_goto (tgt := 30) hx hb dX11_takeIn_26 (by decide) ?_
    exact L_30 t_at t_first t_faultOf t_fault x3 (1 : Int32) _ _ _ hf hP hD hS (lv_sub hl [0, 1] rfl)
  unfold f_X11_takeIn at hf
  refine lv_aload_n hx hb dX11_takeIn_0 rfl (lv_at hl 0 rfl) ?_
  obtain ⟨o2, ho2, hf⟩ := o_bd hf
  refine call_iV (q0 := 0) (ci := 11) hX (c_X11_takeNumber l D a t q_t q_w q_isKept t_all t_corners t_hearers t_newAll t_newCorners t_newHearers q_beer q_cold q_stands q_pinched q_says q_text t_textSize t_at t_first t_faultOf t_fault t_spoke t_holds t_undoMany q_seenDecree q_seenAt q_seenSpoke t_seen q_inSets q_book t_written text o2.1 o2.2.1 o2.2.2.1 o2.2.2.2.1 o2.2.2.2.2 ho2) (cwV 0 hts gX11_takeIn_X11_takeNumber rfl rfl rfl hdV_X11_takeNumber ⟨by decide, by decide⟩) (Cut.of hA hP hD hS [0, 1] (by decide) rfl rfl (W' := [(q_t, .inr (11, [.ref q_w, .ref q_isKept, .int t_all, .int t_corners, .int t_hearers, .int t_newAll, .int t_newCorners, .int t_newHearers, .ref q_beer, .ref q_cold, .ref q_stands, .ref q_pinched, .ref q_says, .ref q_text, .int t_textSize, .int o2.2.1, .int o2.2.2.1, .int o2.2.2.2.1, .int o2.2.2.2.2, .int t_spoke, .int t_holds, .int t_undoMany, .ref q_seenDecree, .ref q_seenAt, .ref q_seenSpoke, .int t_seen, .ref q_inSets, .ref q_book, .int t_written])), (q_text, .inl (a 0, 230, .inl text))]) rfl) hS rfl rfl rfl hl.1 rfl (Nat.le_of_ble_eq_true rfl) dX11_takeIn_1 (by decide) (fun H locs hP hD hS => ?_)
  replace hP : va_P D vwCl [(q_t, .inr (11, [.ref q_w, .ref q_isKept, .int t_all, .int t_corners, .int t_hearers, .int t_newAll, .int t_newCorners, .int t_newHearers, .ref q_beer, .ref q_cold, .ref q_stands, .ref q_pinched, .ref q_says, .ref q_text, .int t_textSize, .int o2.2.1, .int o2.2.2.1, .int o2.2.2.2.1, .int o2.2.2.2.2, .int t_spoke, .int t_holds, .int t_undoMany, .ref q_seenDecree, .ref q_seenAt, .ref q_seenSpoke, .int t_seen, .ref q_inSets, .ref q_book, .int t_written])), (q_text, .inl (a 0, 230, .inl text))] H := hP
  replace hD : va_D A [(q_t, .inr (11, [.ref q_w, .ref q_isKept, .int t_all, .int t_corners, .int t_hearers, .int t_newAll, .int t_newCorners, .int t_newHearers, .ref q_beer, .ref q_cold, .ref q_stands, .ref q_pinched, .ref q_says, .ref q_text, .int t_textSize, .int o2.2.1, .int o2.2.2.1, .int o2.2.2.2.1, .int o2.2.2.2.2, .int t_spoke, .int t_holds, .int t_undoMany, .ref q_seenDecree, .ref q_seenAt, .ref q_seenSpoke, .int t_seen, .ref q_inSets, .ref q_book, .int t_written])), (q_text, .inl (a 0, 230, .inl text))] := hD
  refine lv_istore_n (lv' := [(3, .int o2.1), (0, .ref q_t), (1, .int x1), (2, .int x2)]) hx hb dX11_takeIn_4 rfl hl (by decide) rfl (fun ls hl => ?_)
  refine lv_aload_n hx hb dX11_takeIn_5 rfl (lv_at hl 1 rfl) ?_
  refine lv_aload_n hx hb dX11_takeIn_6 rfl (lv_at hl 1 rfl) ?_
  refine g_get hX hiX11 hP 0 rfl rfl 17 (by decide) hk1 rfl rfl dX11_takeIn_7 ?_
  refine lv_if_gt (tgt := 25) hx hb dX11_takeIn_10 (by decide) (fun c3 => ?_) (fun c3 => ?_)
  · replace hf := o_ifp hf c3
    exact L_25 o2.2.1 o2.2.2.1 o2.2.2.2.1 o2.2.2.2.2 o2.1 _ _ _ hf hP hD hS (lv_sub hl [1, 0] rfl)
  replace hf := o_ifn hf c3
  refine lv_iload_n hx hb dX11_takeIn_13 rfl (lv_at hl 0 rfl) ?_
  refine lv_i2l (v := Int32.toInt64 o2.1) hx hb dX11_takeIn_14 rfl ?_
  refine lv_iload_n hx hb dX11_takeIn_15 rfl (lv_at hl 2 rfl) ?_
  refine lv_i2l (v := Int32.toInt64 x1) hx hb dX11_takeIn_16 rfl ?_
  refine lv_iload_n hx hb dX11_takeIn_17 rfl (lv_at hl 3 rfl) ?_
  refine lv_i2l (v := Int32.toInt64 x2) hx hb dX11_takeIn_18 rfl ?_
  obtain ⟨o4, ho4, hf⟩ := o_bd hf
  refine call_iS hX (c_X11_in l D a t (Int32.toInt64 o2.1) (Int32.toInt64 x1) (Int32.toInt64 x2) o4 ho4) (va_cwS 3 hts gX11_takeIn_X11_in rfl rfl rfl hdS_X11_in ⟨by decide, by decide⟩) (Cut.none hA hP hD hS) hS rfl hl.1 rfl (Nat.le_of_ble_eq_true rfl) dX11_takeIn_19 (by decide) (fun H locs hP hD hS => ?_)
  refine lv_if_eq (tgt := 29) hx hb dX11_takeIn_22 (by decide) (fun c5 => ?_) (fun c5 => ?_)
  · replace hf := o_ifp hf c5
    refine lv_iconst (v := (0 : Int32)) hx hb dX11_takeIn_29 (by decide) ?_
    exact L_30 o2.2.1 o2.2.2.1 o2.2.2.2.1 o2.2.2.2.2 o2.1 (0 : Int32) _ _ _ hf hP hD hS (lv_sub hl [1, 0] rfl)
  replace hf := o_ifn hf c5
  exact L_25 o2.2.1 o2.2.2.1 o2.2.2.2.1 o2.2.2.2.2 o2.1 _ _ _ hf hP hD hS (lv_sub hl [1, 0] rfl)
def f_X11_takeClauses_13 (t_textSize : Int32) (text : Nat → Int32) (t_newAll : Int32) (t_at : Int32) (t_first : Int32) (t_faultOf : Int32) (t_fault : Int32) (x1 : Int32) (s0 : Int32) : Option (Int32 × Int32 × Int32 × Int32 × Int32) :=
  (f_X11_want t_faultOf t_fault s0 (3 : Int32) x1).bind fun o1 =>
  if o1.1 = 0 then (some (t_newAll, t_at, t_first, o1.2.1, o1.2.2))
  else ((f_X11_takeIn t_textSize t_at t_first o1.2.1 o1.2.2 text (1 : Int32) (255 : Int32)).bind fun o3 =>
  some (o3.1, o3.2.1, o3.2.2.1, o3.2.2.2.1, o3.2.2.2.2))
def f_X11_takeClauses (t_newAll : Int32) (t_textSize : Int32) (t_at : Int32) (t_first : Int32) (t_faultOf : Int32) (t_fault : Int32) (text : Nat → Int32) (x1 : Int32) : Option (Int32 × Int32 × Int32 × Int32 × Int32) :=
  if t_newAll = 0 then (f_X11_takeClauses_13 t_textSize text t_newAll t_at t_first t_faultOf t_fault x1 (1 : Int32))
  else (f_X11_takeClauses_13 t_textSize text t_newAll t_at t_first t_faultOf t_fault x1 (0 : Int32))
theorem hdS_X11_takeClauses : yX11_takeClauses.cls ≠ "java/lang/invoke/MethodHandle" ∧ yX11_takeClauses.cls ≠ "java/lang/invoke/VarHandle" ∧ (parseMethodDescriptor yX11_takeClauses.desc).map (fun d => d.parameters.length) = some 1 := by decide +kernel
theorem hdV_X11_takeClauses : yX11_takeClauses.cls = RX11 ∧ yX11_takeClauses.cls ≠ "java/lang/invoke/MethodHandle" ∧ yX11_takeClauses.cls ≠ "java/lang/invoke/VarHandle" ∧ (parseMethodDescriptor yX11_takeClauses.desc).map (fun d => d.parameters.length) = some 1 := ⟨rfl, hdS_X11_takeClauses⟩
set_option maxHeartbeats 4000000 in
set_option maxRecDepth 100000 in
theorem c_X11_takeClauses (l : Launch) (D : va_G) (a : Nat → ClassId) (t : Nat) (q_t : Nat) (q_w : Nat) (q_isKept : Nat) (t_all : Int32) (t_corners : Int32) (t_hearers : Int32) (t_newAll : Int32) (t_newCorners : Int32) (t_newHearers : Int32) (q_beer : Nat) (q_cold : Nat) (q_stands : Nat) (q_pinched : Nat) (q_says : Nat) (q_text : Nat) (t_textSize : Int32) (t_at : Int32) (t_first : Int32) (t_faultOf : Int32) (t_fault : Int32) (t_spoke : Int32) (t_holds : Int32) (t_undoMany : Int32) (q_seenDecree : Nat) (q_seenAt : Nat) (q_seenSpoke : Nat) (t_seen : Int32) (q_inSets : Nat) (q_book : Nat) (t_written : Int32) (text : Nat → Int32) (x1 : Int32) (o_t_newAll : Int32) (o_t_at : Int32) (o_t_first : Int32) (o_t_faultOf : Int32) (o_t_fault : Int32) (hf : f_X11_takeClauses t_newAll t_textSize t_at t_first t_faultOf t_fault text x1 = some (o_t_newAll, o_t_at, o_t_first, o_t_faultOf, o_t_fault)) : Kv l yX11_takeClauses wsX11_takeClauses 3 72 D a t [.ref q_t, .int x1] [(q_t, .inr (11, [.ref q_w, .ref q_isKept, .int t_all, .int t_corners, .int t_hearers, .int t_newAll, .int t_newCorners, .int t_newHearers, .ref q_beer, .ref q_cold, .ref q_stands, .ref q_pinched, .ref q_says, .ref q_text, .int t_textSize, .int t_at, .int t_first, .int t_faultOf, .int t_fault, .int t_spoke, .int t_holds, .int t_undoMany, .ref q_seenDecree, .ref q_seenAt, .ref q_seenSpoke, .int t_seen, .ref q_inSets, .ref q_book, .int t_written])), (q_text, .inl (a 0, 230, .inl text))] [(q_t, .inr (11, [.ref q_w, .ref q_isKept, .int t_all, .int t_corners, .int t_hearers, .int o_t_newAll, .int t_newCorners, .int t_newHearers, .ref q_beer, .ref q_cold, .ref q_stands, .ref q_pinched, .ref q_says, .ref q_text, .int t_textSize, .int o_t_at, .int o_t_first, .int o_t_faultOf, .int o_t_fault, .int t_spoke, .int t_holds, .int t_undoMany, .ref q_seenDecree, .ref q_seenAt, .ref q_seenSpoke, .int t_seen, .ref q_inSets, .ref q_book, .int t_written])), (q_text, .inl (a 0, 230, .inl text))] := by
  refine Kv.mk (cc := cX11_takeClauses) (nL := 2) (own := RX11) (by decide) rfl rfl (Nat.le_of_ble_eq_true rfl) ?_
  intro p e s m args below meth c A Q ls hX hP hD hS hl hret
  have hx := hX.1.1
  have hb := hX.1.2.1
  have hown := hX.1.2.2.2.1
  have hts := hX.1.2.2.2.2
  have hN := hX.2.2.1
  have hA := hX.2.2.2.2
  have hl : lv_has ls 2 [(0, .ref q_t), (1, .int x1)] := hl
  have hk1 := hts (.fieldLink RX11 94 "GainsaidOnceModel" "newAll" "I") (List.mem_of_getElem? (i := 1) rfl)
  have hiX11 : ∀ w ∈ wsX110, w ∈ wsX11_takeClauses := (fun _ h => List.mem_cons_of_mem _ (List.mem_append_right _ h))
  have L_13 : ∀ (t_newAll : Int32) (t_at : Int32) (t_first : Int32) (t_faultOf : Int32) (t_fault : Int32) (x1 : Int32) (s0 : Int32) (H : Heap) (locs : List Loc) (ls : Array Slot), f_X11_takeClauses_13 t_textSize text t_newAll t_at t_first t_faultOf t_fault x1 s0 = some (o_t_newAll, o_t_at, o_t_first, o_t_faultOf, o_t_fault) → va_P D vwCl [(q_t, .inr (11, [.ref q_w, .ref q_isKept, .int t_all, .int t_corners, .int t_hearers, .int t_newAll, .int t_newCorners, .int t_newHearers, .ref q_beer, .ref q_cold, .ref q_stands, .ref q_pinched, .ref q_says, .ref q_text, .int t_textSize, .int t_at, .int t_first, .int t_faultOf, .int t_fault, .int t_spoke, .int t_holds, .int t_undoMany, .ref q_seenDecree, .ref q_seenAt, .ref q_seenSpoke, .int t_seen, .ref q_inSets, .ref q_book, .int t_written])), (q_text, .inl (a 0, 230, .inl text))] H → va_D A [(q_t, .inr (11, [.ref q_w, .ref q_isKept, .int t_all, .int t_corners, .int t_hearers, .int t_newAll, .int t_newCorners, .int t_newHearers, .ref q_beer, .ref q_cold, .ref q_stands, .ref q_pinched, .ref q_says, .ref q_text, .int t_textSize, .int t_at, .int t_first, .int t_faultOf, .int t_fault, .int t_spoke, .int t_holds, .int t_undoMany, .ref q_seenDecree, .ref q_seenAt, .ref q_seenSpoke, .int t_seen, .ref q_inSets, .ref q_book, .int t_written])), (q_text, .inl (a 0, 230, .inl text))] → va_S A s.heap H locs → lv_has ls 2 [(0, .ref q_t), (1, .int x1)] → W p l e { frames := 3, cells := 0, slots := 0, locals := 72 } s m args below meth c H locs 0 0 Q (F0 m 13 ls [.int s0, .ref q_t]) := by
    intro t_newAll t_at t_first t_faultOf t_fault x1 s0 H locs ls hf hP hD hS hl
    unfold f_X11_takeClauses_13 at hf
    refine lv_iconst (v := (3 : Int32)) hx hb dX11_takeClauses_13 (by decide) ?_
    refine lv_iload_n hx hb dX11_takeClauses_14 rfl (lv_at hl 1 rfl) ?_
    obtain ⟨o1, ho1, hf⟩ := o_bd hf
    refine call_iV (q0 := 0) (ci := 11) hX (c_X11_want l D a t q_t q_w q_isKept t_all t_corners t_hearers t_newAll t_newCorners t_newHearers q_beer q_cold q_stands q_pinched q_says q_text t_textSize t_at t_first t_faultOf t_fault t_spoke t_holds t_undoMany q_seenDecree q_seenAt q_seenSpoke t_seen q_inSets q_book t_written s0 (3 : Int32) x1 o1.1 o1.2.1 o1.2.2 ho1) (cwV 3 hts gX11_takeClauses_X11_want rfl rfl rfl hdV_X11_want ⟨by decide, by decide⟩) (Cut.of hA hP hD hS [0] (by decide) rfl rfl (W' := [(q_t, .inr (11, [.ref q_w, .ref q_isKept, .int t_all, .int t_corners, .int t_hearers, .int t_newAll, .int t_newCorners, .int t_newHearers, .ref q_beer, .ref q_cold, .ref q_stands, .ref q_pinched, .ref q_says, .ref q_text, .int t_textSize, .int t_at, .int t_first, .int o1.2.1, .int o1.2.2, .int t_spoke, .int t_holds, .int t_undoMany, .ref q_seenDecree, .ref q_seenAt, .ref q_seenSpoke, .int t_seen, .ref q_inSets, .ref q_book, .int t_written])), (q_text, .inl (a 0, 230, .inl text))]) rfl) hS rfl rfl rfl hl.1 rfl (Nat.le_of_ble_eq_true rfl) dX11_takeClauses_15 (by decide) (fun H locs hP hD hS => ?_)
    replace hP : va_P D vwCl [(q_t, .inr (11, [.ref q_w, .ref q_isKept, .int t_all, .int t_corners, .int t_hearers, .int t_newAll, .int t_newCorners, .int t_newHearers, .ref q_beer, .ref q_cold, .ref q_stands, .ref q_pinched, .ref q_says, .ref q_text, .int t_textSize, .int t_at, .int t_first, .int o1.2.1, .int o1.2.2, .int t_spoke, .int t_holds, .int t_undoMany, .ref q_seenDecree, .ref q_seenAt, .ref q_seenSpoke, .int t_seen, .ref q_inSets, .ref q_book, .int t_written])), (q_text, .inl (a 0, 230, .inl text))] H := hP
    replace hD : va_D A [(q_t, .inr (11, [.ref q_w, .ref q_isKept, .int t_all, .int t_corners, .int t_hearers, .int t_newAll, .int t_newCorners, .int t_newHearers, .ref q_beer, .ref q_cold, .ref q_stands, .ref q_pinched, .ref q_says, .ref q_text, .int t_textSize, .int t_at, .int t_first, .int o1.2.1, .int o1.2.2, .int t_spoke, .int t_holds, .int t_undoMany, .ref q_seenDecree, .ref q_seenAt, .ref q_seenSpoke, .int t_seen, .ref q_inSets, .ref q_book, .int t_written])), (q_text, .inl (a 0, 230, .inl text))] := hD
    refine lv_if_eq (tgt := 33) hx hb dX11_takeClauses_18 (by decide) (fun c2 => ?_) (fun c2 => ?_)
    · replace hf := o_ifp hf c2
      cases hf
      exact hret _ _ _ _ hP hD hS dX11_takeClauses_33
    replace hf := o_ifn hf c2
    refine lv_aload_n hx hb dX11_takeClauses_21 rfl (lv_at hl 0 rfl) ?_
    refine lv_aload_n hx hb dX11_takeClauses_22 rfl (lv_at hl 0 rfl) ?_
    refine lv_iconst (v := (1 : Int32)) hx hb dX11_takeClauses_23 (by decide) ?_
    refine lv_sipush (v := (255 : Int32)) hx hb dX11_takeClauses_24 (by decide) ?_
    obtain ⟨o3, ho3, hf⟩ := o_bd hf
    refine call_iV (q0 := 0) (ci := 11) hX (c_X11_takeIn l D a t q_t q_w q_isKept t_all t_corners t_hearers t_newAll t_newCorners t_newHearers q_beer q_cold q_stands q_pinched q_says q_text t_textSize t_at t_first o1.2.1 o1.2.2 t_spoke t_holds t_undoMany q_seenDecree q_seenAt q_seenSpoke t_seen q_inSets q_book t_written text (1 : Int32) (255 : Int32) o3.1 o3.2.1 o3.2.2.1 o3.2.2.2.1 o3.2.2.2.2 ho3) (cwV 2 hts gX11_takeClauses_X11_takeIn rfl rfl rfl hdV_X11_takeIn ⟨by decide, by decide⟩) (Cut.of hA hP hD hS [0, 1] (by decide) rfl rfl (W' := [(q_t, .inr (11, [.ref q_w, .ref q_isKept, .int t_all, .int t_corners, .int t_hearers, .int t_newAll, .int t_newCorners, .int t_newHearers, .ref q_beer, .ref q_cold, .ref q_stands, .ref q_pinched, .ref q_says, .ref q_text, .int t_textSize, .int o3.2.1, .int o3.2.2.1, .int o3.2.2.2.1, .int o3.2.2.2.2, .int t_spoke, .int t_holds, .int t_undoMany, .ref q_seenDecree, .ref q_seenAt, .ref q_seenSpoke, .int t_seen, .ref q_inSets, .ref q_book, .int t_written])), (q_text, .inl (a 0, 230, .inl text))]) rfl) hS rfl rfl rfl hl.1 rfl (Nat.le_of_ble_eq_true rfl) dX11_takeClauses_27 (by decide) (fun H locs hP hD hS => ?_)
    replace hP : va_P D vwCl [(q_t, .inr (11, [.ref q_w, .ref q_isKept, .int t_all, .int t_corners, .int t_hearers, .int t_newAll, .int t_newCorners, .int t_newHearers, .ref q_beer, .ref q_cold, .ref q_stands, .ref q_pinched, .ref q_says, .ref q_text, .int t_textSize, .int o3.2.1, .int o3.2.2.1, .int o3.2.2.2.1, .int o3.2.2.2.2, .int t_spoke, .int t_holds, .int t_undoMany, .ref q_seenDecree, .ref q_seenAt, .ref q_seenSpoke, .int t_seen, .ref q_inSets, .ref q_book, .int t_written])), (q_text, .inl (a 0, 230, .inl text))] H := hP
    replace hD : va_D A [(q_t, .inr (11, [.ref q_w, .ref q_isKept, .int t_all, .int t_corners, .int t_hearers, .int t_newAll, .int t_newCorners, .int t_newHearers, .ref q_beer, .ref q_cold, .ref q_stands, .ref q_pinched, .ref q_says, .ref q_text, .int t_textSize, .int o3.2.1, .int o3.2.2.1, .int o3.2.2.2.1, .int o3.2.2.2.2, .int t_spoke, .int t_holds, .int t_undoMany, .ref q_seenDecree, .ref q_seenAt, .ref q_seenSpoke, .int t_seen, .ref q_inSets, .ref q_book, .int t_written])), (q_text, .inl (a 0, 230, .inl text))] := hD
    refine g_put hX hiX11 tyX11 tyX11_ok nmX11 hP hD hS 0 rfl rfl 5 (by decide) hk1 rfl rfl rfl rfl (Nat.le_of_ble_eq_true rfl) dX11_takeClauses_30 (fun H locs hP hD hS => ?_)
    replace hP : va_P D vwCl [(q_t, .inr (11, [.ref q_w, .ref q_isKept, .int t_all, .int t_corners, .int t_hearers, .int o3.1, .int t_newCorners, .int t_newHearers, .ref q_beer, .ref q_cold, .ref q_stands, .ref q_pinched, .ref q_says, .ref q_text, .int t_textSize, .int o3.2.1, .int o3.2.2.1, .int o3.2.2.2.1, .int o3.2.2.2.2, .int t_spoke, .int t_holds, .int t_undoMany, .ref q_seenDecree, .ref q_seenAt, .ref q_seenSpoke, .int t_seen, .ref q_inSets, .ref q_book, .int t_written])), (q_text, .inl (a 0, 230, .inl text))] H := hP
    replace hD : va_D A [(q_t, .inr (11, [.ref q_w, .ref q_isKept, .int t_all, .int t_corners, .int t_hearers, .int o3.1, .int t_newCorners, .int t_newHearers, .ref q_beer, .ref q_cold, .ref q_stands, .ref q_pinched, .ref q_says, .ref q_text, .int t_textSize, .int o3.2.1, .int o3.2.2.1, .int o3.2.2.2.1, .int o3.2.2.2.2, .int t_spoke, .int t_holds, .int t_undoMany, .ref q_seenDecree, .ref q_seenAt, .ref q_seenSpoke, .int t_seen, .ref q_inSets, .ref q_book, .int t_written])), (q_text, .inl (a 0, 230, .inl text))] := hD
    cases hf
    exact hret _ _ _ _ hP hD hS dX11_takeClauses_33
  unfold f_X11_takeClauses at hf
  refine lv_aload_n hx hb dX11_takeClauses_0 rfl (lv_at hl 0 rfl) ?_
  refine lv_aload_n hx hb dX11_takeClauses_1 rfl (lv_at hl 0 rfl) ?_
  refine g_get hX hiX11 hP 0 rfl rfl 5 (by decide) hk1 rfl rfl dX11_takeClauses_2 ?_
  refine lv_if_ne (tgt := 12) hx hb dX11_takeClauses_5 (by decide) (fun c4 => ?_) (fun c4 => ?_)
  · replace hf := o_ifn hf c4
    refine lv_iconst (v := (0 : Int32)) hx hb dX11_takeClauses_12 (by decide) ?_
    exact L_13 t_newAll t_at t_first t_faultOf t_fault x1 (0 : Int32) _ _ _ hf hP hD hS (lv_sub hl [0, 1] rfl)
  replace hf := o_ifp hf c4
  refine lv_iconst (v := (1 : Int32)) hx hb dX11_takeClauses_8 (by decide) ?_
  refine lv_goto (tgt := 13) hx hb dX11_takeClauses_9 (by decide) ?_
  exact L_13 t_newAll t_at t_first t_faultOf t_fault x1 (1 : Int32) _ _ _ hf hP hD hS (lv_sub hl [0, 1] rfl)
def f_X11_takeCorner_15 (t_textSize : Int32) (text : Nat → Int32) (t_newCorners : Int32) (t_at : Int32) (t_first : Int32) (t_faultOf : Int32) (t_fault : Int32) (beer : (Nat → Int32)) (cold : (Nat → Int32)) (x1 : Int32) (s0 : Int32) : Option (Int32 × Int32 × Int32 × Int32 × Int32 × (Nat → Int32) × (Nat → Int32)) :=
  (f_X11_want t_faultOf t_fault s0 (3 : Int32) x1).bind fun o1 =>
  if o1.1 = 0 then (some (t_newCorners, t_at, t_first, o1.2.1, o1.2.2, beer, cold))
  else ((f_X11_takeIn t_textSize t_at t_first o1.2.1 o1.2.2 text (0 : Int32) (99 : Int32)).bind fun o3 =>
  (o_st beer 16 ((8 : Int32) + t_newCorners) o3.1).bind fun w4 =>
  (f_X11_takeIn t_textSize o3.2.1 o3.2.2.1 o3.2.2.2.1 o3.2.2.2.2 text (0 : Int32) (1 : Int32)).bind fun o5 =>
  (o_st cold 16 ((8 : Int32) + t_newCorners) o5.1).bind fun w6 =>
  o_nm ((t_newCorners + (1 : Int32))) fun v7 =>
  some (v7, o5.2.1, o5.2.2.1, o5.2.2.2.1, o5.2.2.2.2, w4, w6))
def f_X11_takeCorner (t_newCorners : Int32) (t_textSize : Int32) (t_at : Int32) (t_first : Int32) (t_faultOf : Int32) (t_fault : Int32) (beer : Nat → Int32) (cold : Nat → Int32) (text : Nat → Int32) (x1 : Int32) : Option (Int32 × Int32 × Int32 × Int32 × Int32 × (Nat → Int32) × (Nat → Int32)) :=
  if (8 : Int32) ≤ t_newCorners then (f_X11_takeCorner_15 t_textSize text t_newCorners t_at t_first t_faultOf t_fault beer cold x1 (0 : Int32))
  else (f_X11_takeCorner_15 t_textSize text t_newCorners t_at t_first t_faultOf t_fault beer cold x1 (1 : Int32))
theorem hdS_X11_takeCorner : yX11_takeCorner.cls ≠ "java/lang/invoke/MethodHandle" ∧ yX11_takeCorner.cls ≠ "java/lang/invoke/VarHandle" ∧ (parseMethodDescriptor yX11_takeCorner.desc).map (fun d => d.parameters.length) = some 1 := by decide +kernel
theorem hdV_X11_takeCorner : yX11_takeCorner.cls = RX11 ∧ yX11_takeCorner.cls ≠ "java/lang/invoke/MethodHandle" ∧ yX11_takeCorner.cls ≠ "java/lang/invoke/VarHandle" ∧ (parseMethodDescriptor yX11_takeCorner.desc).map (fun d => d.parameters.length) = some 1 := ⟨rfl, hdS_X11_takeCorner⟩
set_option maxHeartbeats 4000000 in
set_option maxRecDepth 100000 in
theorem c_X11_takeCorner (l : Launch) (D : va_G) (a : Nat → ClassId) (t : Nat) (q_t : Nat) (q_w : Nat) (q_isKept : Nat) (t_all : Int32) (t_corners : Int32) (t_hearers : Int32) (t_newAll : Int32) (t_newCorners : Int32) (t_newHearers : Int32) (q_beer : Nat) (q_cold : Nat) (q_stands : Nat) (q_pinched : Nat) (q_says : Nat) (q_text : Nat) (t_textSize : Int32) (t_at : Int32) (t_first : Int32) (t_faultOf : Int32) (t_fault : Int32) (t_spoke : Int32) (t_holds : Int32) (t_undoMany : Int32) (q_seenDecree : Nat) (q_seenAt : Nat) (q_seenSpoke : Nat) (t_seen : Int32) (q_inSets : Nat) (q_book : Nat) (t_written : Int32) (beer : Nat → Int32) (cold : Nat → Int32) (text : Nat → Int32) (x1 : Int32) (o_t_newCorners : Int32) (o_t_at : Int32) (o_t_first : Int32) (o_t_faultOf : Int32) (o_t_fault : Int32) (o_beer : Nat → Int32) (o_cold : Nat → Int32) (hf : f_X11_takeCorner t_newCorners t_textSize t_at t_first t_faultOf t_fault beer cold text x1 = some (o_t_newCorners, o_t_at, o_t_first, o_t_faultOf, o_t_fault, o_beer, o_cold)) : Kv l yX11_takeCorner wsX11_takeCorner 3 72 D a t [.ref q_t, .int x1] [(q_t, .inr (11, [.ref q_w, .ref q_isKept, .int t_all, .int t_corners, .int t_hearers, .int t_newAll, .int t_newCorners, .int t_newHearers, .ref q_beer, .ref q_cold, .ref q_stands, .ref q_pinched, .ref q_says, .ref q_text, .int t_textSize, .int t_at, .int t_first, .int t_faultOf, .int t_fault, .int t_spoke, .int t_holds, .int t_undoMany, .ref q_seenDecree, .ref q_seenAt, .ref q_seenSpoke, .int t_seen, .ref q_inSets, .ref q_book, .int t_written])), (q_beer, .inl (a 0, 16, .inl beer)), (q_cold, .inl (a 0, 16, .inl cold)), (q_text, .inl (a 0, 230, .inl text))] [(q_t, .inr (11, [.ref q_w, .ref q_isKept, .int t_all, .int t_corners, .int t_hearers, .int t_newAll, .int o_t_newCorners, .int t_newHearers, .ref q_beer, .ref q_cold, .ref q_stands, .ref q_pinched, .ref q_says, .ref q_text, .int t_textSize, .int o_t_at, .int o_t_first, .int o_t_faultOf, .int o_t_fault, .int t_spoke, .int t_holds, .int t_undoMany, .ref q_seenDecree, .ref q_seenAt, .ref q_seenSpoke, .int t_seen, .ref q_inSets, .ref q_book, .int t_written])), (q_beer, .inl (a 0, 16, .inl o_beer)), (q_cold, .inl (a 0, 16, .inl o_cold)), (q_text, .inl (a 0, 230, .inl text))] := by
  refine Kv.mk (cc := cX11_takeCorner) (nL := 2) (own := RX11) (by decide) rfl rfl (Nat.le_of_ble_eq_true rfl) ?_
  intro p e s m args below meth c A Q ls hX hP hD hS hl hret
  have hx := hX.1.1
  have hb := hX.1.2.1
  have hown := hX.1.2.2.2.1
  have hts := hX.1.2.2.2.2
  have hN := hX.2.2.1
  have hA := hX.2.2.2.2
  have hl : lv_has ls 2 [(0, .ref q_t), (1, .int x1)] := hl
  have hk1 := hts (.fieldLink RX11 101 "GainsaidOnceModel" "newCorners" "I") (List.mem_of_getElem? (i := 1) rfl)
  have hk2 := hts (.fieldLink RX11 17 "GainsaidOnceModel" "beer" "[I") (List.mem_of_getElem? (i := 2) rfl)
  have hk3 := hts (.fieldLink RX11 20 "GainsaidOnceModel" "cold" "[I") (List.mem_of_getElem? (i := 3) rfl)
  have hiX11 : ∀ w ∈ wsX110, w ∈ wsX11_takeCorner := (fun _ h => List.mem_cons_of_mem _ (List.mem_append_right _ h))
  have L_15 : ∀ (t_newCorners : Int32) (t_at : Int32) (t_first : Int32) (t_faultOf : Int32) (t_fault : Int32) (beer : (Nat → Int32)) (cold : (Nat → Int32)) (x1 : Int32) (s0 : Int32) (H : Heap) (locs : List Loc) (ls : Array Slot), f_X11_takeCorner_15 t_textSize text t_newCorners t_at t_first t_faultOf t_fault beer cold x1 s0 = some (o_t_newCorners, o_t_at, o_t_first, o_t_faultOf, o_t_fault, o_beer, o_cold) → va_P D vwCl [(q_t, .inr (11, [.ref q_w, .ref q_isKept, .int t_all, .int t_corners, .int t_hearers, .int t_newAll, .int t_newCorners, .int t_newHearers, .ref q_beer, .ref q_cold, .ref q_stands, .ref q_pinched, .ref q_says, .ref q_text, .int t_textSize, .int t_at, .int t_first, .int t_faultOf, .int t_fault, .int t_spoke, .int t_holds, .int t_undoMany, .ref q_seenDecree, .ref q_seenAt, .ref q_seenSpoke, .int t_seen, .ref q_inSets, .ref q_book, .int t_written])), (q_beer, .inl (a 0, 16, .inl beer)), (q_cold, .inl (a 0, 16, .inl cold)), (q_text, .inl (a 0, 230, .inl text))] H → va_D A [(q_t, .inr (11, [.ref q_w, .ref q_isKept, .int t_all, .int t_corners, .int t_hearers, .int t_newAll, .int t_newCorners, .int t_newHearers, .ref q_beer, .ref q_cold, .ref q_stands, .ref q_pinched, .ref q_says, .ref q_text, .int t_textSize, .int t_at, .int t_first, .int t_faultOf, .int t_fault, .int t_spoke, .int t_holds, .int t_undoMany, .ref q_seenDecree, .ref q_seenAt, .ref q_seenSpoke, .int t_seen, .ref q_inSets, .ref q_book, .int t_written])), (q_beer, .inl (a 0, 16, .inl beer)), (q_cold, .inl (a 0, 16, .inl cold)), (q_text, .inl (a 0, 230, .inl text))] → va_S A s.heap H locs → lv_has ls 2 [(0, .ref q_t), (1, .int x1)] → W p l e { frames := 3, cells := 0, slots := 0, locals := 72 } s m args below meth c H locs 0 0 Q (F0 m 15 ls [.int s0, .ref q_t]) := by
    intro t_newCorners t_at t_first t_faultOf t_fault beer cold x1 s0 H locs ls hf hP hD hS hl
    unfold f_X11_takeCorner_15 at hf
    refine lv_iconst (v := (3 : Int32)) hx hb dX11_takeCorner_15 (by decide) ?_
    refine lv_iload_n hx hb dX11_takeCorner_16 rfl (lv_at hl 1 rfl) ?_
    obtain ⟨o1, ho1, hf⟩ := o_bd hf
    refine call_iV (q0 := 0) (ci := 11) hX (c_X11_want l D a t q_t q_w q_isKept t_all t_corners t_hearers t_newAll t_newCorners t_newHearers q_beer q_cold q_stands q_pinched q_says q_text t_textSize t_at t_first t_faultOf t_fault t_spoke t_holds t_undoMany q_seenDecree q_seenAt q_seenSpoke t_seen q_inSets q_book t_written s0 (3 : Int32) x1 o1.1 o1.2.1 o1.2.2 ho1) (cwV 3 hts gX11_takeCorner_X11_want rfl rfl rfl hdV_X11_want ⟨by decide, by decide⟩) (Cut.of hA hP hD hS [0] (by decide) rfl rfl (W' := [(q_t, .inr (11, [.ref q_w, .ref q_isKept, .int t_all, .int t_corners, .int t_hearers, .int t_newAll, .int t_newCorners, .int t_newHearers, .ref q_beer, .ref q_cold, .ref q_stands, .ref q_pinched, .ref q_says, .ref q_text, .int t_textSize, .int t_at, .int t_first, .int o1.2.1, .int o1.2.2, .int t_spoke, .int t_holds, .int t_undoMany, .ref q_seenDecree, .ref q_seenAt, .ref q_seenSpoke, .int t_seen, .ref q_inSets, .ref q_book, .int t_written])), (q_beer, .inl (a 0, 16, .inl beer)), (q_cold, .inl (a 0, 16, .inl cold)), (q_text, .inl (a 0, 230, .inl text))]) rfl) hS rfl rfl rfl hl.1 rfl (Nat.le_of_ble_eq_true rfl) dX11_takeCorner_17 (by decide) (fun H locs hP hD hS => ?_)
    replace hP : va_P D vwCl [(q_t, .inr (11, [.ref q_w, .ref q_isKept, .int t_all, .int t_corners, .int t_hearers, .int t_newAll, .int t_newCorners, .int t_newHearers, .ref q_beer, .ref q_cold, .ref q_stands, .ref q_pinched, .ref q_says, .ref q_text, .int t_textSize, .int t_at, .int t_first, .int o1.2.1, .int o1.2.2, .int t_spoke, .int t_holds, .int t_undoMany, .ref q_seenDecree, .ref q_seenAt, .ref q_seenSpoke, .int t_seen, .ref q_inSets, .ref q_book, .int t_written])), (q_beer, .inl (a 0, 16, .inl beer)), (q_cold, .inl (a 0, 16, .inl cold)), (q_text, .inl (a 0, 230, .inl text))] H := hP
    replace hD : va_D A [(q_t, .inr (11, [.ref q_w, .ref q_isKept, .int t_all, .int t_corners, .int t_hearers, .int t_newAll, .int t_newCorners, .int t_newHearers, .ref q_beer, .ref q_cold, .ref q_stands, .ref q_pinched, .ref q_says, .ref q_text, .int t_textSize, .int t_at, .int t_first, .int o1.2.1, .int o1.2.2, .int t_spoke, .int t_holds, .int t_undoMany, .ref q_seenDecree, .ref q_seenAt, .ref q_seenSpoke, .int t_seen, .ref q_inSets, .ref q_book, .int t_written])), (q_beer, .inl (a 0, 16, .inl beer)), (q_cold, .inl (a 0, 16, .inl cold)), (q_text, .inl (a 0, 230, .inl text))] := hD
    refine lv_if_eq (tgt := 70) hx hb dX11_takeCorner_20 (by decide) (fun c2 => ?_) (fun c2 => ?_)
    · replace hf := o_ifp hf c2
      simp only [Option.some.injEq, Prod.mk.injEq] at hf
      obtain ⟨rfl, rfl, rfl, rfl, rfl, rfl, rfl⟩ := hf
      exact hret _ _ _ _ hP hD hS dX11_takeCorner_70
    replace hf := o_ifn hf c2
    refine lv_aload_n hx hb dX11_takeCorner_23 rfl (lv_at hl 0 rfl) ?_
    refine g_get hX hiX11 hP 0 rfl rfl 8 (by decide) hk2 rfl rfl dX11_takeCorner_24 ?_
    refine lv_bipush (v := (8 : Int32)) hx hb dX11_takeCorner_27 (by decide) ?_
    refine lv_aload_n hx hb dX11_takeCorner_29 rfl (lv_at hl 0 rfl) ?_
    refine g_get hX hiX11 hP 0 rfl rfl 6 (by decide) hk1 rfl rfl dX11_takeCorner_30 ?_
    refine lv_iadd hx hb dX11_takeCorner_33 ?_
    refine lv_aload_n hx hb dX11_takeCorner_34 rfl (lv_at hl 0 rfl) ?_
    refine lv_iconst (v := (0 : Int32)) hx hb dX11_takeCorner_35 (by decide) ?_
    refine lv_bipush (v := (99 : Int32)) hx hb dX11_takeCorner_36 (by decide) ?_
    obtain ⟨o3, ho3, hf⟩ := o_bd hf
    refine call_iV (q0 := 0) (ci := 11) hX (c_X11_takeIn l D a t q_t q_w q_isKept t_all t_corners t_hearers t_newAll t_newCorners t_newHearers q_beer q_cold q_stands q_pinched q_says q_text t_textSize t_at t_first o1.2.1 o1.2.2 t_spoke t_holds t_undoMany q_seenDecree q_seenAt q_seenSpoke t_seen q_inSets q_book t_written text (0 : Int32) (99 : Int32) o3.1 o3.2.1 o3.2.2.1 o3.2.2.2.1 o3.2.2.2.2 ho3) (cwV 2 hts gX11_takeCorner_X11_takeIn rfl rfl rfl hdV_X11_takeIn ⟨by decide, by decide⟩) (Cut.of hA hP hD hS [0, 3] (by decide) rfl rfl (W' := [(q_t, .inr (11, [.ref q_w, .ref q_isKept, .int t_all, .int t_corners, .int t_hearers, .int t_newAll, .int t_newCorners, .int t_newHearers, .ref q_beer, .ref q_cold, .ref q_stands, .ref q_pinched, .ref q_says, .ref q_text, .int t_textSize, .int o3.2.1, .int o3.2.2.1, .int o3.2.2.2.1, .int o3.2.2.2.2, .int t_spoke, .int t_holds, .int t_undoMany, .ref q_seenDecree, .ref q_seenAt, .ref q_seenSpoke, .int t_seen, .ref q_inSets, .ref q_book, .int t_written])), (q_beer, .inl (a 0, 16, .inl beer)), (q_cold, .inl (a 0, 16, .inl cold)), (q_text, .inl (a 0, 230, .inl text))]) rfl) hS rfl rfl rfl hl.1 rfl (Nat.le_of_ble_eq_true rfl) dX11_takeCorner_38 (by decide) (fun H locs hP hD hS => ?_)
    replace hP : va_P D vwCl [(q_t, .inr (11, [.ref q_w, .ref q_isKept, .int t_all, .int t_corners, .int t_hearers, .int t_newAll, .int t_newCorners, .int t_newHearers, .ref q_beer, .ref q_cold, .ref q_stands, .ref q_pinched, .ref q_says, .ref q_text, .int t_textSize, .int o3.2.1, .int o3.2.2.1, .int o3.2.2.2.1, .int o3.2.2.2.2, .int t_spoke, .int t_holds, .int t_undoMany, .ref q_seenDecree, .ref q_seenAt, .ref q_seenSpoke, .int t_seen, .ref q_inSets, .ref q_book, .int t_written])), (q_beer, .inl (a 0, 16, .inl beer)), (q_cold, .inl (a 0, 16, .inl cold)), (q_text, .inl (a 0, 230, .inl text))] H := hP
    replace hD : va_D A [(q_t, .inr (11, [.ref q_w, .ref q_isKept, .int t_all, .int t_corners, .int t_hearers, .int t_newAll, .int t_newCorners, .int t_newHearers, .ref q_beer, .ref q_cold, .ref q_stands, .ref q_pinched, .ref q_says, .ref q_text, .int t_textSize, .int o3.2.1, .int o3.2.2.1, .int o3.2.2.2.1, .int o3.2.2.2.2, .int t_spoke, .int t_holds, .int t_undoMany, .ref q_seenDecree, .ref q_seenAt, .ref q_seenSpoke, .int t_seen, .ref q_inSets, .ref q_book, .int t_written])), (q_beer, .inl (a 0, 16, .inl beer)), (q_cold, .inl (a 0, 16, .inl cold)), (q_text, .inl (a 0, 230, .inl text))] := hD
    obtain ⟨hiw4, hf⟩ := o_sth hf
    refine g_iast hX hP hD hS 1 rfl hiw4 dX11_takeCorner_41 (fun w4 ew4 H locs hP hD hS => ?_)
    replace hf := hf w4 ew4
    replace hP : va_P D vwCl [(q_t, .inr (11, [.ref q_w, .ref q_isKept, .int t_all, .int t_corners, .int t_hearers, .int t_newAll, .int t_newCorners, .int t_newHearers, .ref q_beer, .ref q_cold, .ref q_stands, .ref q_pinched, .ref q_says, .ref q_text, .int t_textSize, .int o3.2.1, .int o3.2.2.1, .int o3.2.2.2.1, .int o3.2.2.2.2, .int t_spoke, .int t_holds, .int t_undoMany, .ref q_seenDecree, .ref q_seenAt, .ref q_seenSpoke, .int t_seen, .ref q_inSets, .ref q_book, .int t_written])), (q_beer, .inl (a 0, 16, .inl w4)), (q_cold, .inl (a 0, 16, .inl cold)), (q_text, .inl (a 0, 230, .inl text))] H := hP
    replace hD : va_D A [(q_t, .inr (11, [.ref q_w, .ref q_isKept, .int t_all, .int t_corners, .int t_hearers, .int t_newAll, .int t_newCorners, .int t_newHearers, .ref q_beer, .ref q_cold, .ref q_stands, .ref q_pinched, .ref q_says, .ref q_text, .int t_textSize, .int o3.2.1, .int o3.2.2.1, .int o3.2.2.2.1, .int o3.2.2.2.2, .int t_spoke, .int t_holds, .int t_undoMany, .ref q_seenDecree, .ref q_seenAt, .ref q_seenSpoke, .int t_seen, .ref q_inSets, .ref q_book, .int t_written])), (q_beer, .inl (a 0, 16, .inl w4)), (q_cold, .inl (a 0, 16, .inl cold)), (q_text, .inl (a 0, 230, .inl text))] := hD
    refine lv_aload_n hx hb dX11_takeCorner_42 rfl (lv_at hl 0 rfl) ?_
    refine g_get hX hiX11 hP 0 rfl rfl 9 (by decide) hk3 rfl rfl dX11_takeCorner_43 ?_
    refine lv_bipush (v := (8 : Int32)) hx hb dX11_takeCorner_46 (by decide) ?_
    refine lv_aload_n hx hb dX11_takeCorner_48 rfl (lv_at hl 0 rfl) ?_
    refine g_get hX hiX11 hP 0 rfl rfl 6 (by decide) hk1 rfl rfl dX11_takeCorner_49 ?_
    refine lv_iadd hx hb dX11_takeCorner_52 ?_
    refine lv_aload_n hx hb dX11_takeCorner_53 rfl (lv_at hl 0 rfl) ?_
    refine lv_iconst (v := (0 : Int32)) hx hb dX11_takeCorner_54 (by decide) ?_
    refine lv_iconst (v := (1 : Int32)) hx hb dX11_takeCorner_55 (by decide) ?_
    obtain ⟨o5, ho5, hf⟩ := o_bd hf
    refine call_iV (q0 := 0) (ci := 11) hX (c_X11_takeIn l D a t q_t q_w q_isKept t_all t_corners t_hearers t_newAll t_newCorners t_newHearers q_beer q_cold q_stands q_pinched q_says q_text t_textSize o3.2.1 o3.2.2.1 o3.2.2.2.1 o3.2.2.2.2 t_spoke t_holds t_undoMany q_seenDecree q_seenAt q_seenSpoke t_seen q_inSets q_book t_written text (0 : Int32) (1 : Int32) o5.1 o5.2.1 o5.2.2.1 o5.2.2.2.1 o5.2.2.2.2 ho5) (cwV 2 hts gX11_takeCorner_X11_takeIn rfl rfl rfl hdV_X11_takeIn ⟨by decide, by decide⟩) (Cut.of hA hP hD hS [0, 3] (by decide) rfl rfl (W' := [(q_t, .inr (11, [.ref q_w, .ref q_isKept, .int t_all, .int t_corners, .int t_hearers, .int t_newAll, .int t_newCorners, .int t_newHearers, .ref q_beer, .ref q_cold, .ref q_stands, .ref q_pinched, .ref q_says, .ref q_text, .int t_textSize, .int o5.2.1, .int o5.2.2.1, .int o5.2.2.2.1, .int o5.2.2.2.2, .int t_spoke, .int t_holds, .int t_undoMany, .ref q_seenDecree, .ref q_seenAt, .ref q_seenSpoke, .int t_seen, .ref q_inSets, .ref q_book, .int t_written])), (q_beer, .inl (a 0, 16, .inl w4)), (q_cold, .inl (a 0, 16, .inl cold)), (q_text, .inl (a 0, 230, .inl text))]) rfl) hS rfl rfl rfl hl.1 rfl (Nat.le_of_ble_eq_true rfl) dX11_takeCorner_56 (by decide) (fun H locs hP hD hS => ?_)
    replace hP : va_P D vwCl [(q_t, .inr (11, [.ref q_w, .ref q_isKept, .int t_all, .int t_corners, .int t_hearers, .int t_newAll, .int t_newCorners, .int t_newHearers, .ref q_beer, .ref q_cold, .ref q_stands, .ref q_pinched, .ref q_says, .ref q_text, .int t_textSize, .int o5.2.1, .int o5.2.2.1, .int o5.2.2.2.1, .int o5.2.2.2.2, .int t_spoke, .int t_holds, .int t_undoMany, .ref q_seenDecree, .ref q_seenAt, .ref q_seenSpoke, .int t_seen, .ref q_inSets, .ref q_book, .int t_written])), (q_beer, .inl (a 0, 16, .inl w4)), (q_cold, .inl (a 0, 16, .inl cold)), (q_text, .inl (a 0, 230, .inl text))] H := hP
    replace hD : va_D A [(q_t, .inr (11, [.ref q_w, .ref q_isKept, .int t_all, .int t_corners, .int t_hearers, .int t_newAll, .int t_newCorners, .int t_newHearers, .ref q_beer, .ref q_cold, .ref q_stands, .ref q_pinched, .ref q_says, .ref q_text, .int t_textSize, .int o5.2.1, .int o5.2.2.1, .int o5.2.2.2.1, .int o5.2.2.2.2, .int t_spoke, .int t_holds, .int t_undoMany, .ref q_seenDecree, .ref q_seenAt, .ref q_seenSpoke, .int t_seen, .ref q_inSets, .ref q_book, .int t_written])), (q_beer, .inl (a 0, 16, .inl w4)), (q_cold, .inl (a 0, 16, .inl cold)), (q_text, .inl (a 0, 230, .inl text))] := hD
    obtain ⟨hiw6, hf⟩ := o_sth hf
    refine g_iast hX hP hD hS 2 rfl hiw6 dX11_takeCorner_59 (fun w6 ew6 H locs hP hD hS => ?_)
    replace hf := hf w6 ew6
    replace hP : va_P D vwCl [(q_t, .inr (11, [.ref q_w, .ref q_isKept, .int t_all, .int t_corners, .int t_hearers, .int t_newAll, .int t_newCorners, .int t_newHearers, .ref q_beer, .ref q_cold, .ref q_stands, .ref q_pinched, .ref q_says, .ref q_text, .int t_textSize, .int o5.2.1, .int o5.2.2.1, .int o5.2.2.2.1, .int o5.2.2.2.2, .int t_spoke, .int t_holds, .int t_undoMany, .ref q_seenDecree, .ref q_seenAt, .ref q_seenSpoke, .int t_seen, .ref q_inSets, .ref q_book, .int t_written])), (q_beer, .inl (a 0, 16, .inl w4)), (q_cold, .inl (a 0, 16, .inl w6)), (q_text, .inl (a 0, 230, .inl text))] H := hP
    replace hD : va_D A [(q_t, .inr (11, [.ref q_w, .ref q_isKept, .int t_all, .int t_corners, .int t_hearers, .int t_newAll, .int t_newCorners, .int t_newHearers, .ref q_beer, .ref q_cold, .ref q_stands, .ref q_pinched, .ref q_says, .ref q_text, .int t_textSize, .int o5.2.1, .int o5.2.2.1, .int o5.2.2.2.1, .int o5.2.2.2.2, .int t_spoke, .int t_holds, .int t_undoMany, .ref q_seenDecree, .ref q_seenAt, .ref q_seenSpoke, .int t_seen, .ref q_inSets, .ref q_book, .int t_written])), (q_beer, .inl (a 0, 16, .inl w4)), (q_cold, .inl (a 0, 16, .inl w6)), (q_text, .inl (a 0, 230, .inl text))] := hD
    refine lv_aload_n hx hb dX11_takeCorner_60 rfl (lv_at hl 0 rfl) ?_
    refine lv_dup hx hb dX11_takeCorner_61 rfl ?_
    refine g_get hX hiX11 hP 0 rfl rfl 6 (by decide) hk1 rfl rfl dX11_takeCorner_62 ?_
    refine lv_iconst (v := (1 : Int32)) hx hb dX11_takeCorner_65 (by decide) ?_
    refine lv_iadd hx hb dX11_takeCorner_66 ?_
    refine lv_topi (fun v7 ev7 => ?_)
    replace hf := o_nmh hf v7 ev7
    refine g_put hX hiX11 tyX11 tyX11_ok nmX11 hP hD hS 0 rfl rfl 6 (by decide) hk1 rfl rfl rfl rfl (Nat.le_of_ble_eq_true rfl) dX11_takeCorner_67 (fun H locs hP hD hS => ?_)
    replace hP : va_P D vwCl [(q_t, .inr (11, [.ref q_w, .ref q_isKept, .int t_all, .int t_corners, .int t_hearers, .int t_newAll, .int v7, .int t_newHearers, .ref q_beer, .ref q_cold, .ref q_stands, .ref q_pinched, .ref q_says, .ref q_text, .int t_textSize, .int o5.2.1, .int o5.2.2.1, .int o5.2.2.2.1, .int o5.2.2.2.2, .int t_spoke, .int t_holds, .int t_undoMany, .ref q_seenDecree, .ref q_seenAt, .ref q_seenSpoke, .int t_seen, .ref q_inSets, .ref q_book, .int t_written])), (q_beer, .inl (a 0, 16, .inl w4)), (q_cold, .inl (a 0, 16, .inl w6)), (q_text, .inl (a 0, 230, .inl text))] H := hP
    replace hD : va_D A [(q_t, .inr (11, [.ref q_w, .ref q_isKept, .int t_all, .int t_corners, .int t_hearers, .int t_newAll, .int v7, .int t_newHearers, .ref q_beer, .ref q_cold, .ref q_stands, .ref q_pinched, .ref q_says, .ref q_text, .int t_textSize, .int o5.2.1, .int o5.2.2.1, .int o5.2.2.2.1, .int o5.2.2.2.2, .int t_spoke, .int t_holds, .int t_undoMany, .ref q_seenDecree, .ref q_seenAt, .ref q_seenSpoke, .int t_seen, .ref q_inSets, .ref q_book, .int t_written])), (q_beer, .inl (a 0, 16, .inl w4)), (q_cold, .inl (a 0, 16, .inl w6)), (q_text, .inl (a 0, 230, .inl text))] := hD
    simp only [Option.some.injEq, Prod.mk.injEq] at hf
    obtain ⟨rfl, rfl, rfl, rfl, rfl, rfl, rfl⟩ := hf
    exact hret _ _ _ _ hP hD hS dX11_takeCorner_70
  unfold f_X11_takeCorner at hf
  refine lv_aload_n hx hb dX11_takeCorner_0 rfl (lv_at hl 0 rfl) ?_
  refine lv_aload_n hx hb dX11_takeCorner_1 rfl (lv_at hl 0 rfl) ?_
  refine g_get hX hiX11 hP 0 rfl rfl 6 (by decide) hk1 rfl rfl dX11_takeCorner_2 ?_
  refine lv_bipush (v := (8 : Int32)) hx hb dX11_takeCorner_5 (by decide) ?_
  refine lv_icmp_ge (tgt := 14) hx hb dX11_takeCorner_7 (by decide) (fun c8 => ?_) (fun c8 => ?_)
  · replace hf := o_ifp hf c8
    refine lv_iconst (v := (0 : Int32)) hx hb dX11_takeCorner_14 (by decide) ?_
    exact L_15 t_newCorners t_at t_first t_faultOf t_fault beer cold x1 (0 : Int32) _ _ _ hf hP hD hS (lv_sub hl [0, 1] rfl)
  replace hf := o_ifn hf c8
  refine lv_iconst (v := (1 : Int32)) hx hb dX11_takeCorner_10 (by decide) ?_
  refine lv_goto (tgt := 15) hx hb dX11_takeCorner_11 (by decide) ?_
  exact L_15 t_newCorners t_at t_first t_faultOf t_fault beer cold x1 (1 : Int32) _ _ _ hf hP hD hS (lv_sub hl [0, 1] rfl)
def f_X11_takeHearer_15 (t_newCorners : Int32) (t_textSize : Int32) (text : Nat → Int32) (t_newHearers : Int32) (t_at : Int32) (t_first : Int32) (t_faultOf : Int32) (t_fault : Int32) (pinched : (Nat → Int32)) (says : (Nat → Int32)) (stands : (Nat → Int32)) (x1 : Int32) (s0 : Int32) : Option (Int32 × Int32 × Int32 × Int32 × Int32 × (Nat → Int32) × (Nat → Int32) × (Nat → Int32)) :=
  (f_X11_want t_faultOf t_fault s0 (3 : Int32) x1).bind fun o1 =>
  if o1.1 = 0 then (some (t_newHearers, t_at, t_first, o1.2.1, o1.2.2, pinched, says, stands))
  else ((f_X11_takeIn t_textSize t_at t_first o1.2.1 o1.2.2 text (0 : Int32) (t_newCorners - (1 : Int32))).bind fun o3 =>
  (o_st stands 18 ((9 : Int32) + t_newHearers) o3.1).bind fun w4 =>
  (f_X11_takeIn t_textSize o3.2.1 o3.2.2.1 o3.2.2.2.1 o3.2.2.2.2 text (0 : Int32) (255 : Int32)).bind fun o5 =>
  (o_st pinched 18 ((9 : Int32) + t_newHearers) o5.1).bind fun w6 =>
  (f_X11_takeIn t_textSize o5.2.1 o5.2.2.1 o5.2.2.2.1 o5.2.2.2.2 text (0 : Int32) (8 : Int32)).bind fun o7 =>
  (o_st says 18 ((9 : Int32) + t_newHearers) o7.1).bind fun w8 =>
  o_nm ((t_newHearers + (1 : Int32))) fun v9 =>
  some (v9, o7.2.1, o7.2.2.1, o7.2.2.2.1, o7.2.2.2.2, w6, w8, w4))
def f_X11_takeHearer (t_newCorners : Int32) (t_newHearers : Int32) (t_textSize : Int32) (t_at : Int32) (t_first : Int32) (t_faultOf : Int32) (t_fault : Int32) (pinched : Nat → Int32) (says : Nat → Int32) (stands : Nat → Int32) (text : Nat → Int32) (x1 : Int32) : Option (Int32 × Int32 × Int32 × Int32 × Int32 × (Nat → Int32) × (Nat → Int32) × (Nat → Int32)) :=
  if (9 : Int32) ≤ t_newHearers then (f_X11_takeHearer_15 t_newCorners t_textSize text t_newHearers t_at t_first t_faultOf t_fault pinched says stands x1 (0 : Int32))
  else (f_X11_takeHearer_15 t_newCorners t_textSize text t_newHearers t_at t_first t_faultOf t_fault pinched says stands x1 (1 : Int32))
theorem hdS_X11_takeHearer : yX11_takeHearer.cls ≠ "java/lang/invoke/MethodHandle" ∧ yX11_takeHearer.cls ≠ "java/lang/invoke/VarHandle" ∧ (parseMethodDescriptor yX11_takeHearer.desc).map (fun d => d.parameters.length) = some 1 := by decide +kernel
theorem hdV_X11_takeHearer : yX11_takeHearer.cls = RX11 ∧ yX11_takeHearer.cls ≠ "java/lang/invoke/MethodHandle" ∧ yX11_takeHearer.cls ≠ "java/lang/invoke/VarHandle" ∧ (parseMethodDescriptor yX11_takeHearer.desc).map (fun d => d.parameters.length) = some 1 := ⟨rfl, hdS_X11_takeHearer⟩
set_option maxHeartbeats 4000000 in
set_option maxRecDepth 100000 in
theorem c_X11_takeHearer (l : Launch) (D : va_G) (a : Nat → ClassId) (t : Nat) (q_t : Nat) (q_w : Nat) (q_isKept : Nat) (t_all : Int32) (t_corners : Int32) (t_hearers : Int32) (t_newAll : Int32) (t_newCorners : Int32) (t_newHearers : Int32) (q_beer : Nat) (q_cold : Nat) (q_stands : Nat) (q_pinched : Nat) (q_says : Nat) (q_text : Nat) (t_textSize : Int32) (t_at : Int32) (t_first : Int32) (t_faultOf : Int32) (t_fault : Int32) (t_spoke : Int32) (t_holds : Int32) (t_undoMany : Int32) (q_seenDecree : Nat) (q_seenAt : Nat) (q_seenSpoke : Nat) (t_seen : Int32) (q_inSets : Nat) (q_book : Nat) (t_written : Int32) (pinched : Nat → Int32) (says : Nat → Int32) (stands : Nat → Int32) (text : Nat → Int32) (x1 : Int32) (o_t_newHearers : Int32) (o_t_at : Int32) (o_t_first : Int32) (o_t_faultOf : Int32) (o_t_fault : Int32) (o_pinched : Nat → Int32) (o_says : Nat → Int32) (o_stands : Nat → Int32) (hf : f_X11_takeHearer t_newCorners t_newHearers t_textSize t_at t_first t_faultOf t_fault pinched says stands text x1 = some (o_t_newHearers, o_t_at, o_t_first, o_t_faultOf, o_t_fault, o_pinched, o_says, o_stands)) : Kv l yX11_takeHearer wsX11_takeHearer 3 72 D a t [.ref q_t, .int x1] [(q_t, .inr (11, [.ref q_w, .ref q_isKept, .int t_all, .int t_corners, .int t_hearers, .int t_newAll, .int t_newCorners, .int t_newHearers, .ref q_beer, .ref q_cold, .ref q_stands, .ref q_pinched, .ref q_says, .ref q_text, .int t_textSize, .int t_at, .int t_first, .int t_faultOf, .int t_fault, .int t_spoke, .int t_holds, .int t_undoMany, .ref q_seenDecree, .ref q_seenAt, .ref q_seenSpoke, .int t_seen, .ref q_inSets, .ref q_book, .int t_written])), (q_pinched, .inl (a 0, 18, .inl pinched)), (q_says, .inl (a 0, 18, .inl says)), (q_stands, .inl (a 0, 18, .inl stands)), (q_text, .inl (a 0, 230, .inl text))] [(q_t, .inr (11, [.ref q_w, .ref q_isKept, .int t_all, .int t_corners, .int t_hearers, .int t_newAll, .int t_newCorners, .int o_t_newHearers, .ref q_beer, .ref q_cold, .ref q_stands, .ref q_pinched, .ref q_says, .ref q_text, .int t_textSize, .int o_t_at, .int o_t_first, .int o_t_faultOf, .int o_t_fault, .int t_spoke, .int t_holds, .int t_undoMany, .ref q_seenDecree, .ref q_seenAt, .ref q_seenSpoke, .int t_seen, .ref q_inSets, .ref q_book, .int t_written])), (q_pinched, .inl (a 0, 18, .inl o_pinched)), (q_says, .inl (a 0, 18, .inl o_says)), (q_stands, .inl (a 0, 18, .inl o_stands)), (q_text, .inl (a 0, 230, .inl text))] := by
  refine Kv.mk (cc := cX11_takeHearer) (nL := 2) (own := RX11) (by decide) rfl rfl (Nat.le_of_ble_eq_true rfl) ?_
  intro p e s m args below meth c A Q ls hX hP hD hS hl hret
  have hx := hX.1.1
  have hb := hX.1.2.1
  have hown := hX.1.2.2.2.1
  have hts := hX.1.2.2.2.2
  have hN := hX.2.2.1
  have hA := hX.2.2.2.2
  have hl : lv_has ls 2 [(0, .ref q_t), (1, .int x1)] := hl
  have hk1 := hts (.fieldLink RX11 104 "GainsaidOnceModel" "newHearers" "I") (List.mem_of_getElem? (i := 1) rfl)
  have hk2 := hts (.fieldLink RX11 23 "GainsaidOnceModel" "stands" "[I") (List.mem_of_getElem? (i := 2) rfl)
  have hk3 := hts (.fieldLink RX11 101 "GainsaidOnceModel" "newCorners" "I") (List.mem_of_getElem? (i := 3) rfl)
  have hk4 := hts (.fieldLink RX11 26 "GainsaidOnceModel" "pinched" "[I") (List.mem_of_getElem? (i := 4) rfl)
  have hk5 := hts (.fieldLink RX11 29 "GainsaidOnceModel" "says" "[I") (List.mem_of_getElem? (i := 5) rfl)
  have hiX11 : ∀ w ∈ wsX110, w ∈ wsX11_takeHearer := (fun _ h => List.mem_cons_of_mem _ (List.mem_append_right _ h))
  have L_15 : ∀ (t_newHearers : Int32) (t_at : Int32) (t_first : Int32) (t_faultOf : Int32) (t_fault : Int32) (pinched : (Nat → Int32)) (says : (Nat → Int32)) (stands : (Nat → Int32)) (x1 : Int32) (s0 : Int32) (H : Heap) (locs : List Loc) (ls : Array Slot), f_X11_takeHearer_15 t_newCorners t_textSize text t_newHearers t_at t_first t_faultOf t_fault pinched says stands x1 s0 = some (o_t_newHearers, o_t_at, o_t_first, o_t_faultOf, o_t_fault, o_pinched, o_says, o_stands) → va_P D vwCl [(q_t, .inr (11, [.ref q_w, .ref q_isKept, .int t_all, .int t_corners, .int t_hearers, .int t_newAll, .int t_newCorners, .int t_newHearers, .ref q_beer, .ref q_cold, .ref q_stands, .ref q_pinched, .ref q_says, .ref q_text, .int t_textSize, .int t_at, .int t_first, .int t_faultOf, .int t_fault, .int t_spoke, .int t_holds, .int t_undoMany, .ref q_seenDecree, .ref q_seenAt, .ref q_seenSpoke, .int t_seen, .ref q_inSets, .ref q_book, .int t_written])), (q_pinched, .inl (a 0, 18, .inl pinched)), (q_says, .inl (a 0, 18, .inl says)), (q_stands, .inl (a 0, 18, .inl stands)), (q_text, .inl (a 0, 230, .inl text))] H → va_D A [(q_t, .inr (11, [.ref q_w, .ref q_isKept, .int t_all, .int t_corners, .int t_hearers, .int t_newAll, .int t_newCorners, .int t_newHearers, .ref q_beer, .ref q_cold, .ref q_stands, .ref q_pinched, .ref q_says, .ref q_text, .int t_textSize, .int t_at, .int t_first, .int t_faultOf, .int t_fault, .int t_spoke, .int t_holds, .int t_undoMany, .ref q_seenDecree, .ref q_seenAt, .ref q_seenSpoke, .int t_seen, .ref q_inSets, .ref q_book, .int t_written])), (q_pinched, .inl (a 0, 18, .inl pinched)), (q_says, .inl (a 0, 18, .inl says)), (q_stands, .inl (a 0, 18, .inl stands)), (q_text, .inl (a 0, 230, .inl text))] → va_S A s.heap H locs → lv_has ls 2 [(0, .ref q_t), (1, .int x1)] → W p l e { frames := 3, cells := 0, slots := 0, locals := 72 } s m args below meth c H locs 0 0 Q (F0 m 15 ls [.int s0, .ref q_t]) := by
    intro t_newHearers t_at t_first t_faultOf t_fault pinched says stands x1 s0 H locs ls hf hP hD hS hl
    unfold f_X11_takeHearer_15 at hf
    refine lv_iconst (v := (3 : Int32)) hx hb dX11_takeHearer_15 (by decide) ?_
    refine lv_iload_n hx hb dX11_takeHearer_16 rfl (lv_at hl 1 rfl) ?_
    obtain ⟨o1, ho1, hf⟩ := o_bd hf
    refine call_iV (q0 := 0) (ci := 11) hX (c_X11_want l D a t q_t q_w q_isKept t_all t_corners t_hearers t_newAll t_newCorners t_newHearers q_beer q_cold q_stands q_pinched q_says q_text t_textSize t_at t_first t_faultOf t_fault t_spoke t_holds t_undoMany q_seenDecree q_seenAt q_seenSpoke t_seen q_inSets q_book t_written s0 (3 : Int32) x1 o1.1 o1.2.1 o1.2.2 ho1) (cwV 3 hts gX11_takeHearer_X11_want rfl rfl rfl hdV_X11_want ⟨by decide, by decide⟩) (Cut.of hA hP hD hS [0] (by decide) rfl rfl (W' := [(q_t, .inr (11, [.ref q_w, .ref q_isKept, .int t_all, .int t_corners, .int t_hearers, .int t_newAll, .int t_newCorners, .int t_newHearers, .ref q_beer, .ref q_cold, .ref q_stands, .ref q_pinched, .ref q_says, .ref q_text, .int t_textSize, .int t_at, .int t_first, .int o1.2.1, .int o1.2.2, .int t_spoke, .int t_holds, .int t_undoMany, .ref q_seenDecree, .ref q_seenAt, .ref q_seenSpoke, .int t_seen, .ref q_inSets, .ref q_book, .int t_written])), (q_pinched, .inl (a 0, 18, .inl pinched)), (q_says, .inl (a 0, 18, .inl says)), (q_stands, .inl (a 0, 18, .inl stands)), (q_text, .inl (a 0, 230, .inl text))]) rfl) hS rfl rfl rfl hl.1 rfl (Nat.le_of_ble_eq_true rfl) dX11_takeHearer_17 (by decide) (fun H locs hP hD hS => ?_)
    replace hP : va_P D vwCl [(q_t, .inr (11, [.ref q_w, .ref q_isKept, .int t_all, .int t_corners, .int t_hearers, .int t_newAll, .int t_newCorners, .int t_newHearers, .ref q_beer, .ref q_cold, .ref q_stands, .ref q_pinched, .ref q_says, .ref q_text, .int t_textSize, .int t_at, .int t_first, .int o1.2.1, .int o1.2.2, .int t_spoke, .int t_holds, .int t_undoMany, .ref q_seenDecree, .ref q_seenAt, .ref q_seenSpoke, .int t_seen, .ref q_inSets, .ref q_book, .int t_written])), (q_pinched, .inl (a 0, 18, .inl pinched)), (q_says, .inl (a 0, 18, .inl says)), (q_stands, .inl (a 0, 18, .inl stands)), (q_text, .inl (a 0, 230, .inl text))] H := hP
    replace hD : va_D A [(q_t, .inr (11, [.ref q_w, .ref q_isKept, .int t_all, .int t_corners, .int t_hearers, .int t_newAll, .int t_newCorners, .int t_newHearers, .ref q_beer, .ref q_cold, .ref q_stands, .ref q_pinched, .ref q_says, .ref q_text, .int t_textSize, .int t_at, .int t_first, .int o1.2.1, .int o1.2.2, .int t_spoke, .int t_holds, .int t_undoMany, .ref q_seenDecree, .ref q_seenAt, .ref q_seenSpoke, .int t_seen, .ref q_inSets, .ref q_book, .int t_written])), (q_pinched, .inl (a 0, 18, .inl pinched)), (q_says, .inl (a 0, 18, .inl says)), (q_stands, .inl (a 0, 18, .inl stands)), (q_text, .inl (a 0, 230, .inl text))] := hD
    refine lv_if_eq (tgt := 95) hx hb dX11_takeHearer_20 (by decide) (fun c2 => ?_) (fun c2 => ?_)
    · replace hf := o_ifp hf c2
      simp only [Option.some.injEq, Prod.mk.injEq] at hf
      obtain ⟨rfl, rfl, rfl, rfl, rfl, rfl, rfl, rfl⟩ := hf
      exact hret _ _ _ _ hP hD hS dX11_takeHearer_95
    replace hf := o_ifn hf c2
    refine lv_aload_n hx hb dX11_takeHearer_23 rfl (lv_at hl 0 rfl) ?_
    refine g_get hX hiX11 hP 0 rfl rfl 10 (by decide) hk2 rfl rfl dX11_takeHearer_24 ?_
    refine lv_bipush (v := (9 : Int32)) hx hb dX11_takeHearer_27 (by decide) ?_
    refine lv_aload_n hx hb dX11_takeHearer_29 rfl (lv_at hl 0 rfl) ?_
    refine g_get hX hiX11 hP 0 rfl rfl 7 (by decide) hk1 rfl rfl dX11_takeHearer_30 ?_
    refine lv_iadd hx hb dX11_takeHearer_33 ?_
    refine lv_aload_n hx hb dX11_takeHearer_34 rfl (lv_at hl 0 rfl) ?_
    refine lv_iconst (v := (0 : Int32)) hx hb dX11_takeHearer_35 (by decide) ?_
    refine lv_aload_n hx hb dX11_takeHearer_36 rfl (lv_at hl 0 rfl) ?_
    refine g_get hX hiX11 hP 0 rfl rfl 6 (by decide) hk3 rfl rfl dX11_takeHearer_37 ?_
    refine lv_iconst (v := (1 : Int32)) hx hb dX11_takeHearer_40 (by decide) ?_
    refine lv_isub hx hb dX11_takeHearer_41 ?_
    obtain ⟨o3, ho3, hf⟩ := o_bd hf
    refine call_iV (q0 := 0) (ci := 11) hX (c_X11_takeIn l D a t q_t q_w q_isKept t_all t_corners t_hearers t_newAll t_newCorners t_newHearers q_beer q_cold q_stands q_pinched q_says q_text t_textSize t_at t_first o1.2.1 o1.2.2 t_spoke t_holds t_undoMany q_seenDecree q_seenAt q_seenSpoke t_seen q_inSets q_book t_written text (0 : Int32) (t_newCorners - (1 : Int32)) o3.1 o3.2.1 o3.2.2.1 o3.2.2.2.1 o3.2.2.2.2 ho3) (cwV 2 hts gX11_takeHearer_X11_takeIn rfl rfl rfl hdV_X11_takeIn ⟨by decide, by decide⟩) (Cut.of hA hP hD hS [0, 4] (by decide) rfl rfl (W' := [(q_t, .inr (11, [.ref q_w, .ref q_isKept, .int t_all, .int t_corners, .int t_hearers, .int t_newAll, .int t_newCorners, .int t_newHearers, .ref q_beer, .ref q_cold, .ref q_stands, .ref q_pinched, .ref q_says, .ref q_text, .int t_textSize, .int o3.2.1, .int o3.2.2.1, .int o3.2.2.2.1, .int o3.2.2.2.2, .int t_spoke, .int t_holds, .int t_undoMany, .ref q_seenDecree, .ref q_seenAt, .ref q_seenSpoke, .int t_seen, .ref q_inSets, .ref q_book, .int t_written])), (q_pinched, .inl (a 0, 18, .inl pinched)), (q_says, .inl (a 0, 18, .inl says)), (q_stands, .inl (a 0, 18, .inl stands)), (q_text, .inl (a 0, 230, .inl text))]) rfl) hS rfl rfl rfl hl.1 rfl (Nat.le_of_ble_eq_true rfl) dX11_takeHearer_42 (by decide) (fun H locs hP hD hS => ?_)
    replace hP : va_P D vwCl [(q_t, .inr (11, [.ref q_w, .ref q_isKept, .int t_all, .int t_corners, .int t_hearers, .int t_newAll, .int t_newCorners, .int t_newHearers, .ref q_beer, .ref q_cold, .ref q_stands, .ref q_pinched, .ref q_says, .ref q_text, .int t_textSize, .int o3.2.1, .int o3.2.2.1, .int o3.2.2.2.1, .int o3.2.2.2.2, .int t_spoke, .int t_holds, .int t_undoMany, .ref q_seenDecree, .ref q_seenAt, .ref q_seenSpoke, .int t_seen, .ref q_inSets, .ref q_book, .int t_written])), (q_pinched, .inl (a 0, 18, .inl pinched)), (q_says, .inl (a 0, 18, .inl says)), (q_stands, .inl (a 0, 18, .inl stands)), (q_text, .inl (a 0, 230, .inl text))] H := hP
    replace hD : va_D A [(q_t, .inr (11, [.ref q_w, .ref q_isKept, .int t_all, .int t_corners, .int t_hearers, .int t_newAll, .int t_newCorners, .int t_newHearers, .ref q_beer, .ref q_cold, .ref q_stands, .ref q_pinched, .ref q_says, .ref q_text, .int t_textSize, .int o3.2.1, .int o3.2.2.1, .int o3.2.2.2.1, .int o3.2.2.2.2, .int t_spoke, .int t_holds, .int t_undoMany, .ref q_seenDecree, .ref q_seenAt, .ref q_seenSpoke, .int t_seen, .ref q_inSets, .ref q_book, .int t_written])), (q_pinched, .inl (a 0, 18, .inl pinched)), (q_says, .inl (a 0, 18, .inl says)), (q_stands, .inl (a 0, 18, .inl stands)), (q_text, .inl (a 0, 230, .inl text))] := hD
    obtain ⟨hiw4, hf⟩ := o_sth hf
    refine g_iast hX hP hD hS 3 rfl hiw4 dX11_takeHearer_45 (fun w4 ew4 H locs hP hD hS => ?_)
    replace hf := hf w4 ew4
    replace hP : va_P D vwCl [(q_t, .inr (11, [.ref q_w, .ref q_isKept, .int t_all, .int t_corners, .int t_hearers, .int t_newAll, .int t_newCorners, .int t_newHearers, .ref q_beer, .ref q_cold, .ref q_stands, .ref q_pinched, .ref q_says, .ref q_text, .int t_textSize, .int o3.2.1, .int o3.2.2.1, .int o3.2.2.2.1, .int o3.2.2.2.2, .int t_spoke, .int t_holds, .int t_undoMany, .ref q_seenDecree, .ref q_seenAt, .ref q_seenSpoke, .int t_seen, .ref q_inSets, .ref q_book, .int t_written])), (q_pinched, .inl (a 0, 18, .inl pinched)), (q_says, .inl (a 0, 18, .inl says)), (q_stands, .inl (a 0, 18, .inl w4)), (q_text, .inl (a 0, 230, .inl text))] H := hP
    replace hD : va_D A [(q_t, .inr (11, [.ref q_w, .ref q_isKept, .int t_all, .int t_corners, .int t_hearers, .int t_newAll, .int t_newCorners, .int t_newHearers, .ref q_beer, .ref q_cold, .ref q_stands, .ref q_pinched, .ref q_says, .ref q_text, .int t_textSize, .int o3.2.1, .int o3.2.2.1, .int o3.2.2.2.1, .int o3.2.2.2.2, .int t_spoke, .int t_holds, .int t_undoMany, .ref q_seenDecree, .ref q_seenAt, .ref q_seenSpoke, .int t_seen, .ref q_inSets, .ref q_book, .int t_written])), (q_pinched, .inl (a 0, 18, .inl pinched)), (q_says, .inl (a 0, 18, .inl says)), (q_stands, .inl (a 0, 18, .inl w4)), (q_text, .inl (a 0, 230, .inl text))] := hD
    refine lv_aload_n hx hb dX11_takeHearer_46 rfl (lv_at hl 0 rfl) ?_
    refine g_get hX hiX11 hP 0 rfl rfl 11 (by decide) hk4 rfl rfl dX11_takeHearer_47 ?_
    refine lv_bipush (v := (9 : Int32)) hx hb dX11_takeHearer_50 (by decide) ?_
    refine lv_aload_n hx hb dX11_takeHearer_52 rfl (lv_at hl 0 rfl) ?_
    refine g_get hX hiX11 hP 0 rfl rfl 7 (by decide) hk1 rfl rfl dX11_takeHearer_53 ?_
    refine lv_iadd hx hb dX11_takeHearer_56 ?_
    refine lv_aload_n hx hb dX11_takeHearer_57 rfl (lv_at hl 0 rfl) ?_
    refine lv_iconst (v := (0 : Int32)) hx hb dX11_takeHearer_58 (by decide) ?_
    refine lv_sipush (v := (255 : Int32)) hx hb dX11_takeHearer_59 (by decide) ?_
    obtain ⟨o5, ho5, hf⟩ := o_bd hf
    refine call_iV (q0 := 0) (ci := 11) hX (c_X11_takeIn l D a t q_t q_w q_isKept t_all t_corners t_hearers t_newAll t_newCorners t_newHearers q_beer q_cold q_stands q_pinched q_says q_text t_textSize o3.2.1 o3.2.2.1 o3.2.2.2.1 o3.2.2.2.2 t_spoke t_holds t_undoMany q_seenDecree q_seenAt q_seenSpoke t_seen q_inSets q_book t_written text (0 : Int32) (255 : Int32) o5.1 o5.2.1 o5.2.2.1 o5.2.2.2.1 o5.2.2.2.2 ho5) (cwV 2 hts gX11_takeHearer_X11_takeIn rfl rfl rfl hdV_X11_takeIn ⟨by decide, by decide⟩) (Cut.of hA hP hD hS [0, 4] (by decide) rfl rfl (W' := [(q_t, .inr (11, [.ref q_w, .ref q_isKept, .int t_all, .int t_corners, .int t_hearers, .int t_newAll, .int t_newCorners, .int t_newHearers, .ref q_beer, .ref q_cold, .ref q_stands, .ref q_pinched, .ref q_says, .ref q_text, .int t_textSize, .int o5.2.1, .int o5.2.2.1, .int o5.2.2.2.1, .int o5.2.2.2.2, .int t_spoke, .int t_holds, .int t_undoMany, .ref q_seenDecree, .ref q_seenAt, .ref q_seenSpoke, .int t_seen, .ref q_inSets, .ref q_book, .int t_written])), (q_pinched, .inl (a 0, 18, .inl pinched)), (q_says, .inl (a 0, 18, .inl says)), (q_stands, .inl (a 0, 18, .inl w4)), (q_text, .inl (a 0, 230, .inl text))]) rfl) hS rfl rfl rfl hl.1 rfl (Nat.le_of_ble_eq_true rfl) dX11_takeHearer_62 (by decide) (fun H locs hP hD hS => ?_)
    replace hP : va_P D vwCl [(q_t, .inr (11, [.ref q_w, .ref q_isKept, .int t_all, .int t_corners, .int t_hearers, .int t_newAll, .int t_newCorners, .int t_newHearers, .ref q_beer, .ref q_cold, .ref q_stands, .ref q_pinched, .ref q_says, .ref q_text, .int t_textSize, .int o5.2.1, .int o5.2.2.1, .int o5.2.2.2.1, .int o5.2.2.2.2, .int t_spoke, .int t_holds, .int t_undoMany, .ref q_seenDecree, .ref q_seenAt, .ref q_seenSpoke, .int t_seen, .ref q_inSets, .ref q_book, .int t_written])), (q_pinched, .inl (a 0, 18, .inl pinched)), (q_says, .inl (a 0, 18, .inl says)), (q_stands, .inl (a 0, 18, .inl w4)), (q_text, .inl (a 0, 230, .inl text))] H := hP
    replace hD : va_D A [(q_t, .inr (11, [.ref q_w, .ref q_isKept, .int t_all, .int t_corners, .int t_hearers, .int t_newAll, .int t_newCorners, .int t_newHearers, .ref q_beer, .ref q_cold, .ref q_stands, .ref q_pinched, .ref q_says, .ref q_text, .int t_textSize, .int o5.2.1, .int o5.2.2.1, .int o5.2.2.2.1, .int o5.2.2.2.2, .int t_spoke, .int t_holds, .int t_undoMany, .ref q_seenDecree, .ref q_seenAt, .ref q_seenSpoke, .int t_seen, .ref q_inSets, .ref q_book, .int t_written])), (q_pinched, .inl (a 0, 18, .inl pinched)), (q_says, .inl (a 0, 18, .inl says)), (q_stands, .inl (a 0, 18, .inl w4)), (q_text, .inl (a 0, 230, .inl text))] := hD
    obtain ⟨hiw6, hf⟩ := o_sth hf
    refine g_iast hX hP hD hS 1 rfl hiw6 dX11_takeHearer_65 (fun w6 ew6 H locs hP hD hS => ?_)
    replace hf := hf w6 ew6
    replace hP : va_P D vwCl [(q_t, .inr (11, [.ref q_w, .ref q_isKept, .int t_all, .int t_corners, .int t_hearers, .int t_newAll, .int t_newCorners, .int t_newHearers, .ref q_beer, .ref q_cold, .ref q_stands, .ref q_pinched, .ref q_says, .ref q_text, .int t_textSize, .int o5.2.1, .int o5.2.2.1, .int o5.2.2.2.1, .int o5.2.2.2.2, .int t_spoke, .int t_holds, .int t_undoMany, .ref q_seenDecree, .ref q_seenAt, .ref q_seenSpoke, .int t_seen, .ref q_inSets, .ref q_book, .int t_written])), (q_pinched, .inl (a 0, 18, .inl w6)), (q_says, .inl (a 0, 18, .inl says)), (q_stands, .inl (a 0, 18, .inl w4)), (q_text, .inl (a 0, 230, .inl text))] H := hP
    replace hD : va_D A [(q_t, .inr (11, [.ref q_w, .ref q_isKept, .int t_all, .int t_corners, .int t_hearers, .int t_newAll, .int t_newCorners, .int t_newHearers, .ref q_beer, .ref q_cold, .ref q_stands, .ref q_pinched, .ref q_says, .ref q_text, .int t_textSize, .int o5.2.1, .int o5.2.2.1, .int o5.2.2.2.1, .int o5.2.2.2.2, .int t_spoke, .int t_holds, .int t_undoMany, .ref q_seenDecree, .ref q_seenAt, .ref q_seenSpoke, .int t_seen, .ref q_inSets, .ref q_book, .int t_written])), (q_pinched, .inl (a 0, 18, .inl w6)), (q_says, .inl (a 0, 18, .inl says)), (q_stands, .inl (a 0, 18, .inl w4)), (q_text, .inl (a 0, 230, .inl text))] := hD
    refine lv_aload_n hx hb dX11_takeHearer_66 rfl (lv_at hl 0 rfl) ?_
    refine g_get hX hiX11 hP 0 rfl rfl 12 (by decide) hk5 rfl rfl dX11_takeHearer_67 ?_
    refine lv_bipush (v := (9 : Int32)) hx hb dX11_takeHearer_70 (by decide) ?_
    refine lv_aload_n hx hb dX11_takeHearer_72 rfl (lv_at hl 0 rfl) ?_
    refine g_get hX hiX11 hP 0 rfl rfl 7 (by decide) hk1 rfl rfl dX11_takeHearer_73 ?_
    refine lv_iadd hx hb dX11_takeHearer_76 ?_
    refine lv_aload_n hx hb dX11_takeHearer_77 rfl (lv_at hl 0 rfl) ?_
    refine lv_iconst (v := (0 : Int32)) hx hb dX11_takeHearer_78 (by decide) ?_
    refine lv_bipush (v := (8 : Int32)) hx hb dX11_takeHearer_79 (by decide) ?_
    obtain ⟨o7, ho7, hf⟩ := o_bd hf
    refine call_iV (q0 := 0) (ci := 11) hX (c_X11_takeIn l D a t q_t q_w q_isKept t_all t_corners t_hearers t_newAll t_newCorners t_newHearers q_beer q_cold q_stands q_pinched q_says q_text t_textSize o5.2.1 o5.2.2.1 o5.2.2.2.1 o5.2.2.2.2 t_spoke t_holds t_undoMany q_seenDecree q_seenAt q_seenSpoke t_seen q_inSets q_book t_written text (0 : Int32) (8 : Int32) o7.1 o7.2.1 o7.2.2.1 o7.2.2.2.1 o7.2.2.2.2 ho7) (cwV 2 hts gX11_takeHearer_X11_takeIn rfl rfl rfl hdV_X11_takeIn ⟨by decide, by decide⟩) (Cut.of hA hP hD hS [0, 4] (by decide) rfl rfl (W' := [(q_t, .inr (11, [.ref q_w, .ref q_isKept, .int t_all, .int t_corners, .int t_hearers, .int t_newAll, .int t_newCorners, .int t_newHearers, .ref q_beer, .ref q_cold, .ref q_stands, .ref q_pinched, .ref q_says, .ref q_text, .int t_textSize, .int o7.2.1, .int o7.2.2.1, .int o7.2.2.2.1, .int o7.2.2.2.2, .int t_spoke, .int t_holds, .int t_undoMany, .ref q_seenDecree, .ref q_seenAt, .ref q_seenSpoke, .int t_seen, .ref q_inSets, .ref q_book, .int t_written])), (q_pinched, .inl (a 0, 18, .inl w6)), (q_says, .inl (a 0, 18, .inl says)), (q_stands, .inl (a 0, 18, .inl w4)), (q_text, .inl (a 0, 230, .inl text))]) rfl) hS rfl rfl rfl hl.1 rfl (Nat.le_of_ble_eq_true rfl) dX11_takeHearer_81 (by decide) (fun H locs hP hD hS => ?_)
    replace hP : va_P D vwCl [(q_t, .inr (11, [.ref q_w, .ref q_isKept, .int t_all, .int t_corners, .int t_hearers, .int t_newAll, .int t_newCorners, .int t_newHearers, .ref q_beer, .ref q_cold, .ref q_stands, .ref q_pinched, .ref q_says, .ref q_text, .int t_textSize, .int o7.2.1, .int o7.2.2.1, .int o7.2.2.2.1, .int o7.2.2.2.2, .int t_spoke, .int t_holds, .int t_undoMany, .ref q_seenDecree, .ref q_seenAt, .ref q_seenSpoke, .int t_seen, .ref q_inSets, .ref q_book, .int t_written])), (q_pinched, .inl (a 0, 18, .inl w6)), (q_says, .inl (a 0, 18, .inl says)), (q_stands, .inl (a 0, 18, .inl w4)), (q_text, .inl (a 0, 230, .inl text))] H := hP
    replace hD : va_D A [(q_t, .inr (11, [.ref q_w, .ref q_isKept, .int t_all, .int t_corners, .int t_hearers, .int t_newAll, .int t_newCorners, .int t_newHearers, .ref q_beer, .ref q_cold, .ref q_stands, .ref q_pinched, .ref q_says, .ref q_text, .int t_textSize, .int o7.2.1, .int o7.2.2.1, .int o7.2.2.2.1, .int o7.2.2.2.2, .int t_spoke, .int t_holds, .int t_undoMany, .ref q_seenDecree, .ref q_seenAt, .ref q_seenSpoke, .int t_seen, .ref q_inSets, .ref q_book, .int t_written])), (q_pinched, .inl (a 0, 18, .inl w6)), (q_says, .inl (a 0, 18, .inl says)), (q_stands, .inl (a 0, 18, .inl w4)), (q_text, .inl (a 0, 230, .inl text))] := hD
    obtain ⟨hiw8, hf⟩ := o_sth hf
    refine g_iast hX hP hD hS 2 rfl hiw8 dX11_takeHearer_84 (fun w8 ew8 H locs hP hD hS => ?_)
    replace hf := hf w8 ew8
    replace hP : va_P D vwCl [(q_t, .inr (11, [.ref q_w, .ref q_isKept, .int t_all, .int t_corners, .int t_hearers, .int t_newAll, .int t_newCorners, .int t_newHearers, .ref q_beer, .ref q_cold, .ref q_stands, .ref q_pinched, .ref q_says, .ref q_text, .int t_textSize, .int o7.2.1, .int o7.2.2.1, .int o7.2.2.2.1, .int o7.2.2.2.2, .int t_spoke, .int t_holds, .int t_undoMany, .ref q_seenDecree, .ref q_seenAt, .ref q_seenSpoke, .int t_seen, .ref q_inSets, .ref q_book, .int t_written])), (q_pinched, .inl (a 0, 18, .inl w6)), (q_says, .inl (a 0, 18, .inl w8)), (q_stands, .inl (a 0, 18, .inl w4)), (q_text, .inl (a 0, 230, .inl text))] H := hP
    replace hD : va_D A [(q_t, .inr (11, [.ref q_w, .ref q_isKept, .int t_all, .int t_corners, .int t_hearers, .int t_newAll, .int t_newCorners, .int t_newHearers, .ref q_beer, .ref q_cold, .ref q_stands, .ref q_pinched, .ref q_says, .ref q_text, .int t_textSize, .int o7.2.1, .int o7.2.2.1, .int o7.2.2.2.1, .int o7.2.2.2.2, .int t_spoke, .int t_holds, .int t_undoMany, .ref q_seenDecree, .ref q_seenAt, .ref q_seenSpoke, .int t_seen, .ref q_inSets, .ref q_book, .int t_written])), (q_pinched, .inl (a 0, 18, .inl w6)), (q_says, .inl (a 0, 18, .inl w8)), (q_stands, .inl (a 0, 18, .inl w4)), (q_text, .inl (a 0, 230, .inl text))] := hD
    refine lv_aload_n hx hb dX11_takeHearer_85 rfl (lv_at hl 0 rfl) ?_
    refine lv_dup hx hb dX11_takeHearer_86 rfl ?_
    refine g_get hX hiX11 hP 0 rfl rfl 7 (by decide) hk1 rfl rfl dX11_takeHearer_87 ?_
    refine lv_iconst (v := (1 : Int32)) hx hb dX11_takeHearer_90 (by decide) ?_
    refine lv_iadd hx hb dX11_takeHearer_91 ?_
    refine lv_topi (fun v9 ev9 => ?_)
    replace hf := o_nmh hf v9 ev9
    refine g_put hX hiX11 tyX11 tyX11_ok nmX11 hP hD hS 0 rfl rfl 7 (by decide) hk1 rfl rfl rfl rfl (Nat.le_of_ble_eq_true rfl) dX11_takeHearer_92 (fun H locs hP hD hS => ?_)
    replace hP : va_P D vwCl [(q_t, .inr (11, [.ref q_w, .ref q_isKept, .int t_all, .int t_corners, .int t_hearers, .int t_newAll, .int t_newCorners, .int v9, .ref q_beer, .ref q_cold, .ref q_stands, .ref q_pinched, .ref q_says, .ref q_text, .int t_textSize, .int o7.2.1, .int o7.2.2.1, .int o7.2.2.2.1, .int o7.2.2.2.2, .int t_spoke, .int t_holds, .int t_undoMany, .ref q_seenDecree, .ref q_seenAt, .ref q_seenSpoke, .int t_seen, .ref q_inSets, .ref q_book, .int t_written])), (q_pinched, .inl (a 0, 18, .inl w6)), (q_says, .inl (a 0, 18, .inl w8)), (q_stands, .inl (a 0, 18, .inl w4)), (q_text, .inl (a 0, 230, .inl text))] H := hP
    replace hD : va_D A [(q_t, .inr (11, [.ref q_w, .ref q_isKept, .int t_all, .int t_corners, .int t_hearers, .int t_newAll, .int t_newCorners, .int v9, .ref q_beer, .ref q_cold, .ref q_stands, .ref q_pinched, .ref q_says, .ref q_text, .int t_textSize, .int o7.2.1, .int o7.2.2.1, .int o7.2.2.2.1, .int o7.2.2.2.2, .int t_spoke, .int t_holds, .int t_undoMany, .ref q_seenDecree, .ref q_seenAt, .ref q_seenSpoke, .int t_seen, .ref q_inSets, .ref q_book, .int t_written])), (q_pinched, .inl (a 0, 18, .inl w6)), (q_says, .inl (a 0, 18, .inl w8)), (q_stands, .inl (a 0, 18, .inl w4)), (q_text, .inl (a 0, 230, .inl text))] := hD
    simp only [Option.some.injEq, Prod.mk.injEq] at hf
    obtain ⟨rfl, rfl, rfl, rfl, rfl, rfl, rfl, rfl⟩ := hf
    exact hret _ _ _ _ hP hD hS dX11_takeHearer_95
  unfold f_X11_takeHearer at hf
  refine lv_aload_n hx hb dX11_takeHearer_0 rfl (lv_at hl 0 rfl) ?_
  refine lv_aload_n hx hb dX11_takeHearer_1 rfl (lv_at hl 0 rfl) ?_
  refine g_get hX hiX11 hP 0 rfl rfl 7 (by decide) hk1 rfl rfl dX11_takeHearer_2 ?_
  refine lv_bipush (v := (9 : Int32)) hx hb dX11_takeHearer_5 (by decide) ?_
  refine lv_icmp_ge (tgt := 14) hx hb dX11_takeHearer_7 (by decide) (fun c10 => ?_) (fun c10 => ?_)
  · replace hf := o_ifp hf c10
    refine lv_iconst (v := (0 : Int32)) hx hb dX11_takeHearer_14 (by decide) ?_
    exact L_15 t_newHearers t_at t_first t_faultOf t_fault pinched says stands x1 (0 : Int32) _ _ _ hf hP hD hS (lv_sub hl [0, 1] rfl)
  replace hf := o_ifn hf c10
  refine lv_iconst (v := (1 : Int32)) hx hb dX11_takeHearer_10 (by decide) ?_
  refine lv_goto (tgt := 15) hx hb dX11_takeHearer_11 (by decide) ?_
  exact L_15 t_newHearers t_at t_first t_faultOf t_fault pinched says stands x1 (1 : Int32) _ _ _ hf hP hD hS (lv_sub hl [0, 1] rfl)
def f_X11_takeClause_88 (t_textSize : Int32) (text : Nat → Int32) (t_newAll : Int32) (t_newCorners : Int32) (t_newHearers : Int32) (t_at : Int32) (t_first : Int32) (t_faultOf : Int32) (t_fault : Int32) (beer : (Nat → Int32)) (cold : (Nat → Int32)) (pinched : (Nat → Int32)) (says : (Nat → Int32)) (stands : (Nat → Int32)) (x2 : Int32) (s0 : Int32) : Option (Int32 × Int32 × Int32 × Int32 × Int32 × Int32 × Int32 × (Nat → Int32) × (Nat → Int32) × (Nat → Int32) × (Nat → Int32) × (Nat → Int32)) :=
  (f_X11_want t_faultOf t_fault s0 (1 : Int32) x2).bind fun o1 =>
  if o1.1 = 0 then (some (t_newAll, t_newCorners, t_newHearers, t_at, t_first, o1.2.1, o1.2.2, beer, cold, pinched, says, stands))
  else ((f_X11_takeHearer t_newCorners t_newHearers t_textSize t_at t_first o1.2.1 o1.2.2 pinched says stands text x2).bind fun o3 =>
  some (t_newAll, t_newCorners, o3.1, o3.2.1, o3.2.2.1, o3.2.2.2.1, o3.2.2.2.2.1, beer, cold, o3.2.2.2.2.2.1, o3.2.2.2.2.2.2.1, o3.2.2.2.2.2.2.2))
def f_X11_takeClause_39 (t_textSize : Int32) (text : Nat → Int32) (t_newAll : Int32) (t_newCorners : Int32) (t_newHearers : Int32) (t_at : Int32) (t_first : Int32) (t_faultOf : Int32) (t_fault : Int32) (beer : (Nat → Int32)) (cold : (Nat → Int32)) (pinched : (Nat → Int32)) (says : (Nat → Int32)) (stands : (Nat → Int32)) (x1 : Int32) (x2 : Int32) (s0 : Int32) : Option (Int32 × Int32 × Int32 × Int32 × Int32 × Int32 × Int32 × (Nat → Int32) × (Nat → Int32) × (Nat → Int32) × (Nat → Int32) × (Nat → Int32)) :=
  (f_X11_want t_faultOf t_fault s0 (1 : Int32) x2).bind fun o4 =>
  if o4.1 = 0 then (some (t_newAll, t_newCorners, t_newHearers, t_at, t_first, o4.2.1, o4.2.2, beer, cold, pinched, says, stands))
  else (if x1 = (116 : Int32) then ((f_X11_takeClauses t_newAll t_textSize t_at t_first o4.2.1 o4.2.2 text x2).bind fun o10 =>
  some (o10.1, t_newCorners, t_newHearers, o10.2.1, o10.2.2.1, o10.2.2.2.1, o10.2.2.2.2, beer, cold, pinched, says, stands))
  else (if x1 = (99 : Int32) then ((f_X11_takeCorner t_newCorners t_textSize t_at t_first o4.2.1 o4.2.2 beer cold text x2).bind fun o9 =>
  some (t_newAll, o9.1, t_newHearers, o9.2.1, o9.2.2.1, o9.2.2.2.1, o9.2.2.2.2.1, o9.2.2.2.2.2.1, o9.2.2.2.2.2.2, pinched, says, stands))
  else (if x1 = (104 : Int32) then (f_X11_takeClause_88 t_textSize text t_newAll t_newCorners t_newHearers t_at t_first o4.2.1 o4.2.2 beer cold pinched says stands x2 (1 : Int32))
  else (f_X11_takeClause_88 t_textSize text t_newAll t_newCorners t_newHearers t_at t_first o4.2.1 o4.2.2 beer cold pinched says stands x2 (0 : Int32)))))
def f_X11_takeClause_34 (t_textSize : Int32) (text : Nat → Int32) (t_newAll : Int32) (t_newCorners : Int32) (t_newHearers : Int32) (t_at : Int32) (t_first : Int32) (t_faultOf : Int32) (t_fault : Int32) (beer : (Nat → Int32)) (cold : (Nat → Int32)) (pinched : (Nat → Int32)) (says : (Nat → Int32)) (stands : (Nat → Int32)) (x1 : Int32) (x2 : Int32) : Option (Int32 × Int32 × Int32 × Int32 × Int32 × Int32 × Int32 × (Nat → Int32) × (Nat → Int32) × (Nat → Int32) × (Nat → Int32) × (Nat → Int32)) :=
  f_X11_takeClause_39 t_textSize text t_newAll t_newCorners t_newHearers t_at t_first t_faultOf t_fault beer cold pinched says stands x1 x2 (1 : Int32)
def f_X11_takeClause (t_newAll : Int32) (t_newCorners : Int32) (t_newHearers : Int32) (t_textSize : Int32) (t_at : Int32) (t_first : Int32) (t_faultOf : Int32) (t_fault : Int32) (beer : Nat → Int32) (cold : Nat → Int32) (pinched : Nat → Int32) (says : Nat → Int32) (stands : Nat → Int32) (text : Nat → Int32) : Option (Int32 × Int32 × Int32 × Int32 × Int32 × Int32 × Int32 × (Nat → Int32) × (Nat → Int32) × (Nat → Int32) × (Nat → Int32) × (Nat → Int32)) :=
  (f_X11_here t_textSize t_at text).bind fun o11 =>
  o_nm ((o11.2 + (1 : Int32))) fun v12 =>
  if o11.1 = (116 : Int32) then (f_X11_takeClause_34 t_textSize text t_newAll t_newCorners t_newHearers v12 t_first t_faultOf t_fault beer cold pinched says stands o11.1 o11.2)
  else (if t_newAll ≤ 0 then (f_X11_takeClause_39 t_textSize text t_newAll t_newCorners t_newHearers v12 t_first t_faultOf t_fault beer cold pinched says stands o11.1 o11.2 (0 : Int32))
  else (f_X11_takeClause_34 t_textSize text t_newAll t_newCorners t_newHearers v12 t_first t_faultOf t_fault beer cold pinched says stands o11.1 o11.2))
theorem hdS_X11_takeClause : yX11_takeClause.cls ≠ "java/lang/invoke/MethodHandle" ∧ yX11_takeClause.cls ≠ "java/lang/invoke/VarHandle" ∧ (parseMethodDescriptor yX11_takeClause.desc).map (fun d => d.parameters.length) = some 0 := by decide +kernel
theorem hdV_X11_takeClause : yX11_takeClause.cls = RX11 ∧ yX11_takeClause.cls ≠ "java/lang/invoke/MethodHandle" ∧ yX11_takeClause.cls ≠ "java/lang/invoke/VarHandle" ∧ (parseMethodDescriptor yX11_takeClause.desc).map (fun d => d.parameters.length) = some 0 := ⟨rfl, hdS_X11_takeClause⟩
set_option maxHeartbeats 4000000 in
set_option maxRecDepth 100000 in
theorem c_X11_takeClause (l : Launch) (D : va_G) (a : Nat → ClassId) (t : Nat) (q_t : Nat) (q_w : Nat) (q_isKept : Nat) (t_all : Int32) (t_corners : Int32) (t_hearers : Int32) (t_newAll : Int32) (t_newCorners : Int32) (t_newHearers : Int32) (q_beer : Nat) (q_cold : Nat) (q_stands : Nat) (q_pinched : Nat) (q_says : Nat) (q_text : Nat) (t_textSize : Int32) (t_at : Int32) (t_first : Int32) (t_faultOf : Int32) (t_fault : Int32) (t_spoke : Int32) (t_holds : Int32) (t_undoMany : Int32) (q_seenDecree : Nat) (q_seenAt : Nat) (q_seenSpoke : Nat) (t_seen : Int32) (q_inSets : Nat) (q_book : Nat) (t_written : Int32) (beer : Nat → Int32) (cold : Nat → Int32) (pinched : Nat → Int32) (says : Nat → Int32) (stands : Nat → Int32) (text : Nat → Int32) (o_t_newAll : Int32) (o_t_newCorners : Int32) (o_t_newHearers : Int32) (o_t_at : Int32) (o_t_first : Int32) (o_t_faultOf : Int32) (o_t_fault : Int32) (o_beer : Nat → Int32) (o_cold : Nat → Int32) (o_pinched : Nat → Int32) (o_says : Nat → Int32) (o_stands : Nat → Int32) (hf : f_X11_takeClause t_newAll t_newCorners t_newHearers t_textSize t_at t_first t_faultOf t_fault beer cold pinched says stands text = some (o_t_newAll, o_t_newCorners, o_t_newHearers, o_t_at, o_t_first, o_t_faultOf, o_t_fault, o_beer, o_cold, o_pinched, o_says, o_stands)) : Kv l yX11_takeClause wsX11_takeClause 4 93 D a t [.ref q_t] [(q_t, .inr (11, [.ref q_w, .ref q_isKept, .int t_all, .int t_corners, .int t_hearers, .int t_newAll, .int t_newCorners, .int t_newHearers, .ref q_beer, .ref q_cold, .ref q_stands, .ref q_pinched, .ref q_says, .ref q_text, .int t_textSize, .int t_at, .int t_first, .int t_faultOf, .int t_fault, .int t_spoke, .int t_holds, .int t_undoMany, .ref q_seenDecree, .ref q_seenAt, .ref q_seenSpoke, .int t_seen, .ref q_inSets, .ref q_book, .int t_written])), (q_beer, .inl (a 0, 16, .inl beer)), (q_cold, .inl (a 0, 16, .inl cold)), (q_pinched, .inl (a 0, 18, .inl pinched)), (q_says, .inl (a 0, 18, .inl says)), (q_stands, .inl (a 0, 18, .inl stands)), (q_text, .inl (a 0, 230, .inl text))] [(q_t, .inr (11, [.ref q_w, .ref q_isKept, .int t_all, .int t_corners, .int t_hearers, .int o_t_newAll, .int o_t_newCorners, .int o_t_newHearers, .ref q_beer, .ref q_cold, .ref q_stands, .ref q_pinched, .ref q_says, .ref q_text, .int t_textSize, .int o_t_at, .int o_t_first, .int o_t_faultOf, .int o_t_fault, .int t_spoke, .int t_holds, .int t_undoMany, .ref q_seenDecree, .ref q_seenAt, .ref q_seenSpoke, .int t_seen, .ref q_inSets, .ref q_book, .int t_written])), (q_beer, .inl (a 0, 16, .inl o_beer)), (q_cold, .inl (a 0, 16, .inl o_cold)), (q_pinched, .inl (a 0, 18, .inl o_pinched)), (q_says, .inl (a 0, 18, .inl o_says)), (q_stands, .inl (a 0, 18, .inl o_stands)), (q_text, .inl (a 0, 230, .inl text))] := by
  refine Kv.mk (cc := cX11_takeClause) (nL := 3) (own := RX11) (by decide) rfl rfl (Nat.le_of_ble_eq_true rfl) ?_
  intro p e s m args below meth c A Q ls hX hP hD hS hl hret
  have hx := hX.1.1
  have hb := hX.1.2.1
  have hown := hX.1.2.2.2.1
  have hts := hX.1.2.2.2.2
  have hN := hX.2.2.1
  have hA := hX.2.2.2.2
  have hl : lv_has ls 3 [(0, .ref q_t)] := hl
  have hk1 := hts (.fieldLink RX11 69 "GainsaidOnceModel" "at" "I") (List.mem_of_getElem? (i := 1) rfl)
  have hk2 := hts (.fieldLink RX11 94 "GainsaidOnceModel" "newAll" "I") (List.mem_of_getElem? (i := 2) rfl)
  have hiX11 : ∀ w ∈ wsX110, w ∈ wsX11_takeClause := (fun _ h => List.mem_cons_of_mem _ (List.mem_append_right _ h))
  have L_88 : ∀ (t_newAll : Int32) (t_newCorners : Int32) (t_newHearers : Int32) (t_at : Int32) (t_first : Int32) (t_faultOf : Int32) (t_fault : Int32) (beer : (Nat → Int32)) (cold : (Nat → Int32)) (pinched : (Nat → Int32)) (says : (Nat → Int32)) (stands : (Nat → Int32)) (x2 : Int32) (s0 : Int32) (H : Heap) (locs : List Loc) (ls : Array Slot), f_X11_takeClause_88 t_textSize text t_newAll t_newCorners t_newHearers t_at t_first t_faultOf t_fault beer cold pinched says stands x2 s0 = some (o_t_newAll, o_t_newCorners, o_t_newHearers, o_t_at, o_t_first, o_t_faultOf, o_t_fault, o_beer, o_cold, o_pinched, o_says, o_stands) → va_P D vwCl [(q_t, .inr (11, [.ref q_w, .ref q_isKept, .int t_all, .int t_corners, .int t_hearers, .int t_newAll, .int t_newCorners, .int t_newHearers, .ref q_beer, .ref q_cold, .ref q_stands, .ref q_pinched, .ref q_says, .ref q_text, .int t_textSize, .int t_at, .int t_first, .int t_faultOf, .int t_fault, .int t_spoke, .int t_holds, .int t_undoMany, .ref q_seenDecree, .ref q_seenAt, .ref q_seenSpoke, .int t_seen, .ref q_inSets, .ref q_book, .int t_written])), (q_beer, .inl (a 0, 16, .inl beer)), (q_cold, .inl (a 0, 16, .inl cold)), (q_pinched, .inl (a 0, 18, .inl pinched)), (q_says, .inl (a 0, 18, .inl says)), (q_stands, .inl (a 0, 18, .inl stands)), (q_text, .inl (a 0, 230, .inl text))] H → va_D A [(q_t, .inr (11, [.ref q_w, .ref q_isKept, .int t_all, .int t_corners, .int t_hearers, .int t_newAll, .int t_newCorners, .int t_newHearers, .ref q_beer, .ref q_cold, .ref q_stands, .ref q_pinched, .ref q_says, .ref q_text, .int t_textSize, .int t_at, .int t_first, .int t_faultOf, .int t_fault, .int t_spoke, .int t_holds, .int t_undoMany, .ref q_seenDecree, .ref q_seenAt, .ref q_seenSpoke, .int t_seen, .ref q_inSets, .ref q_book, .int t_written])), (q_beer, .inl (a 0, 16, .inl beer)), (q_cold, .inl (a 0, 16, .inl cold)), (q_pinched, .inl (a 0, 18, .inl pinched)), (q_says, .inl (a 0, 18, .inl says)), (q_stands, .inl (a 0, 18, .inl stands)), (q_text, .inl (a 0, 230, .inl text))] → va_S A s.heap H locs → lv_has ls 3 [(0, .ref q_t), (2, .int x2)] → W p l e { frames := 4, cells := 0, slots := 0, locals := 93 } s m args below meth c H locs 0 0 Q (F0 m 88 ls [.int s0, .ref q_t]) := by
    intro t_newAll t_newCorners t_newHearers t_at t_first t_faultOf t_fault beer cold pinched says stands x2 s0 H locs ls hf hP hD hS hl
    unfold f_X11_takeClause_88 at hf
    refine lv_iconst (v := (1 : Int32)) hx hb dX11_takeClause_88 (by decide) ?_
    refine lv_iload_n hx hb dX11_takeClause_89 rfl (lv_at hl 1 rfl) ?_
    obtain ⟨o1, ho1, hf⟩ := o_bd hf
    refine call_iV (q0 := 0) (ci := 11) hX (c_X11_want l D a t q_t q_w q_isKept t_all t_corners t_hearers t_newAll t_newCorners t_newHearers q_beer q_cold q_stands q_pinched q_says q_text t_textSize t_at t_first t_faultOf t_fault t_spoke t_holds t_undoMany q_seenDecree q_seenAt q_seenSpoke t_seen q_inSets q_book t_written s0 (1 : Int32) x2 o1.1 o1.2.1 o1.2.2 ho1) (cwV 3 hts gX11_takeClause_X11_want rfl rfl rfl hdV_X11_want ⟨by decide, by decide⟩) (Cut.of hA hP hD hS [0] (by decide) rfl rfl (W' := [(q_t, .inr (11, [.ref q_w, .ref q_isKept, .int t_all, .int t_corners, .int t_hearers, .int t_newAll, .int t_newCorners, .int t_newHearers, .ref q_beer, .ref q_cold, .ref q_stands, .ref q_pinched, .ref q_says, .ref q_text, .int t_textSize, .int t_at, .int t_first, .int o1.2.1, .int o1.2.2, .int t_spoke, .int t_holds, .int t_undoMany, .ref q_seenDecree, .ref q_seenAt, .ref q_seenSpoke, .int t_seen, .ref q_inSets, .ref q_book, .int t_written])), (q_beer, .inl (a 0, 16, .inl beer)), (q_cold, .inl (a 0, 16, .inl cold)), (q_pinched, .inl (a 0, 18, .inl pinched)), (q_says, .inl (a 0, 18, .inl says)), (q_stands, .inl (a 0, 18, .inl stands)), (q_text, .inl (a 0, 230, .inl text))]) rfl) hS rfl rfl rfl hl.1 rfl (Nat.le_of_ble_eq_true rfl) dX11_takeClause_90 (by decide) (fun H locs hP hD hS => ?_)
    replace hP : va_P D vwCl [(q_t, .inr (11, [.ref q_w, .ref q_isKept, .int t_all, .int t_corners, .int t_hearers, .int t_newAll, .int t_newCorners, .int t_newHearers, .ref q_beer, .ref q_cold, .ref q_stands, .ref q_pinched, .ref q_says, .ref q_text, .int t_textSize, .int t_at, .int t_first, .int o1.2.1, .int o1.2.2, .int t_spoke, .int t_holds, .int t_undoMany, .ref q_seenDecree, .ref q_seenAt, .ref q_seenSpoke, .int t_seen, .ref q_inSets, .ref q_book, .int t_written])), (q_beer, .inl (a 0, 16, .inl beer)), (q_cold, .inl (a 0, 16, .inl cold)), (q_pinched, .inl (a 0, 18, .inl pinched)), (q_says, .inl (a 0, 18, .inl says)), (q_stands, .inl (a 0, 18, .inl stands)), (q_text, .inl (a 0, 230, .inl text))] H := hP
    replace hD : va_D A [(q_t, .inr (11, [.ref q_w, .ref q_isKept, .int t_all, .int t_corners, .int t_hearers, .int t_newAll, .int t_newCorners, .int t_newHearers, .ref q_beer, .ref q_cold, .ref q_stands, .ref q_pinched, .ref q_says, .ref q_text, .int t_textSize, .int t_at, .int t_first, .int o1.2.1, .int o1.2.2, .int t_spoke, .int t_holds, .int t_undoMany, .ref q_seenDecree, .ref q_seenAt, .ref q_seenSpoke, .int t_seen, .ref q_inSets, .ref q_book, .int t_written])), (q_beer, .inl (a 0, 16, .inl beer)), (q_cold, .inl (a 0, 16, .inl cold)), (q_pinched, .inl (a 0, 18, .inl pinched)), (q_says, .inl (a 0, 18, .inl says)), (q_stands, .inl (a 0, 18, .inl stands)), (q_text, .inl (a 0, 230, .inl text))] := hD
    refine lv_if_eq (tgt := 101) hx hb dX11_takeClause_93 (by decide) (fun c2 => ?_) (fun c2 => ?_)
    · replace hf := o_ifp hf c2
      simp only [Option.some.injEq, Prod.mk.injEq] at hf
      obtain ⟨rfl, rfl, rfl, rfl, rfl, rfl, rfl, rfl, rfl, rfl, rfl, rfl⟩ := hf
      exact hret _ _ _ _ hP hD hS dX11_takeClause_101
    replace hf := o_ifn hf c2
    refine lv_aload_n hx hb dX11_takeClause_96 rfl (lv_at hl 0 rfl) ?_
    refine lv_iload_n hx hb dX11_takeClause_97 rfl (lv_at hl 1 rfl) ?_
    obtain ⟨o3, ho3, hf⟩ := o_bd hf
    refine call_vV (q0 := 0) (ci := 11) hX (c_X11_takeHearer l D a t q_t q_w q_isKept t_all t_corners t_hearers t_newAll t_newCorners t_newHearers q_beer q_cold q_stands q_pinched q_says q_text t_textSize t_at t_first o1.2.1 o1.2.2 t_spoke t_holds t_undoMany q_seenDecree q_seenAt q_seenSpoke t_seen q_inSets q_book t_written pinched says stands text x2 o3.1 o3.2.1 o3.2.2.1 o3.2.2.2.1 o3.2.2.2.2.1 o3.2.2.2.2.2.1 o3.2.2.2.2.2.2.1 o3.2.2.2.2.2.2.2 ho3) (cwV 1 hts gX11_takeClause_X11_takeHearer rfl rfl rfl hdV_X11_takeHearer ⟨by decide, by decide⟩) (Cut.of hA hP hD hS [0, 3, 4, 5, 6] (by decide) rfl rfl (W' := [(q_t, .inr (11, [.ref q_w, .ref q_isKept, .int t_all, .int t_corners, .int t_hearers, .int t_newAll, .int t_newCorners, .int o3.1, .ref q_beer, .ref q_cold, .ref q_stands, .ref q_pinched, .ref q_says, .ref q_text, .int t_textSize, .int o3.2.1, .int o3.2.2.1, .int o3.2.2.2.1, .int o3.2.2.2.2.1, .int t_spoke, .int t_holds, .int t_undoMany, .ref q_seenDecree, .ref q_seenAt, .ref q_seenSpoke, .int t_seen, .ref q_inSets, .ref q_book, .int t_written])), (q_beer, .inl (a 0, 16, .inl beer)), (q_cold, .inl (a 0, 16, .inl cold)), (q_pinched, .inl (a 0, 18, .inl o3.2.2.2.2.2.1)), (q_says, .inl (a 0, 18, .inl o3.2.2.2.2.2.2.1)), (q_stands, .inl (a 0, 18, .inl o3.2.2.2.2.2.2.2)), (q_text, .inl (a 0, 230, .inl text))]) rfl) hS rfl rfl rfl hl.1 rfl (Nat.le_of_ble_eq_true rfl) dX11_takeClause_98 (by decide) (fun H locs hP hD hS => ?_)
    replace hP : va_P D vwCl [(q_t, .inr (11, [.ref q_w, .ref q_isKept, .int t_all, .int t_corners, .int t_hearers, .int t_newAll, .int t_newCorners, .int o3.1, .ref q_beer, .ref q_cold, .ref q_stands, .ref q_pinched, .ref q_says, .ref q_text, .int t_textSize, .int o3.2.1, .int o3.2.2.1, .int o3.2.2.2.1, .int o3.2.2.2.2.1, .int t_spoke, .int t_holds, .int t_undoMany, .ref q_seenDecree, .ref q_seenAt, .ref q_seenSpoke, .int t_seen, .ref q_inSets, .ref q_book, .int t_written])), (q_beer, .inl (a 0, 16, .inl beer)), (q_cold, .inl (a 0, 16, .inl cold)), (q_pinched, .inl (a 0, 18, .inl o3.2.2.2.2.2.1)), (q_says, .inl (a 0, 18, .inl o3.2.2.2.2.2.2.1)), (q_stands, .inl (a 0, 18, .inl o3.2.2.2.2.2.2.2)), (q_text, .inl (a 0, 230, .inl text))] H := hP
    replace hD : va_D A [(q_t, .inr (11, [.ref q_w, .ref q_isKept, .int t_all, .int t_corners, .int t_hearers, .int t_newAll, .int t_newCorners, .int o3.1, .ref q_beer, .ref q_cold, .ref q_stands, .ref q_pinched, .ref q_says, .ref q_text, .int t_textSize, .int o3.2.1, .int o3.2.2.1, .int o3.2.2.2.1, .int o3.2.2.2.2.1, .int t_spoke, .int t_holds, .int t_undoMany, .ref q_seenDecree, .ref q_seenAt, .ref q_seenSpoke, .int t_seen, .ref q_inSets, .ref q_book, .int t_written])), (q_beer, .inl (a 0, 16, .inl beer)), (q_cold, .inl (a 0, 16, .inl cold)), (q_pinched, .inl (a 0, 18, .inl o3.2.2.2.2.2.1)), (q_says, .inl (a 0, 18, .inl o3.2.2.2.2.2.2.1)), (q_stands, .inl (a 0, 18, .inl o3.2.2.2.2.2.2.2)), (q_text, .inl (a 0, 230, .inl text))] := hD
    simp only [Option.some.injEq, Prod.mk.injEq] at hf
    obtain ⟨rfl, rfl, rfl, rfl, rfl, rfl, rfl, rfl, rfl, rfl, rfl, rfl⟩ := hf
    exact hret _ _ _ _ hP hD hS dX11_takeClause_101
  have L_39 : ∀ (t_newAll : Int32) (t_newCorners : Int32) (t_newHearers : Int32) (t_at : Int32) (t_first : Int32) (t_faultOf : Int32) (t_fault : Int32) (beer : (Nat → Int32)) (cold : (Nat → Int32)) (pinched : (Nat → Int32)) (says : (Nat → Int32)) (stands : (Nat → Int32)) (x1 : Int32) (x2 : Int32) (s0 : Int32) (H : Heap) (locs : List Loc) (ls : Array Slot), f_X11_takeClause_39 t_textSize text t_newAll t_newCorners t_newHearers t_at t_first t_faultOf t_fault beer cold pinched says stands x1 x2 s0 = some (o_t_newAll, o_t_newCorners, o_t_newHearers, o_t_at, o_t_first, o_t_faultOf, o_t_fault, o_beer, o_cold, o_pinched, o_says, o_stands) → va_P D vwCl [(q_t, .inr (11, [.ref q_w, .ref q_isKept, .int t_all, .int t_corners, .int t_hearers, .int t_newAll, .int t_newCorners, .int t_newHearers, .ref q_beer, .ref q_cold, .ref q_stands, .ref q_pinched, .ref q_says, .ref q_text, .int t_textSize, .int t_at, .int t_first, .int t_faultOf, .int t_fault, .int t_spoke, .int t_holds, .int t_undoMany, .ref q_seenDecree, .ref q_seenAt, .ref q_seenSpoke, .int t_seen, .ref q_inSets, .ref q_book, .int t_written])), (q_beer, .inl (a 0, 16, .inl beer)), (q_cold, .inl (a 0, 16, .inl cold)), (q_pinched, .inl (a 0, 18, .inl pinched)), (q_says, .inl (a 0, 18, .inl says)), (q_stands, .inl (a 0, 18, .inl stands)), (q_text, .inl (a 0, 230, .inl text))] H → va_D A [(q_t, .inr (11, [.ref q_w, .ref q_isKept, .int t_all, .int t_corners, .int t_hearers, .int t_newAll, .int t_newCorners, .int t_newHearers, .ref q_beer, .ref q_cold, .ref q_stands, .ref q_pinched, .ref q_says, .ref q_text, .int t_textSize, .int t_at, .int t_first, .int t_faultOf, .int t_fault, .int t_spoke, .int t_holds, .int t_undoMany, .ref q_seenDecree, .ref q_seenAt, .ref q_seenSpoke, .int t_seen, .ref q_inSets, .ref q_book, .int t_written])), (q_beer, .inl (a 0, 16, .inl beer)), (q_cold, .inl (a 0, 16, .inl cold)), (q_pinched, .inl (a 0, 18, .inl pinched)), (q_says, .inl (a 0, 18, .inl says)), (q_stands, .inl (a 0, 18, .inl stands)), (q_text, .inl (a 0, 230, .inl text))] → va_S A s.heap H locs → lv_has ls 3 [(0, .ref q_t), (1, .int x1), (2, .int x2)] → W p l e { frames := 4, cells := 0, slots := 0, locals := 93 } s m args below meth c H locs 0 0 Q (F0 m 39 ls [.int s0, .ref q_t]) := by
    intro t_newAll t_newCorners t_newHearers t_at t_first t_faultOf t_fault beer cold pinched says stands x1 x2 s0 H locs ls hf hP hD hS hl
    unfold f_X11_takeClause_39 at hf
    refine lv_iconst (v := (1 : Int32)) hx hb dX11_takeClause_39 (by decide) ?_
    refine lv_iload_n hx hb dX11_takeClause_40 rfl (lv_at hl 2 rfl) ?_
    obtain ⟨o4, ho4, hf⟩ := o_bd hf
    refine call_iV (q0 := 0) (ci := 11) hX (c_X11_want l D a t q_t q_w q_isKept t_all t_corners t_hearers t_newAll t_newCorners t_newHearers q_beer q_cold q_stands q_pinched q_says q_text t_textSize t_at t_first t_faultOf t_fault t_spoke t_holds t_undoMany q_seenDecree q_seenAt q_seenSpoke t_seen q_inSets q_book t_written s0 (1 : Int32) x2 o4.1 o4.2.1 o4.2.2 ho4) (cwV 3 hts gX11_takeClause_X11_want rfl rfl rfl hdV_X11_want ⟨by decide, by decide⟩) (Cut.of hA hP hD hS [0] (by decide) rfl rfl (W' := [(q_t, .inr (11, [.ref q_w, .ref q_isKept, .int t_all, .int t_corners, .int t_hearers, .int t_newAll, .int t_newCorners, .int t_newHearers, .ref q_beer, .ref q_cold, .ref q_stands, .ref q_pinched, .ref q_says, .ref q_text, .int t_textSize, .int t_at, .int t_first, .int o4.2.1, .int o4.2.2, .int t_spoke, .int t_holds, .int t_undoMany, .ref q_seenDecree, .ref q_seenAt, .ref q_seenSpoke, .int t_seen, .ref q_inSets, .ref q_book, .int t_written])), (q_beer, .inl (a 0, 16, .inl beer)), (q_cold, .inl (a 0, 16, .inl cold)), (q_pinched, .inl (a 0, 18, .inl pinched)), (q_says, .inl (a 0, 18, .inl says)), (q_stands, .inl (a 0, 18, .inl stands)), (q_text, .inl (a 0, 230, .inl text))]) rfl) hS rfl rfl rfl hl.1 rfl (Nat.le_of_ble_eq_true rfl) dX11_takeClause_41 (by decide) (fun H locs hP hD hS => ?_)
    replace hP : va_P D vwCl [(q_t, .inr (11, [.ref q_w, .ref q_isKept, .int t_all, .int t_corners, .int t_hearers, .int t_newAll, .int t_newCorners, .int t_newHearers, .ref q_beer, .ref q_cold, .ref q_stands, .ref q_pinched, .ref q_says, .ref q_text, .int t_textSize, .int t_at, .int t_first, .int o4.2.1, .int o4.2.2, .int t_spoke, .int t_holds, .int t_undoMany, .ref q_seenDecree, .ref q_seenAt, .ref q_seenSpoke, .int t_seen, .ref q_inSets, .ref q_book, .int t_written])), (q_beer, .inl (a 0, 16, .inl beer)), (q_cold, .inl (a 0, 16, .inl cold)), (q_pinched, .inl (a 0, 18, .inl pinched)), (q_says, .inl (a 0, 18, .inl says)), (q_stands, .inl (a 0, 18, .inl stands)), (q_text, .inl (a 0, 230, .inl text))] H := hP
    replace hD : va_D A [(q_t, .inr (11, [.ref q_w, .ref q_isKept, .int t_all, .int t_corners, .int t_hearers, .int t_newAll, .int t_newCorners, .int t_newHearers, .ref q_beer, .ref q_cold, .ref q_stands, .ref q_pinched, .ref q_says, .ref q_text, .int t_textSize, .int t_at, .int t_first, .int o4.2.1, .int o4.2.2, .int t_spoke, .int t_holds, .int t_undoMany, .ref q_seenDecree, .ref q_seenAt, .ref q_seenSpoke, .int t_seen, .ref q_inSets, .ref q_book, .int t_written])), (q_beer, .inl (a 0, 16, .inl beer)), (q_cold, .inl (a 0, 16, .inl cold)), (q_pinched, .inl (a 0, 18, .inl pinched)), (q_says, .inl (a 0, 18, .inl says)), (q_stands, .inl (a 0, 18, .inl stands)), (q_text, .inl (a 0, 230, .inl text))] := hD
    refine lv_if_ne (tgt := 48) hx hb dX11_takeClause_44 (by decide) (fun c5 => ?_) (fun c5 => ?_)
    · replace hf := o_ifn hf c5
      refine lv_iload_n hx hb dX11_takeClause_48 rfl (lv_at hl 1 rfl) ?_
      refine lv_bipush (v := (116 : Int32)) hx hb dX11_takeClause_49 (by decide) ?_
      refine lv_icmp_ne (tgt := 62) hx hb dX11_takeClause_51 (by decide) (fun c6 => ?_) (fun c6 => ?_)
      · replace hf := o_ifn hf c6
        refine lv_iload_n hx hb dX11_takeClause_62 rfl (lv_at hl 1 rfl) ?_
        refine lv_bipush (v := (99 : Int32)) hx hb dX11_takeClause_63 (by decide) ?_
        refine lv_icmp_ne (tgt := 76) hx hb dX11_takeClause_65 (by decide) (fun c7 => ?_) (fun c7 => ?_)
        · replace hf := o_ifn hf c7
          refine lv_aload_n hx hb dX11_takeClause_76 rfl (lv_at hl 0 rfl) ?_
          refine lv_iload_n hx hb dX11_takeClause_77 rfl (lv_at hl 1 rfl) ?_
          refine lv_bipush (v := (104 : Int32)) hx hb dX11_takeClause_78 (by decide) ?_
          refine lv_icmp_ne (tgt := 87) hx hb dX11_takeClause_80 (by decide) (fun c8 => ?_) (fun c8 => ?_)
          · replace hf := o_ifn hf c8
            refine lv_iconst (v := (0 : Int32)) hx hb dX11_takeClause_87 (by decide) ?_
            exact L_88 t_newAll t_newCorners t_newHearers t_at t_first o4.2.1 o4.2.2 beer cold pinched says stands x2 (0 : Int32) _ _ _ hf hP hD hS (lv_sub hl [0, 2] rfl)
          replace hf := o_ifp hf c8
          refine lv_iconst (v := (1 : Int32)) hx hb dX11_takeClause_83 (by decide) ?_
          refine lv_goto (tgt := 88) hx hb dX11_takeClause_84 (by decide) ?_
          exact L_88 t_newAll t_newCorners t_newHearers t_at t_first o4.2.1 o4.2.2 beer cold pinched says stands x2 (1 : Int32) _ _ _ hf hP hD hS (lv_sub hl [0, 2] rfl)
        replace hf := o_ifp hf c7
        refine lv_aload_n hx hb dX11_takeClause_68 rfl (lv_at hl 0 rfl) ?_
        refine lv_iload_n hx hb dX11_takeClause_69 rfl (lv_at hl 2 rfl) ?_
        obtain ⟨o9, ho9, hf⟩ := o_bd hf
        refine call_vV (q0 := 0) (ci := 11) hX (c_X11_takeCorner l D a t q_t q_w q_isKept t_all t_corners t_hearers t_newAll t_newCorners t_newHearers q_beer q_cold q_stands q_pinched q_says q_text t_textSize t_at t_first o4.2.1 o4.2.2 t_spoke t_holds t_undoMany q_seenDecree q_seenAt q_seenSpoke t_seen q_inSets q_book t_written beer cold text x2 o9.1 o9.2.1 o9.2.2.1 o9.2.2.2.1 o9.2.2.2.2.1 o9.2.2.2.2.2.1 o9.2.2.2.2.2.2 ho9) (cwV 1 hts gX11_takeClause_X11_takeCorner rfl rfl rfl hdV_X11_takeCorner ⟨by decide, by decide⟩) (Cut.of hA hP hD hS [0, 1, 2, 6] (by decide) rfl rfl (W' := [(q_t, .inr (11, [.ref q_w, .ref q_isKept, .int t_all, .int t_corners, .int t_hearers, .int t_newAll, .int o9.1, .int t_newHearers, .ref q_beer, .ref q_cold, .ref q_stands, .ref q_pinched, .ref q_says, .ref q_text, .int t_textSize, .int o9.2.1, .int o9.2.2.1, .int o9.2.2.2.1, .int o9.2.2.2.2.1, .int t_spoke, .int t_holds, .int t_undoMany, .ref q_seenDecree, .ref q_seenAt, .ref q_seenSpoke, .int t_seen, .ref q_inSets, .ref q_book, .int t_written])), (q_beer, .inl (a 0, 16, .inl o9.2.2.2.2.2.1)), (q_cold, .inl (a 0, 16, .inl o9.2.2.2.2.2.2)), (q_pinched, .inl (a 0, 18, .inl pinched)), (q_says, .inl (a 0, 18, .inl says)), (q_stands, .inl (a 0, 18, .inl stands)), (q_text, .inl (a 0, 230, .inl text))]) rfl) hS rfl rfl rfl hl.1 rfl (Nat.le_of_ble_eq_true rfl) dX11_takeClause_70 (by decide) (fun H locs hP hD hS => ?_)
        replace hP : va_P D vwCl [(q_t, .inr (11, [.ref q_w, .ref q_isKept, .int t_all, .int t_corners, .int t_hearers, .int t_newAll, .int o9.1, .int t_newHearers, .ref q_beer, .ref q_cold, .ref q_stands, .ref q_pinched, .ref q_says, .ref q_text, .int t_textSize, .int o9.2.1, .int o9.2.2.1, .int o9.2.2.2.1, .int o9.2.2.2.2.1, .int t_spoke, .int t_holds, .int t_undoMany, .ref q_seenDecree, .ref q_seenAt, .ref q_seenSpoke, .int t_seen, .ref q_inSets, .ref q_book, .int t_written])), (q_beer, .inl (a 0, 16, .inl o9.2.2.2.2.2.1)), (q_cold, .inl (a 0, 16, .inl o9.2.2.2.2.2.2)), (q_pinched, .inl (a 0, 18, .inl pinched)), (q_says, .inl (a 0, 18, .inl says)), (q_stands, .inl (a 0, 18, .inl stands)), (q_text, .inl (a 0, 230, .inl text))] H := hP
        replace hD : va_D A [(q_t, .inr (11, [.ref q_w, .ref q_isKept, .int t_all, .int t_corners, .int t_hearers, .int t_newAll, .int o9.1, .int t_newHearers, .ref q_beer, .ref q_cold, .ref q_stands, .ref q_pinched, .ref q_says, .ref q_text, .int t_textSize, .int o9.2.1, .int o9.2.2.1, .int o9.2.2.2.1, .int o9.2.2.2.2.1, .int t_spoke, .int t_holds, .int t_undoMany, .ref q_seenDecree, .ref q_seenAt, .ref q_seenSpoke, .int t_seen, .ref q_inSets, .ref q_book, .int t_written])), (q_beer, .inl (a 0, 16, .inl o9.2.2.2.2.2.1)), (q_cold, .inl (a 0, 16, .inl o9.2.2.2.2.2.2)), (q_pinched, .inl (a 0, 18, .inl pinched)), (q_says, .inl (a 0, 18, .inl says)), (q_stands, .inl (a 0, 18, .inl stands)), (q_text, .inl (a 0, 230, .inl text))] := hD
        refine lv_goto (tgt := 101) hx hb dX11_takeClause_73 (by decide) ?_
        simp only [Option.some.injEq, Prod.mk.injEq] at hf
        obtain ⟨rfl, rfl, rfl, rfl, rfl, rfl, rfl, rfl, rfl, rfl, rfl, rfl⟩ := hf
        exact hret _ _ _ _ hP hD hS dX11_takeClause_101
      replace hf := o_ifp hf c6
      refine lv_aload_n hx hb dX11_takeClause_54 rfl (lv_at hl 0 rfl) ?_
      refine lv_iload_n hx hb dX11_takeClause_55 rfl (lv_at hl 2 rfl) ?_
      obtain ⟨o10, ho10, hf⟩ := o_bd hf
      refine call_vV (q0 := 0) (ci := 11) hX (c_X11_takeClauses l D a t q_t q_w q_isKept t_all t_corners t_hearers t_newAll t_newCorners t_newHearers q_beer q_cold q_stands q_pinched q_says q_text t_textSize t_at t_first o4.2.1 o4.2.2 t_spoke t_holds t_undoMany q_seenDecree q_seenAt q_seenSpoke t_seen q_inSets q_book t_written text x2 o10.1 o10.2.1 o10.2.2.1 o10.2.2.2.1 o10.2.2.2.2 ho10) (cwV 1 hts gX11_takeClause_X11_takeClauses rfl rfl rfl hdV_X11_takeClauses ⟨by decide, by decide⟩) (Cut.of hA hP hD hS [0, 6] (by decide) rfl rfl (W' := [(q_t, .inr (11, [.ref q_w, .ref q_isKept, .int t_all, .int t_corners, .int t_hearers, .int o10.1, .int t_newCorners, .int t_newHearers, .ref q_beer, .ref q_cold, .ref q_stands, .ref q_pinched, .ref q_says, .ref q_text, .int t_textSize, .int o10.2.1, .int o10.2.2.1, .int o10.2.2.2.1, .int o10.2.2.2.2, .int t_spoke, .int t_holds, .int t_undoMany, .ref q_seenDecree, .ref q_seenAt, .ref q_seenSpoke, .int t_seen, .ref q_inSets, .ref q_book, .int t_written])), (q_beer, .inl (a 0, 16, .inl beer)), (q_cold, .inl (a 0, 16, .inl cold)), (q_pinched, .inl (a 0, 18, .inl pinched)), (q_says, .inl (a 0, 18, .inl says)), (q_stands, .inl (a 0, 18, .inl stands)), (q_text, .inl (a 0, 230, .inl text))]) rfl) hS rfl rfl rfl hl.1 rfl (Nat.le_of_ble_eq_true rfl) dX11_takeClause_56 (by decide) (fun H locs hP hD hS => ?_)
      replace hP : va_P D vwCl [(q_t, .inr (11, [.ref q_w, .ref q_isKept, .int t_all, .int t_corners, .int t_hearers, .int o10.1, .int t_newCorners, .int t_newHearers, .ref q_beer, .ref q_cold, .ref q_stands, .ref q_pinched, .ref q_says, .ref q_text, .int t_textSize, .int o10.2.1, .int o10.2.2.1, .int o10.2.2.2.1, .int o10.2.2.2.2, .int t_spoke, .int t_holds, .int t_undoMany, .ref q_seenDecree, .ref q_seenAt, .ref q_seenSpoke, .int t_seen, .ref q_inSets, .ref q_book, .int t_written])), (q_beer, .inl (a 0, 16, .inl beer)), (q_cold, .inl (a 0, 16, .inl cold)), (q_pinched, .inl (a 0, 18, .inl pinched)), (q_says, .inl (a 0, 18, .inl says)), (q_stands, .inl (a 0, 18, .inl stands)), (q_text, .inl (a 0, 230, .inl text))] H := hP
      replace hD : va_D A [(q_t, .inr (11, [.ref q_w, .ref q_isKept, .int t_all, .int t_corners, .int t_hearers, .int o10.1, .int t_newCorners, .int t_newHearers, .ref q_beer, .ref q_cold, .ref q_stands, .ref q_pinched, .ref q_says, .ref q_text, .int t_textSize, .int o10.2.1, .int o10.2.2.1, .int o10.2.2.2.1, .int o10.2.2.2.2, .int t_spoke, .int t_holds, .int t_undoMany, .ref q_seenDecree, .ref q_seenAt, .ref q_seenSpoke, .int t_seen, .ref q_inSets, .ref q_book, .int t_written])), (q_beer, .inl (a 0, 16, .inl beer)), (q_cold, .inl (a 0, 16, .inl cold)), (q_pinched, .inl (a 0, 18, .inl pinched)), (q_says, .inl (a 0, 18, .inl says)), (q_stands, .inl (a 0, 18, .inl stands)), (q_text, .inl (a 0, 230, .inl text))] := hD
      refine lv_goto (tgt := 101) hx hb dX11_takeClause_59 (by decide) ?_
      simp only [Option.some.injEq, Prod.mk.injEq] at hf
      obtain ⟨rfl, rfl, rfl, rfl, rfl, rfl, rfl, rfl, rfl, rfl, rfl, rfl⟩ := hf
      exact hret _ _ _ _ hP hD hS dX11_takeClause_101
    replace hf := o_ifp hf c5
    simp only [Option.some.injEq, Prod.mk.injEq] at hf
    obtain ⟨rfl, rfl, rfl, rfl, rfl, rfl, rfl, rfl, rfl, rfl, rfl, rfl⟩ := hf
    exact hret _ _ _ _ hP hD hS dX11_takeClause_47
  have L_34 : ∀ (t_newAll : Int32) (t_newCorners : Int32) (t_newHearers : Int32) (t_at : Int32) (t_first : Int32) (t_faultOf : Int32) (t_fault : Int32) (beer : (Nat → Int32)) (cold : (Nat → Int32)) (pinched : (Nat → Int32)) (says : (Nat → Int32)) (stands : (Nat → Int32)) (x1 : Int32) (x2 : Int32) (H : Heap) (locs : List Loc) (ls : Array Slot), f_X11_takeClause_34 t_textSize text t_newAll t_newCorners t_newHearers t_at t_first t_faultOf t_fault beer cold pinched says stands x1 x2 = some (o_t_newAll, o_t_newCorners, o_t_newHearers, o_t_at, o_t_first, o_t_faultOf, o_t_fault, o_beer, o_cold, o_pinched, o_says, o_stands) → va_P D vwCl [(q_t, .inr (11, [.ref q_w, .ref q_isKept, .int t_all, .int t_corners, .int t_hearers, .int t_newAll, .int t_newCorners, .int t_newHearers, .ref q_beer, .ref q_cold, .ref q_stands, .ref q_pinched, .ref q_says, .ref q_text, .int t_textSize, .int t_at, .int t_first, .int t_faultOf, .int t_fault, .int t_spoke, .int t_holds, .int t_undoMany, .ref q_seenDecree, .ref q_seenAt, .ref q_seenSpoke, .int t_seen, .ref q_inSets, .ref q_book, .int t_written])), (q_beer, .inl (a 0, 16, .inl beer)), (q_cold, .inl (a 0, 16, .inl cold)), (q_pinched, .inl (a 0, 18, .inl pinched)), (q_says, .inl (a 0, 18, .inl says)), (q_stands, .inl (a 0, 18, .inl stands)), (q_text, .inl (a 0, 230, .inl text))] H → va_D A [(q_t, .inr (11, [.ref q_w, .ref q_isKept, .int t_all, .int t_corners, .int t_hearers, .int t_newAll, .int t_newCorners, .int t_newHearers, .ref q_beer, .ref q_cold, .ref q_stands, .ref q_pinched, .ref q_says, .ref q_text, .int t_textSize, .int t_at, .int t_first, .int t_faultOf, .int t_fault, .int t_spoke, .int t_holds, .int t_undoMany, .ref q_seenDecree, .ref q_seenAt, .ref q_seenSpoke, .int t_seen, .ref q_inSets, .ref q_book, .int t_written])), (q_beer, .inl (a 0, 16, .inl beer)), (q_cold, .inl (a 0, 16, .inl cold)), (q_pinched, .inl (a 0, 18, .inl pinched)), (q_says, .inl (a 0, 18, .inl says)), (q_stands, .inl (a 0, 18, .inl stands)), (q_text, .inl (a 0, 230, .inl text))] → va_S A s.heap H locs → lv_has ls 3 [(0, .ref q_t), (1, .int x1), (2, .int x2)] → W p l e { frames := 4, cells := 0, slots := 0, locals := 93 } s m args below meth c H locs 0 0 Q (F0 m 34 ls [.ref q_t]) := by
    intro t_newAll t_newCorners t_newHearers t_at t_first t_faultOf t_fault beer cold pinched says stands x1 x2 H locs ls hf hP hD hS hl
    unfold f_X11_takeClause_34 at hf
    refine lv_iconst (v := (1 : Int32)) hx hb dX11_takeClause_34 (by decide) ?_
    refine lv_goto (tgt := 39) hx hb dX11_takeClause_35 (by decide) ?_
    exact L_39 t_newAll t_newCorners t_newHearers t_at t_first t_faultOf t_fault beer cold pinched says stands x1 x2 (1 : Int32) _ _ _ hf hP hD hS (lv_sub hl [0, 1, 2] rfl)
  unfold f_X11_takeClause at hf
  refine lv_aload_n hx hb dX11_takeClause_0 rfl (lv_at hl 0 rfl) ?_
  obtain ⟨o11, ho11, hf⟩ := o_bd hf
  refine call_iV (q0 := 0) (ci := 11) hX (c_X11_here l D a t q_t q_w q_isKept t_all t_corners t_hearers t_newAll t_newCorners t_newHearers q_beer q_cold q_stands q_pinched q_says q_text t_textSize t_at t_first t_faultOf t_fault t_spoke t_holds t_undoMany q_seenDecree q_seenAt q_seenSpoke t_seen q_inSets q_book t_written text o11.1 o11.2 ho11) (cwV 0 hts gX11_takeClause_X11_here rfl rfl rfl hdV_X11_here ⟨by decide, by decide⟩) (Cut.of hA hP hD hS [0, 6] (by decide) rfl rfl (W' := [(q_t, .inr (11, [.ref q_w, .ref q_isKept, .int t_all, .int t_corners, .int t_hearers, .int t_newAll, .int t_newCorners, .int t_newHearers, .ref q_beer, .ref q_cold, .ref q_stands, .ref q_pinched, .ref q_says, .ref q_text, .int t_textSize, .int o11.2, .int t_first, .int t_faultOf, .int t_fault, .int t_spoke, .int t_holds, .int t_undoMany, .ref q_seenDecree, .ref q_seenAt, .ref q_seenSpoke, .int t_seen, .ref q_inSets, .ref q_book, .int t_written])), (q_beer, .inl (a 0, 16, .inl beer)), (q_cold, .inl (a 0, 16, .inl cold)), (q_pinched, .inl (a 0, 18, .inl pinched)), (q_says, .inl (a 0, 18, .inl says)), (q_stands, .inl (a 0, 18, .inl stands)), (q_text, .inl (a 0, 230, .inl text))]) rfl) hS rfl rfl rfl hl.1 rfl (Nat.le_of_ble_eq_true rfl) dX11_takeClause_1 (by decide) (fun H locs hP hD hS => ?_)
  replace hP : va_P D vwCl [(q_t, .inr (11, [.ref q_w, .ref q_isKept, .int t_all, .int t_corners, .int t_hearers, .int t_newAll, .int t_newCorners, .int t_newHearers, .ref q_beer, .ref q_cold, .ref q_stands, .ref q_pinched, .ref q_says, .ref q_text, .int t_textSize, .int o11.2, .int t_first, .int t_faultOf, .int t_fault, .int t_spoke, .int t_holds, .int t_undoMany, .ref q_seenDecree, .ref q_seenAt, .ref q_seenSpoke, .int t_seen, .ref q_inSets, .ref q_book, .int t_written])), (q_beer, .inl (a 0, 16, .inl beer)), (q_cold, .inl (a 0, 16, .inl cold)), (q_pinched, .inl (a 0, 18, .inl pinched)), (q_says, .inl (a 0, 18, .inl says)), (q_stands, .inl (a 0, 18, .inl stands)), (q_text, .inl (a 0, 230, .inl text))] H := hP
  replace hD : va_D A [(q_t, .inr (11, [.ref q_w, .ref q_isKept, .int t_all, .int t_corners, .int t_hearers, .int t_newAll, .int t_newCorners, .int t_newHearers, .ref q_beer, .ref q_cold, .ref q_stands, .ref q_pinched, .ref q_says, .ref q_text, .int t_textSize, .int o11.2, .int t_first, .int t_faultOf, .int t_fault, .int t_spoke, .int t_holds, .int t_undoMany, .ref q_seenDecree, .ref q_seenAt, .ref q_seenSpoke, .int t_seen, .ref q_inSets, .ref q_book, .int t_written])), (q_beer, .inl (a 0, 16, .inl beer)), (q_cold, .inl (a 0, 16, .inl cold)), (q_pinched, .inl (a 0, 18, .inl pinched)), (q_says, .inl (a 0, 18, .inl says)), (q_stands, .inl (a 0, 18, .inl stands)), (q_text, .inl (a 0, 230, .inl text))] := hD
  refine lv_istore_n (lv' := [(1, .int o11.1), (0, .ref q_t)]) hx hb dX11_takeClause_4 rfl hl (by decide) rfl (fun ls hl => ?_)
  refine lv_aload_n hx hb dX11_takeClause_5 rfl (lv_at hl 1 rfl) ?_
  refine g_get hX hiX11 hP 0 rfl rfl 15 (by decide) hk1 rfl rfl dX11_takeClause_6 ?_
  refine lv_istore_n (lv' := [(2, .int o11.2), (1, .int o11.1), (0, .ref q_t)]) hx hb dX11_takeClause_9 rfl hl (by decide) rfl (fun ls hl => ?_)
  refine lv_aload_n hx hb dX11_takeClause_10 rfl (lv_at hl 2 rfl) ?_
  refine lv_dup hx hb dX11_takeClause_11 rfl ?_
  refine g_get hX hiX11 hP 0 rfl rfl 15 (by decide) hk1 rfl rfl dX11_takeClause_12 ?_
  refine lv_iconst (v := (1 : Int32)) hx hb dX11_takeClause_15 (by decide) ?_
  refine lv_iadd hx hb dX11_takeClause_16 ?_
  refine lv_topi (fun v12 ev12 => ?_)
  replace hf := o_nmh hf v12 ev12
  refine g_put hX hiX11 tyX11 tyX11_ok nmX11 hP hD hS 0 rfl rfl 15 (by decide) hk1 rfl rfl rfl rfl (Nat.le_of_ble_eq_true rfl) dX11_takeClause_17 (fun H locs hP hD hS => ?_)
  replace hP : va_P D vwCl [(q_t, .inr (11, [.ref q_w, .ref q_isKept, .int t_all, .int t_corners, .int t_hearers, .int t_newAll, .int t_newCorners, .int t_newHearers, .ref q_beer, .ref q_cold, .ref q_stands, .ref q_pinched, .ref q_says, .ref q_text, .int t_textSize, .int v12, .int t_first, .int t_faultOf, .int t_fault, .int t_spoke, .int t_holds, .int t_undoMany, .ref q_seenDecree, .ref q_seenAt, .ref q_seenSpoke, .int t_seen, .ref q_inSets, .ref q_book, .int t_written])), (q_beer, .inl (a 0, 16, .inl beer)), (q_cold, .inl (a 0, 16, .inl cold)), (q_pinched, .inl (a 0, 18, .inl pinched)), (q_says, .inl (a 0, 18, .inl says)), (q_stands, .inl (a 0, 18, .inl stands)), (q_text, .inl (a 0, 230, .inl text))] H := hP
  replace hD : va_D A [(q_t, .inr (11, [.ref q_w, .ref q_isKept, .int t_all, .int t_corners, .int t_hearers, .int t_newAll, .int t_newCorners, .int t_newHearers, .ref q_beer, .ref q_cold, .ref q_stands, .ref q_pinched, .ref q_says, .ref q_text, .int t_textSize, .int v12, .int t_first, .int t_faultOf, .int t_fault, .int t_spoke, .int t_holds, .int t_undoMany, .ref q_seenDecree, .ref q_seenAt, .ref q_seenSpoke, .int t_seen, .ref q_inSets, .ref q_book, .int t_written])), (q_beer, .inl (a 0, 16, .inl beer)), (q_cold, .inl (a 0, 16, .inl cold)), (q_pinched, .inl (a 0, 18, .inl pinched)), (q_says, .inl (a 0, 18, .inl says)), (q_stands, .inl (a 0, 18, .inl stands)), (q_text, .inl (a 0, 230, .inl text))] := hD
  refine lv_aload_n hx hb dX11_takeClause_20 rfl (lv_at hl 2 rfl) ?_
  refine lv_iload_n hx hb dX11_takeClause_21 rfl (lv_at hl 1 rfl) ?_
  refine lv_bipush (v := (116 : Int32)) hx hb dX11_takeClause_22 (by decide) ?_
  refine lv_icmp_eq (tgt := 34) hx hb dX11_takeClause_24 (by decide) (fun c13 => ?_) (fun c13 => ?_)
  · replace hf := o_ifp hf c13
    exact L_34 t_newAll t_newCorners t_newHearers v12 t_first t_faultOf t_fault beer cold pinched says stands o11.1 o11.2 _ _ _ hf hP hD hS (lv_sub hl [2, 1, 0] rfl)
  replace hf := o_ifn hf c13
  refine lv_aload_n hx hb dX11_takeClause_27 rfl (lv_at hl 2 rfl) ?_
  refine g_get hX hiX11 hP 0 rfl rfl 5 (by decide) hk2 rfl rfl dX11_takeClause_28 ?_
  refine lv_if_le (tgt := 38) hx hb dX11_takeClause_31 (by decide) (fun c14 => ?_) (fun c14 => ?_)
  · replace hf := o_ifp hf c14
    refine lv_iconst (v := (0 : Int32)) hx hb dX11_takeClause_38 (by decide) ?_
    exact L_39 t_newAll t_newCorners t_newHearers v12 t_first t_faultOf t_fault beer cold pinched says stands o11.1 o11.2 (0 : Int32) _ _ _ hf hP hD hS (lv_sub hl [2, 1, 0] rfl)
  replace hf := o_ifn hf c14
  exact L_34 t_newAll t_newCorners t_newHearers v12 t_first t_faultOf t_fault beer cold pinched says stands o11.1 o11.2 _ _ _ hf hP hD hS (lv_sub hl [2, 1, 0] rfl)
def f_X11_take_103  : Nat → Int32 → Int32 → Int32 → Int32 → Int32 → Int32 → (Nat → Int32) → (Nat → Int32) → (Nat → Int32) → (Nat → Int32) → (Nat → Int32) → (Nat → Int32) → (Nat → Int32) → Int32 → Int32 → Option (Int32 × Int32 × Int32 × Int32 × Int32 × Int32 × (Nat → Int32) × (Nat → Int32) × (Nat → Int32) × (Nat → Int32) × (Nat → Int32) × (Nat → Int32) × (Nat → Int32))
  | 0, _, _, _, _, _, _, _, _, _, _, _, _, _, _, _ => none
  | n_103 + 1, t_all, t_corners, t_hearers, t_undoMany, t_seen, t_written, beer, cold, isKept, pinched, says, stands, w, x1, x2 =>
    if (9 : Int32) ≤ x2 then ((o_st w 578 (9 : Int32) (0 : Int32)).bind fun w2 =>
    (o_st w2 578 (10 : Int32) (0 : Int32)).bind fun w3 =>
    (o_st w3 578 (11 : Int32) x1).bind fun w4 =>
    (o_st w4 578 (12 : Int32) (0 : Int32)).bind fun w5 =>
    (o_st w5 578 (13 : Int32) (0 : Int32)).bind fun w6 =>
    (o_st w6 578 (14 : Int32) (-1 : Int32)).bind fun w7 =>
    (o_st w7 578 (15 : Int32) (0 : Int32)).bind fun w8 =>
    (o_st isKept 2 (0 : Int32) (0 : Int32)).bind fun w9 =>
    (o_st w9 2 (1 : Int32) (0 : Int32)).bind fun w10 =>
    some (t_all, t_corners, t_hearers, (0 : Int32), (0 : Int32), (0 : Int32), beer, cold, w10, pinched, says, stands, w8))
    else ((o_ld stands 18 ((9 : Int32) + x2)).bind fun v11 =>
    (o_st stands 18 x2 v11).bind fun w12 =>
    (o_ld pinched 18 ((9 : Int32) + x2)).bind fun v13 =>
    (o_st pinched 18 x2 v13).bind fun w14 =>
    (o_ld says 18 ((9 : Int32) + x2)).bind fun v15 =>
    (o_st says 18 x2 v15).bind fun w16 =>
    (o_ld w12 18 x2).bind fun v17 =>
    (o_st w 578 x2 v17).bind fun w18 =>
    o_nm (x2 + (1 : Int32)) fun v19 =>
    f_X11_take_103  n_103 t_all t_corners t_hearers t_undoMany t_seen t_written beer cold isKept w14 w16 w12 w18 x1 v19)
def f_X11_take_88 (k_28 : Int32 → Int32 → Int32 → Int32 → Int32 → Int32 → (Nat → Int32) → (Nat → Int32) → (Nat → Int32) → (Nat → Int32) → (Nat → Int32) → (Nat → Int32) → (Nat → Int32) → Int32 → Int32 → Option (Int32 × Int32 × Int32 × Int32 × Int32 × Int32 × (Nat → Int32) × (Nat → Int32) × (Nat → Int32) × (Nat → Int32) × (Nat → Int32) × (Nat → Int32) × (Nat → Int32))) (t_all : Int32) (t_corners : Int32) (t_hearers : Int32) (t_undoMany : Int32) (t_seen : Int32) (t_written : Int32) (beer : (Nat → Int32)) (cold : (Nat → Int32)) (isKept : (Nat → Int32)) (pinched : (Nat → Int32)) (says : (Nat → Int32)) (stands : (Nat → Int32)) (w : (Nat → Int32)) (x2 : Int32) (s0 : Int32) (s1 : Int32) : Option (Int32 × Int32 × Int32 × Int32 × Int32 × Int32 × (Nat → Int32) × (Nat → Int32) × (Nat → Int32) × (Nat → Int32) × (Nat → Int32) × (Nat → Int32) × (Nat → Int32)) :=
  (f_X11_one s1).bind fun o20 =>
  o_nm ((s0 ||| (o20 <<< (x2 &&& 31)))) fun v21 =>
  o_nm (x2 + (1 : Int32)) fun v22 =>
  k_28 t_all t_corners t_hearers t_undoMany t_seen t_written beer cold isKept pinched says stands w v21 v22
def f_X11_take_28  : Nat → Int32 → Int32 → Int32 → Int32 → Int32 → Int32 → (Nat → Int32) → (Nat → Int32) → (Nat → Int32) → (Nat → Int32) → (Nat → Int32) → (Nat → Int32) → (Nat → Int32) → Int32 → Int32 → Option (Int32 × Int32 × Int32 × Int32 × Int32 × Int32 × (Nat → Int32) × (Nat → Int32) × (Nat → Int32) × (Nat → Int32) × (Nat → Int32) × (Nat → Int32) × (Nat → Int32))
  | 0, _, _, _, _, _, _, _, _, _, _, _, _, _, _, _ => none
  | n_28 + 1, t_all, t_corners, t_hearers, t_undoMany, t_seen, t_written, beer, cold, isKept, pinched, says, stands, w, x1, x2 =>
    if (8 : Int32) ≤ x2 then (f_X11_take_103 1000 t_all t_corners t_hearers t_undoMany t_seen t_written beer cold isKept pinched says stands w x1 (0 : Int32))
    else ((o_ld beer 16 ((8 : Int32) + x2)).bind fun v24 =>
    (o_st beer 16 x2 v24).bind fun w25 =>
    (o_ld cold 16 ((8 : Int32) + x2)).bind fun v26 =>
    (o_st cold 16 x2 v26).bind fun w27 =>
    if t_corners ≤ x2 then (f_X11_take_88 (f_X11_take_28  n_28) t_all t_corners t_hearers t_undoMany t_seen t_written w25 w27 isKept pinched says stands w x2 x1 (0 : Int32))
    else ((o_ld w27 16 x2).bind fun v29 =>
    if v29 = (1 : Int32) then (f_X11_take_88 (f_X11_take_28  n_28) t_all t_corners t_hearers t_undoMany t_seen t_written w25 w27 isKept pinched says stands w x2 x1 (1 : Int32))
    else (f_X11_take_88 (f_X11_take_28  n_28) t_all t_corners t_hearers t_undoMany t_seen t_written w25 w27 isKept pinched says stands w x2 x1 (0 : Int32))))
def f_X11_take (t_all : Int32) (t_corners : Int32) (t_hearers : Int32) (t_newAll : Int32) (t_newCorners : Int32) (t_newHearers : Int32) (t_undoMany : Int32) (t_seen : Int32) (t_written : Int32) (beer : Nat → Int32) (cold : Nat → Int32) (isKept : Nat → Int32) (pinched : Nat → Int32) (says : Nat → Int32) (stands : Nat → Int32) (w : Nat → Int32) : Option (Int32 × Int32 × Int32 × Int32 × Int32 × Int32 × (Nat → Int32) × (Nat → Int32) × (Nat → Int32) × (Nat → Int32) × (Nat → Int32) × (Nat → Int32) × (Nat → Int32)) :=
  f_X11_take_28 1000 t_newAll t_newCorners t_newHearers t_undoMany t_seen t_written beer cold isKept pinched says stands w (0 : Int32) (0 : Int32)
theorem hdS_X11_take : yX11_take.cls ≠ "java/lang/invoke/MethodHandle" ∧ yX11_take.cls ≠ "java/lang/invoke/VarHandle" ∧ (parseMethodDescriptor yX11_take.desc).map (fun d => d.parameters.length) = some 0 := by decide +kernel
theorem hdV_X11_take : yX11_take.cls = RX11 ∧ yX11_take.cls ≠ "java/lang/invoke/MethodHandle" ∧ yX11_take.cls ≠ "java/lang/invoke/VarHandle" ∧ (parseMethodDescriptor yX11_take.desc).map (fun d => d.parameters.length) = some 0 := ⟨rfl, hdS_X11_take⟩
set_option maxHeartbeats 4000000 in
set_option maxRecDepth 100000 in
theorem c_X11_take (l : Launch) (D : va_G) (a : Nat → ClassId) (t : Nat) (q_t : Nat) (q_w : Nat) (q_isKept : Nat) (t_all : Int32) (t_corners : Int32) (t_hearers : Int32) (t_newAll : Int32) (t_newCorners : Int32) (t_newHearers : Int32) (q_beer : Nat) (q_cold : Nat) (q_stands : Nat) (q_pinched : Nat) (q_says : Nat) (q_text : Nat) (t_textSize : Int32) (t_at : Int32) (t_first : Int32) (t_faultOf : Int32) (t_fault : Int32) (t_spoke : Int32) (t_holds : Int32) (t_undoMany : Int32) (q_seenDecree : Nat) (q_seenAt : Nat) (q_seenSpoke : Nat) (t_seen : Int32) (q_inSets : Nat) (q_book : Nat) (t_written : Int32) (beer : Nat → Int32) (cold : Nat → Int32) (isKept : Nat → Int32) (pinched : Nat → Int32) (says : Nat → Int32) (stands : Nat → Int32) (w : Nat → Int32) (o_t_all : Int32) (o_t_corners : Int32) (o_t_hearers : Int32) (o_t_undoMany : Int32) (o_t_seen : Int32) (o_t_written : Int32) (o_beer : Nat → Int32) (o_cold : Nat → Int32) (o_isKept : Nat → Int32) (o_pinched : Nat → Int32) (o_says : Nat → Int32) (o_stands : Nat → Int32) (o_w : Nat → Int32) (hf : f_X11_take t_all t_corners t_hearers t_newAll t_newCorners t_newHearers t_undoMany t_seen t_written beer cold isKept pinched says stands w = some (o_t_all, o_t_corners, o_t_hearers, o_t_undoMany, o_t_seen, o_t_written, o_beer, o_cold, o_isKept, o_pinched, o_says, o_stands, o_w)) : Kv l yX11_take wsX11_take 1 20 D a t [.ref q_t] [(q_t, .inr (11, [.ref q_w, .ref q_isKept, .int t_all, .int t_corners, .int t_hearers, .int t_newAll, .int t_newCorners, .int t_newHearers, .ref q_beer, .ref q_cold, .ref q_stands, .ref q_pinched, .ref q_says, .ref q_text, .int t_textSize, .int t_at, .int t_first, .int t_faultOf, .int t_fault, .int t_spoke, .int t_holds, .int t_undoMany, .ref q_seenDecree, .ref q_seenAt, .ref q_seenSpoke, .int t_seen, .ref q_inSets, .ref q_book, .int t_written])), (q_beer, .inl (a 0, 16, .inl beer)), (q_cold, .inl (a 0, 16, .inl cold)), (q_isKept, .inl (a 1, 2, .inl isKept)), (q_pinched, .inl (a 0, 18, .inl pinched)), (q_says, .inl (a 0, 18, .inl says)), (q_stands, .inl (a 0, 18, .inl stands)), (q_w, .inl (a 0, 578, .inl w))] [(q_t, .inr (11, [.ref q_w, .ref q_isKept, .int o_t_all, .int o_t_corners, .int o_t_hearers, .int t_newAll, .int t_newCorners, .int t_newHearers, .ref q_beer, .ref q_cold, .ref q_stands, .ref q_pinched, .ref q_says, .ref q_text, .int t_textSize, .int t_at, .int t_first, .int t_faultOf, .int t_fault, .int t_spoke, .int t_holds, .int o_t_undoMany, .ref q_seenDecree, .ref q_seenAt, .ref q_seenSpoke, .int o_t_seen, .ref q_inSets, .ref q_book, .int o_t_written])), (q_beer, .inl (a 0, 16, .inl o_beer)), (q_cold, .inl (a 0, 16, .inl o_cold)), (q_isKept, .inl (a 1, 2, .inl o_isKept)), (q_pinched, .inl (a 0, 18, .inl o_pinched)), (q_says, .inl (a 0, 18, .inl o_says)), (q_stands, .inl (a 0, 18, .inl o_stands)), (q_w, .inl (a 0, 578, .inl o_w))] := by
  refine Kv.mk (cc := cX11_take) (nL := 3) (own := RX11) (by decide) rfl rfl (Nat.le_of_ble_eq_true rfl) ?_
  intro p e s m args below meth c A Q ls hX hP hD hS hl hret
  have hx := hX.1.1
  have hb := hX.1.2.1
  have hown := hX.1.2.2.2.1
  have hts := hX.1.2.2.2.2
  have hN := hX.2.2.1
  have hA := hX.2.2.2.2
  have hl : lv_has ls 3 [(0, .ref q_t)] := hl
  have hk1 := hts (.fieldLink RX11 94 "GainsaidOnceModel" "newAll" "I") (List.mem_of_getElem? (i := 1) rfl)
  have hk2 := hts (.fieldLink RX11 126 "GainsaidOnceModel" "all" "I") (List.mem_of_getElem? (i := 2) rfl)
  have hk3 := hts (.fieldLink RX11 101 "GainsaidOnceModel" "newCorners" "I") (List.mem_of_getElem? (i := 3) rfl)
  have hk4 := hts (.fieldLink RX11 123 "GainsaidOnceModel" "corners" "I") (List.mem_of_getElem? (i := 4) rfl)
  have hk5 := hts (.fieldLink RX11 104 "GainsaidOnceModel" "newHearers" "I") (List.mem_of_getElem? (i := 5) rfl)
  have hk6 := hts (.fieldLink RX11 129 "GainsaidOnceModel" "hearers" "I") (List.mem_of_getElem? (i := 6) rfl)
  have hk7 := hts (.fieldLink RX11 17 "GainsaidOnceModel" "beer" "[I") (List.mem_of_getElem? (i := 7) rfl)
  have hk8 := hts (.fieldLink RX11 20 "GainsaidOnceModel" "cold" "[I") (List.mem_of_getElem? (i := 8) rfl)
  have hk9 := hts (.fieldLink RX11 23 "GainsaidOnceModel" "stands" "[I") (List.mem_of_getElem? (i := 9) rfl)
  have hk10 := hts (.fieldLink RX11 26 "GainsaidOnceModel" "pinched" "[I") (List.mem_of_getElem? (i := 10) rfl)
  have hk11 := hts (.fieldLink RX11 29 "GainsaidOnceModel" "says" "[I") (List.mem_of_getElem? (i := 11) rfl)
  have hk12 := hts (.fieldLink RX11 7 "GainsaidOnceModel" "w" "[I") (List.mem_of_getElem? (i := 12) rfl)
  have hk13 := hts (.fieldLink RX11 136 "GainsaidOnceModel" "seen" "I") (List.mem_of_getElem? (i := 13) rfl)
  have hk14 := hts (.fieldLink RX11 139 "GainsaidOnceModel" "written" "I") (List.mem_of_getElem? (i := 14) rfl)
  have hk15 := hts (.fieldLink RX11 142 "GainsaidOnceModel" "undoMany" "I") (List.mem_of_getElem? (i := 15) rfl)
  have hk16 := hts (.fieldLink RX11 13 "GainsaidOnceModel" "isKept" "[Z") (List.mem_of_getElem? (i := 16) rfl)
  have hiX11 : ∀ w ∈ wsX110, w ∈ wsX11_take := (fun _ h => List.mem_cons_of_mem _ (List.mem_append_right _ h))
  have L_103 : ∀ (n_103 : Nat) (t_all : Int32) (t_corners : Int32) (t_hearers : Int32) (t_undoMany : Int32) (t_seen : Int32) (t_written : Int32) (beer : (Nat → Int32)) (cold : (Nat → Int32)) (isKept : (Nat → Int32)) (pinched : (Nat → Int32)) (says : (Nat → Int32)) (stands : (Nat → Int32)) (w : (Nat → Int32)) (x1 : Int32) (x2 : Int32) (H : Heap) (locs : List Loc) (ls : Array Slot), f_X11_take_103 n_103 t_all t_corners t_hearers t_undoMany t_seen t_written beer cold isKept pinched says stands w x1 x2 = some (o_t_all, o_t_corners, o_t_hearers, o_t_undoMany, o_t_seen, o_t_written, o_beer, o_cold, o_isKept, o_pinched, o_says, o_stands, o_w) → va_P D vwCl [(q_t, .inr (11, [.ref q_w, .ref q_isKept, .int t_all, .int t_corners, .int t_hearers, .int t_newAll, .int t_newCorners, .int t_newHearers, .ref q_beer, .ref q_cold, .ref q_stands, .ref q_pinched, .ref q_says, .ref q_text, .int t_textSize, .int t_at, .int t_first, .int t_faultOf, .int t_fault, .int t_spoke, .int t_holds, .int t_undoMany, .ref q_seenDecree, .ref q_seenAt, .ref q_seenSpoke, .int t_seen, .ref q_inSets, .ref q_book, .int t_written])), (q_beer, .inl (a 0, 16, .inl beer)), (q_cold, .inl (a 0, 16, .inl cold)), (q_isKept, .inl (a 1, 2, .inl isKept)), (q_pinched, .inl (a 0, 18, .inl pinched)), (q_says, .inl (a 0, 18, .inl says)), (q_stands, .inl (a 0, 18, .inl stands)), (q_w, .inl (a 0, 578, .inl w))] H → va_D A [(q_t, .inr (11, [.ref q_w, .ref q_isKept, .int t_all, .int t_corners, .int t_hearers, .int t_newAll, .int t_newCorners, .int t_newHearers, .ref q_beer, .ref q_cold, .ref q_stands, .ref q_pinched, .ref q_says, .ref q_text, .int t_textSize, .int t_at, .int t_first, .int t_faultOf, .int t_fault, .int t_spoke, .int t_holds, .int t_undoMany, .ref q_seenDecree, .ref q_seenAt, .ref q_seenSpoke, .int t_seen, .ref q_inSets, .ref q_book, .int t_written])), (q_beer, .inl (a 0, 16, .inl beer)), (q_cold, .inl (a 0, 16, .inl cold)), (q_isKept, .inl (a 1, 2, .inl isKept)), (q_pinched, .inl (a 0, 18, .inl pinched)), (q_says, .inl (a 0, 18, .inl says)), (q_stands, .inl (a 0, 18, .inl stands)), (q_w, .inl (a 0, 578, .inl w))] → va_S A s.heap H locs → lv_has ls 3 [(0, .ref q_t), (1, .int x1), (2, .int x2)] → W p l e { frames := 1, cells := 0, slots := 0, locals := 20 } s m args below meth c H locs 0 0 Q (F0 m 103 ls []) := by
    intro n_103
    induction n_103 with
    | zero => intro t_all t_corners t_hearers t_undoMany t_seen t_written beer cold isKept pinched says stands w x1 x2 H locs ls hf hP hD hS hl; rw [f_X11_take_103] at hf; cases hf
    | succ n_103 ih_103 =>
      intro t_all t_corners t_hearers t_undoMany t_seen t_written beer cold isKept pinched says stands w x1 x2 H locs ls hf hP hD hS hl
      rw [f_X11_take_103] at hf
      refine lv_iload_n hx hb dX11_take_103 rfl (lv_at hl 2 rfl) ?_
      refine lv_bipush (v := (9 : Int32)) hx hb dX11_take_104 (by decide) ?_
      refine lv_icmp_ge (tgt := 172) hx hb dX11_take_106 (by decide) (fun c1 => ?_) (fun c1 => ?_)
      · replace hf := o_ifp hf c1
        refine lv_aload_n hx hb dX11_take_172 rfl (lv_at hl 0 rfl) ?_
        refine g_get hX hiX11 hP 0 rfl rfl 0 (by decide) hk12 rfl rfl dX11_take_173 ?_
        refine lv_bipush (v := (9 : Int32)) hx hb dX11_take_176 (by decide) ?_
        refine lv_iconst (v := (0 : Int32)) hx hb dX11_take_178 (by decide) ?_
        obtain ⟨hiw2, hf⟩ := o_sth hf
        refine g_iast hX hP hD hS 7 rfl hiw2 dX11_take_179 (fun w2 ew2 H locs hP hD hS => ?_)
        replace hf := hf w2 ew2
        replace hP : va_P D vwCl [(q_t, .inr (11, [.ref q_w, .ref q_isKept, .int t_all, .int t_corners, .int t_hearers, .int t_newAll, .int t_newCorners, .int t_newHearers, .ref q_beer, .ref q_cold, .ref q_stands, .ref q_pinched, .ref q_says, .ref q_text, .int t_textSize, .int t_at, .int t_first, .int t_faultOf, .int t_fault, .int t_spoke, .int t_holds, .int t_undoMany, .ref q_seenDecree, .ref q_seenAt, .ref q_seenSpoke, .int t_seen, .ref q_inSets, .ref q_book, .int t_written])), (q_beer, .inl (a 0, 16, .inl beer)), (q_cold, .inl (a 0, 16, .inl cold)), (q_isKept, .inl (a 1, 2, .inl isKept)), (q_pinched, .inl (a 0, 18, .inl pinched)), (q_says, .inl (a 0, 18, .inl says)), (q_stands, .inl (a 0, 18, .inl stands)), (q_w, .inl (a 0, 578, .inl w2))] H := hP
        replace hD : va_D A [(q_t, .inr (11, [.ref q_w, .ref q_isKept, .int t_all, .int t_corners, .int t_hearers, .int t_newAll, .int t_newCorners, .int t_newHearers, .ref q_beer, .ref q_cold, .ref q_stands, .ref q_pinched, .ref q_says, .ref q_text, .int t_textSize, .int t_at, .int t_first, .int t_faultOf, .int t_fault, .int t_spoke, .int t_holds, .int t_undoMany, .ref q_seenDecree, .ref q_seenAt, .ref q_seenSpoke, .int t_seen, .ref q_inSets, .ref q_book, .int t_written])), (q_beer, .inl (a 0, 16, .inl beer)), (q_cold, .inl (a 0, 16, .inl cold)), (q_isKept, .inl (a 1, 2, .inl isKept)), (q_pinched, .inl (a 0, 18, .inl pinched)), (q_says, .inl (a 0, 18, .inl says)), (q_stands, .inl (a 0, 18, .inl stands)), (q_w, .inl (a 0, 578, .inl w2))] := hD
        refine lv_aload_n hx hb dX11_take_180 rfl (lv_at hl 0 rfl) ?_
        refine g_get hX hiX11 hP 0 rfl rfl 0 (by decide) hk12 rfl rfl dX11_take_181 ?_
        refine lv_bipush (v := (10 : Int32)) hx hb dX11_take_184 (by decide) ?_
        refine lv_iconst (v := (0 : Int32)) hx hb dX11_take_186 (by decide) ?_
        obtain ⟨hiw3, hf⟩ := o_sth hf
        refine g_iast hX hP hD hS 7 rfl hiw3 dX11_take_187 (fun w3 ew3 H locs hP hD hS => ?_)
        replace hf := hf w3 ew3
        replace hP : va_P D vwCl [(q_t, .inr (11, [.ref q_w, .ref q_isKept, .int t_all, .int t_corners, .int t_hearers, .int t_newAll, .int t_newCorners, .int t_newHearers, .ref q_beer, .ref q_cold, .ref q_stands, .ref q_pinched, .ref q_says, .ref q_text, .int t_textSize, .int t_at, .int t_first, .int t_faultOf, .int t_fault, .int t_spoke, .int t_holds, .int t_undoMany, .ref q_seenDecree, .ref q_seenAt, .ref q_seenSpoke, .int t_seen, .ref q_inSets, .ref q_book, .int t_written])), (q_beer, .inl (a 0, 16, .inl beer)), (q_cold, .inl (a 0, 16, .inl cold)), (q_isKept, .inl (a 1, 2, .inl isKept)), (q_pinched, .inl (a 0, 18, .inl pinched)), (q_says, .inl (a 0, 18, .inl says)), (q_stands, .inl (a 0, 18, .inl stands)), (q_w, .inl (a 0, 578, .inl w3))] H := hP
        replace hD : va_D A [(q_t, .inr (11, [.ref q_w, .ref q_isKept, .int t_all, .int t_corners, .int t_hearers, .int t_newAll, .int t_newCorners, .int t_newHearers, .ref q_beer, .ref q_cold, .ref q_stands, .ref q_pinched, .ref q_says, .ref q_text, .int t_textSize, .int t_at, .int t_first, .int t_faultOf, .int t_fault, .int t_spoke, .int t_holds, .int t_undoMany, .ref q_seenDecree, .ref q_seenAt, .ref q_seenSpoke, .int t_seen, .ref q_inSets, .ref q_book, .int t_written])), (q_beer, .inl (a 0, 16, .inl beer)), (q_cold, .inl (a 0, 16, .inl cold)), (q_isKept, .inl (a 1, 2, .inl isKept)), (q_pinched, .inl (a 0, 18, .inl pinched)), (q_says, .inl (a 0, 18, .inl says)), (q_stands, .inl (a 0, 18, .inl stands)), (q_w, .inl (a 0, 578, .inl w3))] := hD
        refine lv_aload_n hx hb dX11_take_188 rfl (lv_at hl 0 rfl) ?_
        refine g_get hX hiX11 hP 0 rfl rfl 0 (by decide) hk12 rfl rfl dX11_take_189 ?_
        refine lv_bipush (v := (11 : Int32)) hx hb dX11_take_192 (by decide) ?_
        refine lv_iload_n hx hb dX11_take_194 rfl (lv_at hl 1 rfl) ?_
        obtain ⟨hiw4, hf⟩ := o_sth hf
        refine g_iast hX hP hD hS 7 rfl hiw4 dX11_take_195 (fun w4 ew4 H locs hP hD hS => ?_)
        replace hf := hf w4 ew4
        replace hP : va_P D vwCl [(q_t, .inr (11, [.ref q_w, .ref q_isKept, .int t_all, .int t_corners, .int t_hearers, .int t_newAll, .int t_newCorners, .int t_newHearers, .ref q_beer, .ref q_cold, .ref q_stands, .ref q_pinched, .ref q_says, .ref q_text, .int t_textSize, .int t_at, .int t_first, .int t_faultOf, .int t_fault, .int t_spoke, .int t_holds, .int t_undoMany, .ref q_seenDecree, .ref q_seenAt, .ref q_seenSpoke, .int t_seen, .ref q_inSets, .ref q_book, .int t_written])), (q_beer, .inl (a 0, 16, .inl beer)), (q_cold, .inl (a 0, 16, .inl cold)), (q_isKept, .inl (a 1, 2, .inl isKept)), (q_pinched, .inl (a 0, 18, .inl pinched)), (q_says, .inl (a 0, 18, .inl says)), (q_stands, .inl (a 0, 18, .inl stands)), (q_w, .inl (a 0, 578, .inl w4))] H := hP
        replace hD : va_D A [(q_t, .inr (11, [.ref q_w, .ref q_isKept, .int t_all, .int t_corners, .int t_hearers, .int t_newAll, .int t_newCorners, .int t_newHearers, .ref q_beer, .ref q_cold, .ref q_stands, .ref q_pinched, .ref q_says, .ref q_text, .int t_textSize, .int t_at, .int t_first, .int t_faultOf, .int t_fault, .int t_spoke, .int t_holds, .int t_undoMany, .ref q_seenDecree, .ref q_seenAt, .ref q_seenSpoke, .int t_seen, .ref q_inSets, .ref q_book, .int t_written])), (q_beer, .inl (a 0, 16, .inl beer)), (q_cold, .inl (a 0, 16, .inl cold)), (q_isKept, .inl (a 1, 2, .inl isKept)), (q_pinched, .inl (a 0, 18, .inl pinched)), (q_says, .inl (a 0, 18, .inl says)), (q_stands, .inl (a 0, 18, .inl stands)), (q_w, .inl (a 0, 578, .inl w4))] := hD
        refine lv_aload_n hx hb dX11_take_196 rfl (lv_at hl 0 rfl) ?_
        refine g_get hX hiX11 hP 0 rfl rfl 0 (by decide) hk12 rfl rfl dX11_take_197 ?_
        refine lv_bipush (v := (12 : Int32)) hx hb dX11_take_200 (by decide) ?_
        refine lv_iconst (v := (0 : Int32)) hx hb dX11_take_202 (by decide) ?_
        obtain ⟨hiw5, hf⟩ := o_sth hf
        refine g_iast hX hP hD hS 7 rfl hiw5 dX11_take_203 (fun w5 ew5 H locs hP hD hS => ?_)
        replace hf := hf w5 ew5
        replace hP : va_P D vwCl [(q_t, .inr (11, [.ref q_w, .ref q_isKept, .int t_all, .int t_corners, .int t_hearers, .int t_newAll, .int t_newCorners, .int t_newHearers, .ref q_beer, .ref q_cold, .ref q_stands, .ref q_pinched, .ref q_says, .ref q_text, .int t_textSize, .int t_at, .int t_first, .int t_faultOf, .int t_fault, .int t_spoke, .int t_holds, .int t_undoMany, .ref q_seenDecree, .ref q_seenAt, .ref q_seenSpoke, .int t_seen, .ref q_inSets, .ref q_book, .int t_written])), (q_beer, .inl (a 0, 16, .inl beer)), (q_cold, .inl (a 0, 16, .inl cold)), (q_isKept, .inl (a 1, 2, .inl isKept)), (q_pinched, .inl (a 0, 18, .inl pinched)), (q_says, .inl (a 0, 18, .inl says)), (q_stands, .inl (a 0, 18, .inl stands)), (q_w, .inl (a 0, 578, .inl w5))] H := hP
        replace hD : va_D A [(q_t, .inr (11, [.ref q_w, .ref q_isKept, .int t_all, .int t_corners, .int t_hearers, .int t_newAll, .int t_newCorners, .int t_newHearers, .ref q_beer, .ref q_cold, .ref q_stands, .ref q_pinched, .ref q_says, .ref q_text, .int t_textSize, .int t_at, .int t_first, .int t_faultOf, .int t_fault, .int t_spoke, .int t_holds, .int t_undoMany, .ref q_seenDecree, .ref q_seenAt, .ref q_seenSpoke, .int t_seen, .ref q_inSets, .ref q_book, .int t_written])), (q_beer, .inl (a 0, 16, .inl beer)), (q_cold, .inl (a 0, 16, .inl cold)), (q_isKept, .inl (a 1, 2, .inl isKept)), (q_pinched, .inl (a 0, 18, .inl pinched)), (q_says, .inl (a 0, 18, .inl says)), (q_stands, .inl (a 0, 18, .inl stands)), (q_w, .inl (a 0, 578, .inl w5))] := hD
        refine lv_aload_n hx hb dX11_take_204 rfl (lv_at hl 0 rfl) ?_
        refine g_get hX hiX11 hP 0 rfl rfl 0 (by decide) hk12 rfl rfl dX11_take_205 ?_
        refine lv_bipush (v := (13 : Int32)) hx hb dX11_take_208 (by decide) ?_
        refine lv_iconst (v := (0 : Int32)) hx hb dX11_take_210 (by decide) ?_
        obtain ⟨hiw6, hf⟩ := o_sth hf
        refine g_iast hX hP hD hS 7 rfl hiw6 dX11_take_211 (fun w6 ew6 H locs hP hD hS => ?_)
        replace hf := hf w6 ew6
        replace hP : va_P D vwCl [(q_t, .inr (11, [.ref q_w, .ref q_isKept, .int t_all, .int t_corners, .int t_hearers, .int t_newAll, .int t_newCorners, .int t_newHearers, .ref q_beer, .ref q_cold, .ref q_stands, .ref q_pinched, .ref q_says, .ref q_text, .int t_textSize, .int t_at, .int t_first, .int t_faultOf, .int t_fault, .int t_spoke, .int t_holds, .int t_undoMany, .ref q_seenDecree, .ref q_seenAt, .ref q_seenSpoke, .int t_seen, .ref q_inSets, .ref q_book, .int t_written])), (q_beer, .inl (a 0, 16, .inl beer)), (q_cold, .inl (a 0, 16, .inl cold)), (q_isKept, .inl (a 1, 2, .inl isKept)), (q_pinched, .inl (a 0, 18, .inl pinched)), (q_says, .inl (a 0, 18, .inl says)), (q_stands, .inl (a 0, 18, .inl stands)), (q_w, .inl (a 0, 578, .inl w6))] H := hP
        replace hD : va_D A [(q_t, .inr (11, [.ref q_w, .ref q_isKept, .int t_all, .int t_corners, .int t_hearers, .int t_newAll, .int t_newCorners, .int t_newHearers, .ref q_beer, .ref q_cold, .ref q_stands, .ref q_pinched, .ref q_says, .ref q_text, .int t_textSize, .int t_at, .int t_first, .int t_faultOf, .int t_fault, .int t_spoke, .int t_holds, .int t_undoMany, .ref q_seenDecree, .ref q_seenAt, .ref q_seenSpoke, .int t_seen, .ref q_inSets, .ref q_book, .int t_written])), (q_beer, .inl (a 0, 16, .inl beer)), (q_cold, .inl (a 0, 16, .inl cold)), (q_isKept, .inl (a 1, 2, .inl isKept)), (q_pinched, .inl (a 0, 18, .inl pinched)), (q_says, .inl (a 0, 18, .inl says)), (q_stands, .inl (a 0, 18, .inl stands)), (q_w, .inl (a 0, 578, .inl w6))] := hD
        refine lv_aload_n hx hb dX11_take_212 rfl (lv_at hl 0 rfl) ?_
        refine g_get hX hiX11 hP 0 rfl rfl 0 (by decide) hk12 rfl rfl dX11_take_213 ?_
        refine lv_bipush (v := (14 : Int32)) hx hb dX11_take_216 (by decide) ?_
        refine lv_iconst (v := (-1 : Int32)) hx hb dX11_take_218 (by decide) ?_
        obtain ⟨hiw7, hf⟩ := o_sth hf
        refine g_iast hX hP hD hS 7 rfl hiw7 dX11_take_219 (fun w7 ew7 H locs hP hD hS => ?_)
        replace hf := hf w7 ew7
        replace hP : va_P D vwCl [(q_t, .inr (11, [.ref q_w, .ref q_isKept, .int t_all, .int t_corners, .int t_hearers, .int t_newAll, .int t_newCorners, .int t_newHearers, .ref q_beer, .ref q_cold, .ref q_stands, .ref q_pinched, .ref q_says, .ref q_text, .int t_textSize, .int t_at, .int t_first, .int t_faultOf, .int t_fault, .int t_spoke, .int t_holds, .int t_undoMany, .ref q_seenDecree, .ref q_seenAt, .ref q_seenSpoke, .int t_seen, .ref q_inSets, .ref q_book, .int t_written])), (q_beer, .inl (a 0, 16, .inl beer)), (q_cold, .inl (a 0, 16, .inl cold)), (q_isKept, .inl (a 1, 2, .inl isKept)), (q_pinched, .inl (a 0, 18, .inl pinched)), (q_says, .inl (a 0, 18, .inl says)), (q_stands, .inl (a 0, 18, .inl stands)), (q_w, .inl (a 0, 578, .inl w7))] H := hP
        replace hD : va_D A [(q_t, .inr (11, [.ref q_w, .ref q_isKept, .int t_all, .int t_corners, .int t_hearers, .int t_newAll, .int t_newCorners, .int t_newHearers, .ref q_beer, .ref q_cold, .ref q_stands, .ref q_pinched, .ref q_says, .ref q_text, .int t_textSize, .int t_at, .int t_first, .int t_faultOf, .int t_fault, .int t_spoke, .int t_holds, .int t_undoMany, .ref q_seenDecree, .ref q_seenAt, .ref q_seenSpoke, .int t_seen, .ref q_inSets, .ref q_book, .int t_written])), (q_beer, .inl (a 0, 16, .inl beer)), (q_cold, .inl (a 0, 16, .inl cold)), (q_isKept, .inl (a 1, 2, .inl isKept)), (q_pinched, .inl (a 0, 18, .inl pinched)), (q_says, .inl (a 0, 18, .inl says)), (q_stands, .inl (a 0, 18, .inl stands)), (q_w, .inl (a 0, 578, .inl w7))] := hD
        refine lv_aload_n hx hb dX11_take_220 rfl (lv_at hl 0 rfl) ?_
        refine g_get hX hiX11 hP 0 rfl rfl 0 (by decide) hk12 rfl rfl dX11_take_221 ?_
        refine lv_bipush (v := (15 : Int32)) hx hb dX11_take_224 (by decide) ?_
        refine lv_iconst (v := (0 : Int32)) hx hb dX11_take_226 (by decide) ?_
        obtain ⟨hiw8, hf⟩ := o_sth hf
        refine g_iast hX hP hD hS 7 rfl hiw8 dX11_take_227 (fun w8 ew8 H locs hP hD hS => ?_)
        replace hf := hf w8 ew8
        replace hP : va_P D vwCl [(q_t, .inr (11, [.ref q_w, .ref q_isKept, .int t_all, .int t_corners, .int t_hearers, .int t_newAll, .int t_newCorners, .int t_newHearers, .ref q_beer, .ref q_cold, .ref q_stands, .ref q_pinched, .ref q_says, .ref q_text, .int t_textSize, .int t_at, .int t_first, .int t_faultOf, .int t_fault, .int t_spoke, .int t_holds, .int t_undoMany, .ref q_seenDecree, .ref q_seenAt, .ref q_seenSpoke, .int t_seen, .ref q_inSets, .ref q_book, .int t_written])), (q_beer, .inl (a 0, 16, .inl beer)), (q_cold, .inl (a 0, 16, .inl cold)), (q_isKept, .inl (a 1, 2, .inl isKept)), (q_pinched, .inl (a 0, 18, .inl pinched)), (q_says, .inl (a 0, 18, .inl says)), (q_stands, .inl (a 0, 18, .inl stands)), (q_w, .inl (a 0, 578, .inl w8))] H := hP
        replace hD : va_D A [(q_t, .inr (11, [.ref q_w, .ref q_isKept, .int t_all, .int t_corners, .int t_hearers, .int t_newAll, .int t_newCorners, .int t_newHearers, .ref q_beer, .ref q_cold, .ref q_stands, .ref q_pinched, .ref q_says, .ref q_text, .int t_textSize, .int t_at, .int t_first, .int t_faultOf, .int t_fault, .int t_spoke, .int t_holds, .int t_undoMany, .ref q_seenDecree, .ref q_seenAt, .ref q_seenSpoke, .int t_seen, .ref q_inSets, .ref q_book, .int t_written])), (q_beer, .inl (a 0, 16, .inl beer)), (q_cold, .inl (a 0, 16, .inl cold)), (q_isKept, .inl (a 1, 2, .inl isKept)), (q_pinched, .inl (a 0, 18, .inl pinched)), (q_says, .inl (a 0, 18, .inl says)), (q_stands, .inl (a 0, 18, .inl stands)), (q_w, .inl (a 0, 578, .inl w8))] := hD
        refine lv_aload_n hx hb dX11_take_228 rfl (lv_at hl 0 rfl) ?_
        refine lv_iconst (v := (0 : Int32)) hx hb dX11_take_229 (by decide) ?_
        refine g_put hX hiX11 tyX11 tyX11_ok nmX11 hP hD hS 0 rfl rfl 25 (by decide) hk13 rfl rfl rfl rfl (Nat.le_of_ble_eq_true rfl) dX11_take_230 (fun H locs hP hD hS => ?_)
        replace hP : va_P D vwCl [(q_t, .inr (11, [.ref q_w, .ref q_isKept, .int t_all, .int t_corners, .int t_hearers, .int t_newAll, .int t_newCorners, .int t_newHearers, .ref q_beer, .ref q_cold, .ref q_stands, .ref q_pinched, .ref q_says, .ref q_text, .int t_textSize, .int t_at, .int t_first, .int t_faultOf, .int t_fault, .int t_spoke, .int t_holds, .int t_undoMany, .ref q_seenDecree, .ref q_seenAt, .ref q_seenSpoke, .int (0 : Int32), .ref q_inSets, .ref q_book, .int t_written])), (q_beer, .inl (a 0, 16, .inl beer)), (q_cold, .inl (a 0, 16, .inl cold)), (q_isKept, .inl (a 1, 2, .inl isKept)), (q_pinched, .inl (a 0, 18, .inl pinched)), (q_says, .inl (a 0, 18, .inl says)), (q_stands, .inl (a 0, 18, .inl stands)), (q_w, .inl (a 0, 578, .inl w8))] H := hP
        replace hD : va_D A [(q_t, .inr (11, [.ref q_w, .ref q_isKept, .int t_all, .int t_corners, .int t_hearers, .int t_newAll, .int t_newCorners, .int t_newHearers, .ref q_beer, .ref q_cold, .ref q_stands, .ref q_pinched, .ref q_says, .ref q_text, .int t_textSize, .int t_at, .int t_first, .int t_faultOf, .int t_fault, .int t_spoke, .int t_holds, .int t_undoMany, .ref q_seenDecree, .ref q_seenAt, .ref q_seenSpoke, .int (0 : Int32), .ref q_inSets, .ref q_book, .int t_written])), (q_beer, .inl (a 0, 16, .inl beer)), (q_cold, .inl (a 0, 16, .inl cold)), (q_isKept, .inl (a 1, 2, .inl isKept)), (q_pinched, .inl (a 0, 18, .inl pinched)), (q_says, .inl (a 0, 18, .inl says)), (q_stands, .inl (a 0, 18, .inl stands)), (q_w, .inl (a 0, 578, .inl w8))] := hD
        refine lv_aload_n hx hb dX11_take_233 rfl (lv_at hl 0 rfl) ?_
        refine lv_iconst (v := (0 : Int32)) hx hb dX11_take_234 (by decide) ?_
        refine g_put hX hiX11 tyX11 tyX11_ok nmX11 hP hD hS 0 rfl rfl 28 (by decide) hk14 rfl rfl rfl rfl (Nat.le_of_ble_eq_true rfl) dX11_take_235 (fun H locs hP hD hS => ?_)
        replace hP : va_P D vwCl [(q_t, .inr (11, [.ref q_w, .ref q_isKept, .int t_all, .int t_corners, .int t_hearers, .int t_newAll, .int t_newCorners, .int t_newHearers, .ref q_beer, .ref q_cold, .ref q_stands, .ref q_pinched, .ref q_says, .ref q_text, .int t_textSize, .int t_at, .int t_first, .int t_faultOf, .int t_fault, .int t_spoke, .int t_holds, .int t_undoMany, .ref q_seenDecree, .ref q_seenAt, .ref q_seenSpoke, .int (0 : Int32), .ref q_inSets, .ref q_book, .int (0 : Int32)])), (q_beer, .inl (a 0, 16, .inl beer)), (q_cold, .inl (a 0, 16, .inl cold)), (q_isKept, .inl (a 1, 2, .inl isKept)), (q_pinched, .inl (a 0, 18, .inl pinched)), (q_says, .inl (a 0, 18, .inl says)), (q_stands, .inl (a 0, 18, .inl stands)), (q_w, .inl (a 0, 578, .inl w8))] H := hP
        replace hD : va_D A [(q_t, .inr (11, [.ref q_w, .ref q_isKept, .int t_all, .int t_corners, .int t_hearers, .int t_newAll, .int t_newCorners, .int t_newHearers, .ref q_beer, .ref q_cold, .ref q_stands, .ref q_pinched, .ref q_says, .ref q_text, .int t_textSize, .int t_at, .int t_first, .int t_faultOf, .int t_fault, .int t_spoke, .int t_holds, .int t_undoMany, .ref q_seenDecree, .ref q_seenAt, .ref q_seenSpoke, .int (0 : Int32), .ref q_inSets, .ref q_book, .int (0 : Int32)])), (q_beer, .inl (a 0, 16, .inl beer)), (q_cold, .inl (a 0, 16, .inl cold)), (q_isKept, .inl (a 1, 2, .inl isKept)), (q_pinched, .inl (a 0, 18, .inl pinched)), (q_says, .inl (a 0, 18, .inl says)), (q_stands, .inl (a 0, 18, .inl stands)), (q_w, .inl (a 0, 578, .inl w8))] := hD
        refine lv_aload_n hx hb dX11_take_238 rfl (lv_at hl 0 rfl) ?_
        refine lv_iconst (v := (0 : Int32)) hx hb dX11_take_239 (by decide) ?_
        refine g_put hX hiX11 tyX11 tyX11_ok nmX11 hP hD hS 0 rfl rfl 21 (by decide) hk15 rfl rfl rfl rfl (Nat.le_of_ble_eq_true rfl) dX11_take_240 (fun H locs hP hD hS => ?_)
        replace hP : va_P D vwCl [(q_t, .inr (11, [.ref q_w, .ref q_isKept, .int t_all, .int t_corners, .int t_hearers, .int t_newAll, .int t_newCorners, .int t_newHearers, .ref q_beer, .ref q_cold, .ref q_stands, .ref q_pinched, .ref q_says, .ref q_text, .int t_textSize, .int t_at, .int t_first, .int t_faultOf, .int t_fault, .int t_spoke, .int t_holds, .int (0 : Int32), .ref q_seenDecree, .ref q_seenAt, .ref q_seenSpoke, .int (0 : Int32), .ref q_inSets, .ref q_book, .int (0 : Int32)])), (q_beer, .inl (a 0, 16, .inl beer)), (q_cold, .inl (a 0, 16, .inl cold)), (q_isKept, .inl (a 1, 2, .inl isKept)), (q_pinched, .inl (a 0, 18, .inl pinched)), (q_says, .inl (a 0, 18, .inl says)), (q_stands, .inl (a 0, 18, .inl stands)), (q_w, .inl (a 0, 578, .inl w8))] H := hP
        replace hD : va_D A [(q_t, .inr (11, [.ref q_w, .ref q_isKept, .int t_all, .int t_corners, .int t_hearers, .int t_newAll, .int t_newCorners, .int t_newHearers, .ref q_beer, .ref q_cold, .ref q_stands, .ref q_pinched, .ref q_says, .ref q_text, .int t_textSize, .int t_at, .int t_first, .int t_faultOf, .int t_fault, .int t_spoke, .int t_holds, .int (0 : Int32), .ref q_seenDecree, .ref q_seenAt, .ref q_seenSpoke, .int (0 : Int32), .ref q_inSets, .ref q_book, .int (0 : Int32)])), (q_beer, .inl (a 0, 16, .inl beer)), (q_cold, .inl (a 0, 16, .inl cold)), (q_isKept, .inl (a 1, 2, .inl isKept)), (q_pinched, .inl (a 0, 18, .inl pinched)), (q_says, .inl (a 0, 18, .inl says)), (q_stands, .inl (a 0, 18, .inl stands)), (q_w, .inl (a 0, 578, .inl w8))] := hD
        refine lv_aload_n hx hb dX11_take_243 rfl (lv_at hl 0 rfl) ?_
        refine g_get hX hiX11 hP 0 rfl rfl 1 (by decide) hk16 rfl rfl dX11_take_244 ?_
        refine lv_iconst (v := (0 : Int32)) hx hb dX11_take_247 (by decide) ?_
        refine lv_iconst (v := (0 : Int32)) hx hb dX11_take_248 (by decide) ?_
        obtain ⟨hiw9, hf⟩ := o_sth hf
        refine g_zast hX hP hD hS 3 rfl rfl hiw9 dX11_take_249 (fun w9 ew9 H locs hP hD hS => ?_)
        replace hf := hf w9 ew9
        replace hP : va_P D vwCl [(q_t, .inr (11, [.ref q_w, .ref q_isKept, .int t_all, .int t_corners, .int t_hearers, .int t_newAll, .int t_newCorners, .int t_newHearers, .ref q_beer, .ref q_cold, .ref q_stands, .ref q_pinched, .ref q_says, .ref q_text, .int t_textSize, .int t_at, .int t_first, .int t_faultOf, .int t_fault, .int t_spoke, .int t_holds, .int (0 : Int32), .ref q_seenDecree, .ref q_seenAt, .ref q_seenSpoke, .int (0 : Int32), .ref q_inSets, .ref q_book, .int (0 : Int32)])), (q_beer, .inl (a 0, 16, .inl beer)), (q_cold, .inl (a 0, 16, .inl cold)), (q_isKept, .inl (a 1, 2, .inl w9)), (q_pinched, .inl (a 0, 18, .inl pinched)), (q_says, .inl (a 0, 18, .inl says)), (q_stands, .inl (a 0, 18, .inl stands)), (q_w, .inl (a 0, 578, .inl w8))] H := hP
        replace hD : va_D A [(q_t, .inr (11, [.ref q_w, .ref q_isKept, .int t_all, .int t_corners, .int t_hearers, .int t_newAll, .int t_newCorners, .int t_newHearers, .ref q_beer, .ref q_cold, .ref q_stands, .ref q_pinched, .ref q_says, .ref q_text, .int t_textSize, .int t_at, .int t_first, .int t_faultOf, .int t_fault, .int t_spoke, .int t_holds, .int (0 : Int32), .ref q_seenDecree, .ref q_seenAt, .ref q_seenSpoke, .int (0 : Int32), .ref q_inSets, .ref q_book, .int (0 : Int32)])), (q_beer, .inl (a 0, 16, .inl beer)), (q_cold, .inl (a 0, 16, .inl cold)), (q_isKept, .inl (a 1, 2, .inl w9)), (q_pinched, .inl (a 0, 18, .inl pinched)), (q_says, .inl (a 0, 18, .inl says)), (q_stands, .inl (a 0, 18, .inl stands)), (q_w, .inl (a 0, 578, .inl w8))] := hD
        refine lv_aload_n hx hb dX11_take_250 rfl (lv_at hl 0 rfl) ?_
        refine g_get hX hiX11 hP 0 rfl rfl 1 (by decide) hk16 rfl rfl dX11_take_251 ?_
        refine lv_iconst (v := (1 : Int32)) hx hb dX11_take_254 (by decide) ?_
        refine lv_iconst (v := (0 : Int32)) hx hb dX11_take_255 (by decide) ?_
        obtain ⟨hiw10, hf⟩ := o_sth hf
        refine g_zast hX hP hD hS 3 rfl rfl hiw10 dX11_take_256 (fun w10 ew10 H locs hP hD hS => ?_)
        replace hf := hf w10 ew10
        replace hP : va_P D vwCl [(q_t, .inr (11, [.ref q_w, .ref q_isKept, .int t_all, .int t_corners, .int t_hearers, .int t_newAll, .int t_newCorners, .int t_newHearers, .ref q_beer, .ref q_cold, .ref q_stands, .ref q_pinched, .ref q_says, .ref q_text, .int t_textSize, .int t_at, .int t_first, .int t_faultOf, .int t_fault, .int t_spoke, .int t_holds, .int (0 : Int32), .ref q_seenDecree, .ref q_seenAt, .ref q_seenSpoke, .int (0 : Int32), .ref q_inSets, .ref q_book, .int (0 : Int32)])), (q_beer, .inl (a 0, 16, .inl beer)), (q_cold, .inl (a 0, 16, .inl cold)), (q_isKept, .inl (a 1, 2, .inl w10)), (q_pinched, .inl (a 0, 18, .inl pinched)), (q_says, .inl (a 0, 18, .inl says)), (q_stands, .inl (a 0, 18, .inl stands)), (q_w, .inl (a 0, 578, .inl w8))] H := hP
        replace hD : va_D A [(q_t, .inr (11, [.ref q_w, .ref q_isKept, .int t_all, .int t_corners, .int t_hearers, .int t_newAll, .int t_newCorners, .int t_newHearers, .ref q_beer, .ref q_cold, .ref q_stands, .ref q_pinched, .ref q_says, .ref q_text, .int t_textSize, .int t_at, .int t_first, .int t_faultOf, .int t_fault, .int t_spoke, .int t_holds, .int (0 : Int32), .ref q_seenDecree, .ref q_seenAt, .ref q_seenSpoke, .int (0 : Int32), .ref q_inSets, .ref q_book, .int (0 : Int32)])), (q_beer, .inl (a 0, 16, .inl beer)), (q_cold, .inl (a 0, 16, .inl cold)), (q_isKept, .inl (a 1, 2, .inl w10)), (q_pinched, .inl (a 0, 18, .inl pinched)), (q_says, .inl (a 0, 18, .inl says)), (q_stands, .inl (a 0, 18, .inl stands)), (q_w, .inl (a 0, 578, .inl w8))] := hD
        simp only [Option.some.injEq, Prod.mk.injEq] at hf
        obtain ⟨rfl, rfl, rfl, rfl, rfl, rfl, rfl, rfl, rfl, rfl, rfl, rfl, rfl⟩ := hf
        exact hret _ _ _ _ hP hD hS dX11_take_257
      replace hf := o_ifn hf c1
      refine lv_aload_n hx hb dX11_take_109 rfl (lv_at hl 0 rfl) ?_
      refine g_get hX hiX11 hP 0 rfl rfl 10 (by decide) hk9 rfl rfl dX11_take_110 ?_
      refine lv_iload_n hx hb dX11_take_113 rfl (lv_at hl 2 rfl) ?_
      refine lv_aload_n hx hb dX11_take_114 rfl (lv_at hl 0 rfl) ?_
      refine g_get hX hiX11 hP 0 rfl rfl 10 (by decide) hk9 rfl rfl dX11_take_115 ?_
      refine lv_bipush (v := (9 : Int32)) hx hb dX11_take_118 (by decide) ?_
      refine lv_iload_n hx hb dX11_take_120 rfl (lv_at hl 2 rfl) ?_
      refine lv_iadd hx hb dX11_take_121 ?_
      obtain ⟨hiv11, hf⟩ := o_ldh hf
      refine g_iald hX hP 6 rfl hiv11 dX11_take_122 (fun v11 ev11 => ?_)
      replace hf := hf v11 ev11
      obtain ⟨hiw12, hf⟩ := o_sth hf
      refine g_iast hX hP hD hS 6 rfl hiw12 dX11_take_123 (fun w12 ew12 H locs hP hD hS => ?_)
      replace hf := hf w12 ew12
      replace hP : va_P D vwCl [(q_t, .inr (11, [.ref q_w, .ref q_isKept, .int t_all, .int t_corners, .int t_hearers, .int t_newAll, .int t_newCorners, .int t_newHearers, .ref q_beer, .ref q_cold, .ref q_stands, .ref q_pinched, .ref q_says, .ref q_text, .int t_textSize, .int t_at, .int t_first, .int t_faultOf, .int t_fault, .int t_spoke, .int t_holds, .int t_undoMany, .ref q_seenDecree, .ref q_seenAt, .ref q_seenSpoke, .int t_seen, .ref q_inSets, .ref q_book, .int t_written])), (q_beer, .inl (a 0, 16, .inl beer)), (q_cold, .inl (a 0, 16, .inl cold)), (q_isKept, .inl (a 1, 2, .inl isKept)), (q_pinched, .inl (a 0, 18, .inl pinched)), (q_says, .inl (a 0, 18, .inl says)), (q_stands, .inl (a 0, 18, .inl w12)), (q_w, .inl (a 0, 578, .inl w))] H := hP
      replace hD : va_D A [(q_t, .inr (11, [.ref q_w, .ref q_isKept, .int t_all, .int t_corners, .int t_hearers, .int t_newAll, .int t_newCorners, .int t_newHearers, .ref q_beer, .ref q_cold, .ref q_stands, .ref q_pinched, .ref q_says, .ref q_text, .int t_textSize, .int t_at, .int t_first, .int t_faultOf, .int t_fault, .int t_spoke, .int t_holds, .int t_undoMany, .ref q_seenDecree, .ref q_seenAt, .ref q_seenSpoke, .int t_seen, .ref q_inSets, .ref q_book, .int t_written])), (q_beer, .inl (a 0, 16, .inl beer)), (q_cold, .inl (a 0, 16, .inl cold)), (q_isKept, .inl (a 1, 2, .inl isKept)), (q_pinched, .inl (a 0, 18, .inl pinched)), (q_says, .inl (a 0, 18, .inl says)), (q_stands, .inl (a 0, 18, .inl w12)), (q_w, .inl (a 0, 578, .inl w))] := hD
      refine lv_aload_n hx hb dX11_take_124 rfl (lv_at hl 0 rfl) ?_
      refine g_get hX hiX11 hP 0 rfl rfl 11 (by decide) hk10 rfl rfl dX11_take_125 ?_
      refine lv_iload_n hx hb dX11_take_128 rfl (lv_at hl 2 rfl) ?_
      refine lv_aload_n hx hb dX11_take_129 rfl (lv_at hl 0 rfl) ?_
      refine g_get hX hiX11 hP 0 rfl rfl 11 (by decide) hk10 rfl rfl dX11_take_130 ?_
      refine lv_bipush (v := (9 : Int32)) hx hb dX11_take_133 (by decide) ?_
      refine lv_iload_n hx hb dX11_take_135 rfl (lv_at hl 2 rfl) ?_
      refine lv_iadd hx hb dX11_take_136 ?_
      obtain ⟨hiv13, hf⟩ := o_ldh hf
      refine g_iald hX hP 4 rfl hiv13 dX11_take_137 (fun v13 ev13 => ?_)
      replace hf := hf v13 ev13
      obtain ⟨hiw14, hf⟩ := o_sth hf
      refine g_iast hX hP hD hS 4 rfl hiw14 dX11_take_138 (fun w14 ew14 H locs hP hD hS => ?_)
      replace hf := hf w14 ew14
      replace hP : va_P D vwCl [(q_t, .inr (11, [.ref q_w, .ref q_isKept, .int t_all, .int t_corners, .int t_hearers, .int t_newAll, .int t_newCorners, .int t_newHearers, .ref q_beer, .ref q_cold, .ref q_stands, .ref q_pinched, .ref q_says, .ref q_text, .int t_textSize, .int t_at, .int t_first, .int t_faultOf, .int t_fault, .int t_spoke, .int t_holds, .int t_undoMany, .ref q_seenDecree, .ref q_seenAt, .ref q_seenSpoke, .int t_seen, .ref q_inSets, .ref q_book, .int t_written])), (q_beer, .inl (a 0, 16, .inl beer)), (q_cold, .inl (a 0, 16, .inl cold)), (q_isKept, .inl (a 1, 2, .inl isKept)), (q_pinched, .inl (a 0, 18, .inl w14)), (q_says, .inl (a 0, 18, .inl says)), (q_stands, .inl (a 0, 18, .inl w12)), (q_w, .inl (a 0, 578, .inl w))] H := hP
      replace hD : va_D A [(q_t, .inr (11, [.ref q_w, .ref q_isKept, .int t_all, .int t_corners, .int t_hearers, .int t_newAll, .int t_newCorners, .int t_newHearers, .ref q_beer, .ref q_cold, .ref q_stands, .ref q_pinched, .ref q_says, .ref q_text, .int t_textSize, .int t_at, .int t_first, .int t_faultOf, .int t_fault, .int t_spoke, .int t_holds, .int t_undoMany, .ref q_seenDecree, .ref q_seenAt, .ref q_seenSpoke, .int t_seen, .ref q_inSets, .ref q_book, .int t_written])), (q_beer, .inl (a 0, 16, .inl beer)), (q_cold, .inl (a 0, 16, .inl cold)), (q_isKept, .inl (a 1, 2, .inl isKept)), (q_pinched, .inl (a 0, 18, .inl w14)), (q_says, .inl (a 0, 18, .inl says)), (q_stands, .inl (a 0, 18, .inl w12)), (q_w, .inl (a 0, 578, .inl w))] := hD
      refine lv_aload_n hx hb dX11_take_139 rfl (lv_at hl 0 rfl) ?_
      refine g_get hX hiX11 hP 0 rfl rfl 12 (by decide) hk11 rfl rfl dX11_take_140 ?_
      refine lv_iload_n hx hb dX11_take_143 rfl (lv_at hl 2 rfl) ?_
      refine lv_aload_n hx hb dX11_take_144 rfl (lv_at hl 0 rfl) ?_
      refine g_get hX hiX11 hP 0 rfl rfl 12 (by decide) hk11 rfl rfl dX11_take_145 ?_
      refine lv_bipush (v := (9 : Int32)) hx hb dX11_take_148 (by decide) ?_
      refine lv_iload_n hx hb dX11_take_150 rfl (lv_at hl 2 rfl) ?_
      refine lv_iadd hx hb dX11_take_151 ?_
      obtain ⟨hiv15, hf⟩ := o_ldh hf
      refine g_iald hX hP 5 rfl hiv15 dX11_take_152 (fun v15 ev15 => ?_)
      replace hf := hf v15 ev15
      obtain ⟨hiw16, hf⟩ := o_sth hf
      refine g_iast hX hP hD hS 5 rfl hiw16 dX11_take_153 (fun w16 ew16 H locs hP hD hS => ?_)
      replace hf := hf w16 ew16
      replace hP : va_P D vwCl [(q_t, .inr (11, [.ref q_w, .ref q_isKept, .int t_all, .int t_corners, .int t_hearers, .int t_newAll, .int t_newCorners, .int t_newHearers, .ref q_beer, .ref q_cold, .ref q_stands, .ref q_pinched, .ref q_says, .ref q_text, .int t_textSize, .int t_at, .int t_first, .int t_faultOf, .int t_fault, .int t_spoke, .int t_holds, .int t_undoMany, .ref q_seenDecree, .ref q_seenAt, .ref q_seenSpoke, .int t_seen, .ref q_inSets, .ref q_book, .int t_written])), (q_beer, .inl (a 0, 16, .inl beer)), (q_cold, .inl (a 0, 16, .inl cold)), (q_isKept, .inl (a 1, 2, .inl isKept)), (q_pinched, .inl (a 0, 18, .inl w14)), (q_says, .inl (a 0, 18, .inl w16)), (q_stands, .inl (a 0, 18, .inl w12)), (q_w, .inl (a 0, 578, .inl w))] H := hP
      replace hD : va_D A [(q_t, .inr (11, [.ref q_w, .ref q_isKept, .int t_all, .int t_corners, .int t_hearers, .int t_newAll, .int t_newCorners, .int t_newHearers, .ref q_beer, .ref q_cold, .ref q_stands, .ref q_pinched, .ref q_says, .ref q_text, .int t_textSize, .int t_at, .int t_first, .int t_faultOf, .int t_fault, .int t_spoke, .int t_holds, .int t_undoMany, .ref q_seenDecree, .ref q_seenAt, .ref q_seenSpoke, .int t_seen, .ref q_inSets, .ref q_book, .int t_written])), (q_beer, .inl (a 0, 16, .inl beer)), (q_cold, .inl (a 0, 16, .inl cold)), (q_isKept, .inl (a 1, 2, .inl isKept)), (q_pinched, .inl (a 0, 18, .inl w14)), (q_says, .inl (a 0, 18, .inl w16)), (q_stands, .inl (a 0, 18, .inl w12)), (q_w, .inl (a 0, 578, .inl w))] := hD
      refine lv_aload_n hx hb dX11_take_154 rfl (lv_at hl 0 rfl) ?_
      refine g_get hX hiX11 hP 0 rfl rfl 0 (by decide) hk12 rfl rfl dX11_take_155 ?_
      refine lv_iload_n hx hb dX11_take_158 rfl (lv_at hl 2 rfl) ?_
      refine lv_aload_n hx hb dX11_take_159 rfl (lv_at hl 0 rfl) ?_
      refine g_get hX hiX11 hP 0 rfl rfl 10 (by decide) hk9 rfl rfl dX11_take_160 ?_
      refine lv_iload_n hx hb dX11_take_163 rfl (lv_at hl 2 rfl) ?_
      obtain ⟨hiv17, hf⟩ := o_ldh hf
      refine g_iald hX hP 6 rfl hiv17 dX11_take_164 (fun v17 ev17 => ?_)
      replace hf := hf v17 ev17
      obtain ⟨hiw18, hf⟩ := o_sth hf
      refine g_iast hX hP hD hS 7 rfl hiw18 dX11_take_165 (fun w18 ew18 H locs hP hD hS => ?_)
      replace hf := hf w18 ew18
      replace hP : va_P D vwCl [(q_t, .inr (11, [.ref q_w, .ref q_isKept, .int t_all, .int t_corners, .int t_hearers, .int t_newAll, .int t_newCorners, .int t_newHearers, .ref q_beer, .ref q_cold, .ref q_stands, .ref q_pinched, .ref q_says, .ref q_text, .int t_textSize, .int t_at, .int t_first, .int t_faultOf, .int t_fault, .int t_spoke, .int t_holds, .int t_undoMany, .ref q_seenDecree, .ref q_seenAt, .ref q_seenSpoke, .int t_seen, .ref q_inSets, .ref q_book, .int t_written])), (q_beer, .inl (a 0, 16, .inl beer)), (q_cold, .inl (a 0, 16, .inl cold)), (q_isKept, .inl (a 1, 2, .inl isKept)), (q_pinched, .inl (a 0, 18, .inl w14)), (q_says, .inl (a 0, 18, .inl w16)), (q_stands, .inl (a 0, 18, .inl w12)), (q_w, .inl (a 0, 578, .inl w18))] H := hP
      replace hD : va_D A [(q_t, .inr (11, [.ref q_w, .ref q_isKept, .int t_all, .int t_corners, .int t_hearers, .int t_newAll, .int t_newCorners, .int t_newHearers, .ref q_beer, .ref q_cold, .ref q_stands, .ref q_pinched, .ref q_says, .ref q_text, .int t_textSize, .int t_at, .int t_first, .int t_faultOf, .int t_fault, .int t_spoke, .int t_holds, .int t_undoMany, .ref q_seenDecree, .ref q_seenAt, .ref q_seenSpoke, .int t_seen, .ref q_inSets, .ref q_book, .int t_written])), (q_beer, .inl (a 0, 16, .inl beer)), (q_cold, .inl (a 0, 16, .inl cold)), (q_isKept, .inl (a 1, 2, .inl isKept)), (q_pinched, .inl (a 0, 18, .inl w14)), (q_says, .inl (a 0, 18, .inl w16)), (q_stands, .inl (a 0, 18, .inl w12)), (q_w, .inl (a 0, 578, .inl w18))] := hD
      obtain ⟨v19, ev19⟩ : ∃ y : Int32, y = x2 + (1 : Int32) := ⟨_, rfl⟩
      replace hf := o_nmh hf v19 ev19
      refine lv_iinc (v := v19) (lv' := [(2, .int v19), (0, .ref q_t), (1, .int x1)]) hx hb dX11_take_166 hl (k := 2) rfl (by rw [ev19]; rfl) (by decide) rfl (fun ls hl => ?_)
      refine lv_goto (tgt := 103) hx hb dX11_take_169 (by decide) ?_
      exact ih_103 t_all t_corners t_hearers t_undoMany t_seen t_written beer cold isKept w14 w16 w12 w18 x1 v19 _ _ _ hf hP hD hS (lv_sub hl [1, 2, 0] rfl)
  have L_28 : ∀ (n_28 : Nat) (t_all : Int32) (t_corners : Int32) (t_hearers : Int32) (t_undoMany : Int32) (t_seen : Int32) (t_written : Int32) (beer : (Nat → Int32)) (cold : (Nat → Int32)) (isKept : (Nat → Int32)) (pinched : (Nat → Int32)) (says : (Nat → Int32)) (stands : (Nat → Int32)) (w : (Nat → Int32)) (x1 : Int32) (x2 : Int32) (H : Heap) (locs : List Loc) (ls : Array Slot), f_X11_take_28 n_28 t_all t_corners t_hearers t_undoMany t_seen t_written beer cold isKept pinched says stands w x1 x2 = some (o_t_all, o_t_corners, o_t_hearers, o_t_undoMany, o_t_seen, o_t_written, o_beer, o_cold, o_isKept, o_pinched, o_says, o_stands, o_w) → va_P D vwCl [(q_t, .inr (11, [.ref q_w, .ref q_isKept, .int t_all, .int t_corners, .int t_hearers, .int t_newAll, .int t_newCorners, .int t_newHearers, .ref q_beer, .ref q_cold, .ref q_stands, .ref q_pinched, .ref q_says, .ref q_text, .int t_textSize, .int t_at, .int t_first, .int t_faultOf, .int t_fault, .int t_spoke, .int t_holds, .int t_undoMany, .ref q_seenDecree, .ref q_seenAt, .ref q_seenSpoke, .int t_seen, .ref q_inSets, .ref q_book, .int t_written])), (q_beer, .inl (a 0, 16, .inl beer)), (q_cold, .inl (a 0, 16, .inl cold)), (q_isKept, .inl (a 1, 2, .inl isKept)), (q_pinched, .inl (a 0, 18, .inl pinched)), (q_says, .inl (a 0, 18, .inl says)), (q_stands, .inl (a 0, 18, .inl stands)), (q_w, .inl (a 0, 578, .inl w))] H → va_D A [(q_t, .inr (11, [.ref q_w, .ref q_isKept, .int t_all, .int t_corners, .int t_hearers, .int t_newAll, .int t_newCorners, .int t_newHearers, .ref q_beer, .ref q_cold, .ref q_stands, .ref q_pinched, .ref q_says, .ref q_text, .int t_textSize, .int t_at, .int t_first, .int t_faultOf, .int t_fault, .int t_spoke, .int t_holds, .int t_undoMany, .ref q_seenDecree, .ref q_seenAt, .ref q_seenSpoke, .int t_seen, .ref q_inSets, .ref q_book, .int t_written])), (q_beer, .inl (a 0, 16, .inl beer)), (q_cold, .inl (a 0, 16, .inl cold)), (q_isKept, .inl (a 1, 2, .inl isKept)), (q_pinched, .inl (a 0, 18, .inl pinched)), (q_says, .inl (a 0, 18, .inl says)), (q_stands, .inl (a 0, 18, .inl stands)), (q_w, .inl (a 0, 578, .inl w))] → va_S A s.heap H locs → lv_has ls 3 [(0, .ref q_t), (1, .int x1), (2, .int x2)] → W p l e { frames := 1, cells := 0, slots := 0, locals := 20 } s m args below meth c H locs 0 0 Q (F0 m 28 ls []) := by
    intro n_28
    induction n_28 with
    | zero => intro t_all t_corners t_hearers t_undoMany t_seen t_written beer cold isKept pinched says stands w x1 x2 H locs ls hf hP hD hS hl; rw [f_X11_take_28] at hf; cases hf
    | succ n_28 ih_28 =>
      have L_88 : ∀ (t_all : Int32) (t_corners : Int32) (t_hearers : Int32) (t_undoMany : Int32) (t_seen : Int32) (t_written : Int32) (beer : (Nat → Int32)) (cold : (Nat → Int32)) (isKept : (Nat → Int32)) (pinched : (Nat → Int32)) (says : (Nat → Int32)) (stands : (Nat → Int32)) (w : (Nat → Int32)) (x2 : Int32) (s0 : Int32) (s1 : Int32) (H : Heap) (locs : List Loc) (ls : Array Slot), f_X11_take_88 (f_X11_take_28  n_28) t_all t_corners t_hearers t_undoMany t_seen t_written beer cold isKept pinched says stands w x2 s0 s1 = some (o_t_all, o_t_corners, o_t_hearers, o_t_undoMany, o_t_seen, o_t_written, o_beer, o_cold, o_isKept, o_pinched, o_says, o_stands, o_w) → va_P D vwCl [(q_t, .inr (11, [.ref q_w, .ref q_isKept, .int t_all, .int t_corners, .int t_hearers, .int t_newAll, .int t_newCorners, .int t_newHearers, .ref q_beer, .ref q_cold, .ref q_stands, .ref q_pinched, .ref q_says, .ref q_text, .int t_textSize, .int t_at, .int t_first, .int t_faultOf, .int t_fault, .int t_spoke, .int t_holds, .int t_undoMany, .ref q_seenDecree, .ref q_seenAt, .ref q_seenSpoke, .int t_seen, .ref q_inSets, .ref q_book, .int t_written])), (q_beer, .inl (a 0, 16, .inl beer)), (q_cold, .inl (a 0, 16, .inl cold)), (q_isKept, .inl (a 1, 2, .inl isKept)), (q_pinched, .inl (a 0, 18, .inl pinched)), (q_says, .inl (a 0, 18, .inl says)), (q_stands, .inl (a 0, 18, .inl stands)), (q_w, .inl (a 0, 578, .inl w))] H → va_D A [(q_t, .inr (11, [.ref q_w, .ref q_isKept, .int t_all, .int t_corners, .int t_hearers, .int t_newAll, .int t_newCorners, .int t_newHearers, .ref q_beer, .ref q_cold, .ref q_stands, .ref q_pinched, .ref q_says, .ref q_text, .int t_textSize, .int t_at, .int t_first, .int t_faultOf, .int t_fault, .int t_spoke, .int t_holds, .int t_undoMany, .ref q_seenDecree, .ref q_seenAt, .ref q_seenSpoke, .int t_seen, .ref q_inSets, .ref q_book, .int t_written])), (q_beer, .inl (a 0, 16, .inl beer)), (q_cold, .inl (a 0, 16, .inl cold)), (q_isKept, .inl (a 1, 2, .inl isKept)), (q_pinched, .inl (a 0, 18, .inl pinched)), (q_says, .inl (a 0, 18, .inl says)), (q_stands, .inl (a 0, 18, .inl stands)), (q_w, .inl (a 0, 578, .inl w))] → va_S A s.heap H locs → lv_has ls 3 [(0, .ref q_t), (2, .int x2)] → W p l e { frames := 1, cells := 0, slots := 0, locals := 20 } s m args below meth c H locs 0 0 Q (F0 m 88 ls [.int s1, .int s0]) := by
        intro t_all t_corners t_hearers t_undoMany t_seen t_written beer cold isKept pinched says stands w x2 s0 s1 H locs ls hf hP hD hS hl
        unfold f_X11_take_88 at hf
        obtain ⟨o20, ho20, hf⟩ := o_bd hf
        refine call_iS hX (c_X11_one l D a t s1 o20 ho20) (va_cwS 1 hts gX11_take_X11_one rfl rfl rfl hdS_X11_one ⟨by decide, by decide⟩) (Cut.none hA hP hD hS) hS rfl hl.1 rfl (Nat.le_of_ble_eq_true rfl) dX11_take_88 (by decide) (fun H locs hP hD hS => ?_)
        refine lv_iload_n hx hb dX11_take_91 rfl (lv_at hl 1 rfl) ?_
        refine lv_ishl hx hb dX11_take_92 ?_
        refine lv_ior hx hb dX11_take_93 ?_
        refine lv_topi (fun v21 ev21 => ?_)
        replace hf := o_nmh hf v21 ev21
        refine lv_istore_n (lv' := [(1, .int v21), (0, .ref q_t), (2, .int x2)]) hx hb dX11_take_94 rfl hl (by decide) rfl (fun ls hl => ?_)
        obtain ⟨v22, ev22⟩ : ∃ y : Int32, y = x2 + (1 : Int32) := ⟨_, rfl⟩
        replace hf := o_nmh hf v22 ev22
        refine lv_iinc (v := v22) (lv' := [(2, .int v22), (1, .int v21), (0, .ref q_t)]) hx hb dX11_take_95 hl (k := 2) rfl (by rw [ev22]; rfl) (by decide) rfl (fun ls hl => ?_)
        refine lv_goto (tgt := 28) hx hb dX11_take_98 (by decide) ?_
        exact ih_28 t_all t_corners t_hearers t_undoMany t_seen t_written beer cold isKept pinched says stands w v21 v22 _ _ _ hf hP hD hS (lv_sub hl [2, 1, 0] rfl)
      intro t_all t_corners t_hearers t_undoMany t_seen t_written beer cold isKept pinched says stands w x1 x2 H locs ls hf hP hD hS hl
      rw [f_X11_take_28] at hf
      refine lv_iload_n hx hb dX11_take_28 rfl (lv_at hl 2 rfl) ?_
      refine lv_bipush (v := (8 : Int32)) hx hb dX11_take_29 (by decide) ?_
      refine lv_icmp_ge (tgt := 101) hx hb dX11_take_31 (by decide) (fun c23 => ?_) (fun c23 => ?_)
      · replace hf := o_ifp hf c23
        refine lv_iconst (v := (0 : Int32)) hx hb dX11_take_101 (by decide) ?_
        refine lv_istore_n (lv' := [(2, .int (0 : Int32)), (0, .ref q_t), (1, .int x1)]) hx hb dX11_take_102 rfl hl (by decide) rfl (fun ls hl => ?_)
        exact L_103 1000 t_all t_corners t_hearers t_undoMany t_seen t_written beer cold isKept pinched says stands w x1 (0 : Int32) _ _ _ hf hP hD hS (lv_sub hl [1, 2, 0] rfl)
      replace hf := o_ifn hf c23
      refine lv_aload_n hx hb dX11_take_34 rfl (lv_at hl 0 rfl) ?_
      refine g_get hX hiX11 hP 0 rfl rfl 8 (by decide) hk7 rfl rfl dX11_take_35 ?_
      refine lv_iload_n hx hb dX11_take_38 rfl (lv_at hl 2 rfl) ?_
      refine lv_aload_n hx hb dX11_take_39 rfl (lv_at hl 0 rfl) ?_
      refine g_get hX hiX11 hP 0 rfl rfl 8 (by decide) hk7 rfl rfl dX11_take_40 ?_
      refine lv_bipush (v := (8 : Int32)) hx hb dX11_take_43 (by decide) ?_
      refine lv_iload_n hx hb dX11_take_45 rfl (lv_at hl 2 rfl) ?_
      refine lv_iadd hx hb dX11_take_46 ?_
      obtain ⟨hiv24, hf⟩ := o_ldh hf
      refine g_iald hX hP 1 rfl hiv24 dX11_take_47 (fun v24 ev24 => ?_)
      replace hf := hf v24 ev24
      obtain ⟨hiw25, hf⟩ := o_sth hf
      refine g_iast hX hP hD hS 1 rfl hiw25 dX11_take_48 (fun w25 ew25 H locs hP hD hS => ?_)
      replace hf := hf w25 ew25
      replace hP : va_P D vwCl [(q_t, .inr (11, [.ref q_w, .ref q_isKept, .int t_all, .int t_corners, .int t_hearers, .int t_newAll, .int t_newCorners, .int t_newHearers, .ref q_beer, .ref q_cold, .ref q_stands, .ref q_pinched, .ref q_says, .ref q_text, .int t_textSize, .int t_at, .int t_first, .int t_faultOf, .int t_fault, .int t_spoke, .int t_holds, .int t_undoMany, .ref q_seenDecree, .ref q_seenAt, .ref q_seenSpoke, .int t_seen, .ref q_inSets, .ref q_book, .int t_written])), (q_beer, .inl (a 0, 16, .inl w25)), (q_cold, .inl (a 0, 16, .inl cold)), (q_isKept, .inl (a 1, 2, .inl isKept)), (q_pinched, .inl (a 0, 18, .inl pinched)), (q_says, .inl (a 0, 18, .inl says)), (q_stands, .inl (a 0, 18, .inl stands)), (q_w, .inl (a 0, 578, .inl w))] H := hP
      replace hD : va_D A [(q_t, .inr (11, [.ref q_w, .ref q_isKept, .int t_all, .int t_corners, .int t_hearers, .int t_newAll, .int t_newCorners, .int t_newHearers, .ref q_beer, .ref q_cold, .ref q_stands, .ref q_pinched, .ref q_says, .ref q_text, .int t_textSize, .int t_at, .int t_first, .int t_faultOf, .int t_fault, .int t_spoke, .int t_holds, .int t_undoMany, .ref q_seenDecree, .ref q_seenAt, .ref q_seenSpoke, .int t_seen, .ref q_inSets, .ref q_book, .int t_written])), (q_beer, .inl (a 0, 16, .inl w25)), (q_cold, .inl (a 0, 16, .inl cold)), (q_isKept, .inl (a 1, 2, .inl isKept)), (q_pinched, .inl (a 0, 18, .inl pinched)), (q_says, .inl (a 0, 18, .inl says)), (q_stands, .inl (a 0, 18, .inl stands)), (q_w, .inl (a 0, 578, .inl w))] := hD
      refine lv_aload_n hx hb dX11_take_49 rfl (lv_at hl 0 rfl) ?_
      refine g_get hX hiX11 hP 0 rfl rfl 9 (by decide) hk8 rfl rfl dX11_take_50 ?_
      refine lv_iload_n hx hb dX11_take_53 rfl (lv_at hl 2 rfl) ?_
      refine lv_aload_n hx hb dX11_take_54 rfl (lv_at hl 0 rfl) ?_
      refine g_get hX hiX11 hP 0 rfl rfl 9 (by decide) hk8 rfl rfl dX11_take_55 ?_
      refine lv_bipush (v := (8 : Int32)) hx hb dX11_take_58 (by decide) ?_
      refine lv_iload_n hx hb dX11_take_60 rfl (lv_at hl 2 rfl) ?_
      refine lv_iadd hx hb dX11_take_61 ?_
      obtain ⟨hiv26, hf⟩ := o_ldh hf
      refine g_iald hX hP 2 rfl hiv26 dX11_take_62 (fun v26 ev26 => ?_)
      replace hf := hf v26 ev26
      obtain ⟨hiw27, hf⟩ := o_sth hf
      refine g_iast hX hP hD hS 2 rfl hiw27 dX11_take_63 (fun w27 ew27 H locs hP hD hS => ?_)
      replace hf := hf w27 ew27
      replace hP : va_P D vwCl [(q_t, .inr (11, [.ref q_w, .ref q_isKept, .int t_all, .int t_corners, .int t_hearers, .int t_newAll, .int t_newCorners, .int t_newHearers, .ref q_beer, .ref q_cold, .ref q_stands, .ref q_pinched, .ref q_says, .ref q_text, .int t_textSize, .int t_at, .int t_first, .int t_faultOf, .int t_fault, .int t_spoke, .int t_holds, .int t_undoMany, .ref q_seenDecree, .ref q_seenAt, .ref q_seenSpoke, .int t_seen, .ref q_inSets, .ref q_book, .int t_written])), (q_beer, .inl (a 0, 16, .inl w25)), (q_cold, .inl (a 0, 16, .inl w27)), (q_isKept, .inl (a 1, 2, .inl isKept)), (q_pinched, .inl (a 0, 18, .inl pinched)), (q_says, .inl (a 0, 18, .inl says)), (q_stands, .inl (a 0, 18, .inl stands)), (q_w, .inl (a 0, 578, .inl w))] H := hP
      replace hD : va_D A [(q_t, .inr (11, [.ref q_w, .ref q_isKept, .int t_all, .int t_corners, .int t_hearers, .int t_newAll, .int t_newCorners, .int t_newHearers, .ref q_beer, .ref q_cold, .ref q_stands, .ref q_pinched, .ref q_says, .ref q_text, .int t_textSize, .int t_at, .int t_first, .int t_faultOf, .int t_fault, .int t_spoke, .int t_holds, .int t_undoMany, .ref q_seenDecree, .ref q_seenAt, .ref q_seenSpoke, .int t_seen, .ref q_inSets, .ref q_book, .int t_written])), (q_beer, .inl (a 0, 16, .inl w25)), (q_cold, .inl (a 0, 16, .inl w27)), (q_isKept, .inl (a 1, 2, .inl isKept)), (q_pinched, .inl (a 0, 18, .inl pinched)), (q_says, .inl (a 0, 18, .inl says)), (q_stands, .inl (a 0, 18, .inl stands)), (q_w, .inl (a 0, 578, .inl w))] := hD
      refine lv_iload_n hx hb dX11_take_64 rfl (lv_at hl 1 rfl) ?_
      refine lv_iload_n hx hb dX11_take_65 rfl (lv_at hl 2 rfl) ?_
      refine lv_aload_n hx hb dX11_take_66 rfl (lv_at hl 0 rfl) ?_
      refine g_get hX hiX11 hP 0 rfl rfl 3 (by decide) hk4 rfl rfl dX11_take_67 ?_
      refine lv_icmp_ge (tgt := 87) hx hb dX11_take_70 (by decide) (fun c28 => ?_) (fun c28 => ?_)
      · replace hf := o_ifp hf c28
        refine lv_iconst (v := (0 : Int32)) hx hb dX11_take_87 (by decide) ?_
        exact L_88 t_all t_corners t_hearers t_undoMany t_seen t_written w25 w27 isKept pinched says stands w x2 x1 (0 : Int32) _ _ _ hf hP hD hS (lv_sub hl [0, 2] rfl)
      replace hf := o_ifn hf c28
      refine lv_aload_n hx hb dX11_take_73 rfl (lv_at hl 0 rfl) ?_
      refine g_get hX hiX11 hP 0 rfl rfl 9 (by decide) hk8 rfl rfl dX11_take_74 ?_
      refine lv_iload_n hx hb dX11_take_77 rfl (lv_at hl 2 rfl) ?_
      obtain ⟨hiv29, hf⟩ := o_ldh hf
      refine g_iald hX hP 2 rfl hiv29 dX11_take_78 (fun v29 ev29 => ?_)
      replace hf := hf v29 ev29
      refine lv_iconst (v := (1 : Int32)) hx hb dX11_take_79 (by decide) ?_
      refine lv_icmp_ne (tgt := 87) hx hb dX11_take_80 (by decide) (fun c30 => ?_) (fun c30 => ?_)
      · replace hf := o_ifn hf c30
        refine lv_iconst (v := (0 : Int32)) hx hb dX11_take_87 (by decide) ?_
        exact L_88 t_all t_corners t_hearers t_undoMany t_seen t_written w25 w27 isKept pinched says stands w x2 x1 (0 : Int32) _ _ _ hf hP hD hS (lv_sub hl [0, 2] rfl)
      replace hf := o_ifp hf c30
      refine lv_iconst (v := (1 : Int32)) hx hb dX11_take_83 (by decide) ?_
      refine lv_goto (tgt := 88) hx hb dX11_take_84 (by decide) ?_
      exact L_88 t_all t_corners t_hearers t_undoMany t_seen t_written w25 w27 isKept pinched says stands w x2 x1 (1 : Int32) _ _ _ hf hP hD hS (lv_sub hl [0, 2] rfl)
  unfold f_X11_take at hf
  refine lv_aload_n hx hb dX11_take_0 rfl (lv_at hl 0 rfl) ?_
  refine lv_aload_n hx hb dX11_take_1 rfl (lv_at hl 0 rfl) ?_
  refine g_get hX hiX11 hP 0 rfl rfl 5 (by decide) hk1 rfl rfl dX11_take_2 ?_
  refine g_put hX hiX11 tyX11 tyX11_ok nmX11 hP hD hS 0 rfl rfl 2 (by decide) hk2 rfl rfl rfl rfl (Nat.le_of_ble_eq_true rfl) dX11_take_5 (fun H locs hP hD hS => ?_)
  replace hP : va_P D vwCl [(q_t, .inr (11, [.ref q_w, .ref q_isKept, .int t_newAll, .int t_corners, .int t_hearers, .int t_newAll, .int t_newCorners, .int t_newHearers, .ref q_beer, .ref q_cold, .ref q_stands, .ref q_pinched, .ref q_says, .ref q_text, .int t_textSize, .int t_at, .int t_first, .int t_faultOf, .int t_fault, .int t_spoke, .int t_holds, .int t_undoMany, .ref q_seenDecree, .ref q_seenAt, .ref q_seenSpoke, .int t_seen, .ref q_inSets, .ref q_book, .int t_written])), (q_beer, .inl (a 0, 16, .inl beer)), (q_cold, .inl (a 0, 16, .inl cold)), (q_isKept, .inl (a 1, 2, .inl isKept)), (q_pinched, .inl (a 0, 18, .inl pinched)), (q_says, .inl (a 0, 18, .inl says)), (q_stands, .inl (a 0, 18, .inl stands)), (q_w, .inl (a 0, 578, .inl w))] H := hP
  replace hD : va_D A [(q_t, .inr (11, [.ref q_w, .ref q_isKept, .int t_newAll, .int t_corners, .int t_hearers, .int t_newAll, .int t_newCorners, .int t_newHearers, .ref q_beer, .ref q_cold, .ref q_stands, .ref q_pinched, .ref q_says, .ref q_text, .int t_textSize, .int t_at, .int t_first, .int t_faultOf, .int t_fault, .int t_spoke, .int t_holds, .int t_undoMany, .ref q_seenDecree, .ref q_seenAt, .ref q_seenSpoke, .int t_seen, .ref q_inSets, .ref q_book, .int t_written])), (q_beer, .inl (a 0, 16, .inl beer)), (q_cold, .inl (a 0, 16, .inl cold)), (q_isKept, .inl (a 1, 2, .inl isKept)), (q_pinched, .inl (a 0, 18, .inl pinched)), (q_says, .inl (a 0, 18, .inl says)), (q_stands, .inl (a 0, 18, .inl stands)), (q_w, .inl (a 0, 578, .inl w))] := hD
  refine lv_aload_n hx hb dX11_take_8 rfl (lv_at hl 0 rfl) ?_
  refine lv_aload_n hx hb dX11_take_9 rfl (lv_at hl 0 rfl) ?_
  refine g_get hX hiX11 hP 0 rfl rfl 6 (by decide) hk3 rfl rfl dX11_take_10 ?_
  refine g_put hX hiX11 tyX11 tyX11_ok nmX11 hP hD hS 0 rfl rfl 3 (by decide) hk4 rfl rfl rfl rfl (Nat.le_of_ble_eq_true rfl) dX11_take_13 (fun H locs hP hD hS => ?_)
  replace hP : va_P D vwCl [(q_t, .inr (11, [.ref q_w, .ref q_isKept, .int t_newAll, .int t_newCorners, .int t_hearers, .int t_newAll, .int t_newCorners, .int t_newHearers, .ref q_beer, .ref q_cold, .ref q_stands, .ref q_pinched, .ref q_says, .ref q_text, .int t_textSize, .int t_at, .int t_first, .int t_faultOf, .int t_fault, .int t_spoke, .int t_holds, .int t_undoMany, .ref q_seenDecree, .ref q_seenAt, .ref q_seenSpoke, .int t_seen, .ref q_inSets, .ref q_book, .int t_written])), (q_beer, .inl (a 0, 16, .inl beer)), (q_cold, .inl (a 0, 16, .inl cold)), (q_isKept, .inl (a 1, 2, .inl isKept)), (q_pinched, .inl (a 0, 18, .inl pinched)), (q_says, .inl (a 0, 18, .inl says)), (q_stands, .inl (a 0, 18, .inl stands)), (q_w, .inl (a 0, 578, .inl w))] H := hP
  replace hD : va_D A [(q_t, .inr (11, [.ref q_w, .ref q_isKept, .int t_newAll, .int t_newCorners, .int t_hearers, .int t_newAll, .int t_newCorners, .int t_newHearers, .ref q_beer, .ref q_cold, .ref q_stands, .ref q_pinched, .ref q_says, .ref q_text, .int t_textSize, .int t_at, .int t_first, .int t_faultOf, .int t_fault, .int t_spoke, .int t_holds, .int t_undoMany, .ref q_seenDecree, .ref q_seenAt, .ref q_seenSpoke, .int t_seen, .ref q_inSets, .ref q_book, .int t_written])), (q_beer, .inl (a 0, 16, .inl beer)), (q_cold, .inl (a 0, 16, .inl cold)), (q_isKept, .inl (a 1, 2, .inl isKept)), (q_pinched, .inl (a 0, 18, .inl pinched)), (q_says, .inl (a 0, 18, .inl says)), (q_stands, .inl (a 0, 18, .inl stands)), (q_w, .inl (a 0, 578, .inl w))] := hD
  refine lv_aload_n hx hb dX11_take_16 rfl (lv_at hl 0 rfl) ?_
  refine lv_aload_n hx hb dX11_take_17 rfl (lv_at hl 0 rfl) ?_
  refine g_get hX hiX11 hP 0 rfl rfl 7 (by decide) hk5 rfl rfl dX11_take_18 ?_
  refine g_put hX hiX11 tyX11 tyX11_ok nmX11 hP hD hS 0 rfl rfl 4 (by decide) hk6 rfl rfl rfl rfl (Nat.le_of_ble_eq_true rfl) dX11_take_21 (fun H locs hP hD hS => ?_)
  replace hP : va_P D vwCl [(q_t, .inr (11, [.ref q_w, .ref q_isKept, .int t_newAll, .int t_newCorners, .int t_newHearers, .int t_newAll, .int t_newCorners, .int t_newHearers, .ref q_beer, .ref q_cold, .ref q_stands, .ref q_pinched, .ref q_says, .ref q_text, .int t_textSize, .int t_at, .int t_first, .int t_faultOf, .int t_fault, .int t_spoke, .int t_holds, .int t_undoMany, .ref q_seenDecree, .ref q_seenAt, .ref q_seenSpoke, .int t_seen, .ref q_inSets, .ref q_book, .int t_written])), (q_beer, .inl (a 0, 16, .inl beer)), (q_cold, .inl (a 0, 16, .inl cold)), (q_isKept, .inl (a 1, 2, .inl isKept)), (q_pinched, .inl (a 0, 18, .inl pinched)), (q_says, .inl (a 0, 18, .inl says)), (q_stands, .inl (a 0, 18, .inl stands)), (q_w, .inl (a 0, 578, .inl w))] H := hP
  replace hD : va_D A [(q_t, .inr (11, [.ref q_w, .ref q_isKept, .int t_newAll, .int t_newCorners, .int t_newHearers, .int t_newAll, .int t_newCorners, .int t_newHearers, .ref q_beer, .ref q_cold, .ref q_stands, .ref q_pinched, .ref q_says, .ref q_text, .int t_textSize, .int t_at, .int t_first, .int t_faultOf, .int t_fault, .int t_spoke, .int t_holds, .int t_undoMany, .ref q_seenDecree, .ref q_seenAt, .ref q_seenSpoke, .int t_seen, .ref q_inSets, .ref q_book, .int t_written])), (q_beer, .inl (a 0, 16, .inl beer)), (q_cold, .inl (a 0, 16, .inl cold)), (q_isKept, .inl (a 1, 2, .inl isKept)), (q_pinched, .inl (a 0, 18, .inl pinched)), (q_says, .inl (a 0, 18, .inl says)), (q_stands, .inl (a 0, 18, .inl stands)), (q_w, .inl (a 0, 578, .inl w))] := hD
  refine lv_iconst (v := (0 : Int32)) hx hb dX11_take_24 (by decide) ?_
  refine lv_istore_n (lv' := [(1, .int (0 : Int32)), (0, .ref q_t)]) hx hb dX11_take_25 rfl hl (by decide) rfl (fun ls hl => ?_)
  refine lv_iconst (v := (0 : Int32)) hx hb dX11_take_26 (by decide) ?_
  refine lv_istore_n (lv' := [(2, .int (0 : Int32)), (1, .int (0 : Int32)), (0, .ref q_t)]) hx hb dX11_take_27 rfl hl (by decide) rfl (fun ls hl => ?_)
  exact L_28 1000 t_newAll t_newCorners t_newHearers t_undoMany t_seen t_written beer cold isKept pinched says stands w (0 : Int32) (0 : Int32) _ _ _ hf hP hD hS (lv_sub hl [2, 1, 0] rfl)
def f_X11_town_94  (t_all : Int32) (t_corners : Int32) (t_hearers : Int32) (t_newAll : Int32) (t_newCorners : Int32) (t_newHearers : Int32) (t_textSize : Int32) (t_at : Int32) (t_first : Int32) (t_faultOf : Int32) (t_fault : Int32) (t_undoMany : Int32) (t_seen : Int32) (t_written : Int32) (beer : (Nat → Int32)) (cold : (Nat → Int32)) (isKept : (Nat → Int32)) (pinched : (Nat → Int32)) (says : (Nat → Int32)) (stands : (Nat → Int32)) (w : (Nat → Int32)) : Option (Int32 × Int32 × Int32 × Int32 × Int32 × Int32 × Int32 × Int32 × Int32 × Int32 × Int32 × Int32 × Int32 × Int32 × Int32 × (Nat → Int32) × (Nat → Int32) × (Nat → Int32) × (Nat → Int32) × (Nat → Int32) × (Nat → Int32) × (Nat → Int32)) :=
  if t_faultOf ≤ 0 then ((f_X11_take t_all t_corners t_hearers t_newAll t_newCorners t_newHearers t_undoMany t_seen t_written beer cold isKept pinched says stands w).bind fun o2 =>
  some (o2.2.1, o2.1, o2.2.1, o2.2.2.1, t_newAll, t_newCorners, t_newHearers, (0 : Int32), t_at, t_first, t_faultOf, t_fault, o2.2.2.2.1, o2.2.2.2.2.1, o2.2.2.2.2.2.1, o2.2.2.2.2.2.2.1, o2.2.2.2.2.2.2.2.1, o2.2.2.2.2.2.2.2.2.1, o2.2.2.2.2.2.2.2.2.2.1, o2.2.2.2.2.2.2.2.2.2.2.1, o2.2.2.2.2.2.2.2.2.2.2.2.1, o2.2.2.2.2.2.2.2.2.2.2.2.2))
  else (some (((-10 : Int32) - t_faultOf), t_all, t_corners, t_hearers, t_newAll, t_newCorners, t_newHearers, (0 : Int32), t_at, t_first, t_faultOf, t_fault, t_undoMany, t_seen, t_written, beer, cold, isKept, pinched, says, stands, w))
def f_X11_town_70 (text : Nat → Int32) (k_30 : Int32 → Int32 → Int32 → Int32 → Int32 → Int32 → Int32 → Int32 → Int32 → Int32 → Int32 → Int32 → Int32 → Int32 → (Nat → Int32) → (Nat → Int32) → (Nat → Int32) → (Nat → Int32) → (Nat → Int32) → (Nat → Int32) → (Nat → Int32) → Option (Int32 × Int32 × Int32 × Int32 × Int32 × Int32 × Int32 × Int32 × Int32 × Int32 × Int32 × Int32 × Int32 × Int32 × Int32 × (Nat → Int32) × (Nat → Int32) × (Nat → Int32) × (Nat → Int32) × (Nat → Int32) × (Nat → Int32) × (Nat → Int32))) (t_all : Int32) (t_corners : Int32) (t_hearers : Int32) (t_newAll : Int32) (t_newCorners : Int32) (t_newHearers : Int32) (t_textSize : Int32) (t_at : Int32) (t_first : Int32) (t_faultOf : Int32) (t_fault : Int32) (t_undoMany : Int32) (t_seen : Int32) (t_written : Int32) (beer : (Nat → Int32)) (cold : (Nat → Int32)) (isKept : (Nat → Int32)) (pinched : (Nat → Int32)) (says : (Nat → Int32)) (stands : (Nat → Int32)) (w : (Nat → Int32)) (s0 : Int32) : Option (Int32 × Int32 × Int32 × Int32 × Int32 × Int32 × Int32 × Int32 × Int32 × Int32 × Int32 × Int32 × Int32 × Int32 × Int32 × (Nat → Int32) × (Nat → Int32) × (Nat → Int32) × (Nat → Int32) × (Nat → Int32) × (Nat → Int32) × (Nat → Int32)) :=
  (f_X11_want t_faultOf t_fault s0 (1 : Int32) t_at).bind fun o3 =>
  if o3.1 = 0 then (k_30 t_all t_corners t_hearers t_newAll t_newCorners t_newHearers t_textSize t_at t_first o3.2.1 o3.2.2 t_undoMany t_seen t_written beer cold isKept pinched says stands w)
  else (o_nm ((t_at + (1 : Int32))) fun v5 =>
  k_30 t_all t_corners t_hearers t_newAll t_newCorners t_newHearers t_textSize v5 t_first o3.2.1 o3.2.2 t_undoMany t_seen t_written beer cold isKept pinched says stands w)
def f_X11_town_30 (text : Nat → Int32) : Nat → Int32 → Int32 → Int32 → Int32 → Int32 → Int32 → Int32 → Int32 → Int32 → Int32 → Int32 → Int32 → Int32 → Int32 → (Nat → Int32) → (Nat → Int32) → (Nat → Int32) → (Nat → Int32) → (Nat → Int32) → (Nat → Int32) → (Nat → Int32) → Option (Int32 × Int32 × Int32 × Int32 × Int32 × Int32 × Int32 × Int32 × Int32 × Int32 × Int32 × Int32 × Int32 × Int32 × Int32 × (Nat → Int32) × (Nat → Int32) × (Nat → Int32) × (Nat → Int32) × (Nat → Int32) × (Nat → Int32) × (Nat → Int32))
  | 0, _, _, _, _, _, _, _, _, _, _, _, _, _, _, _, _, _, _, _, _, _ => none
  | n_30 + 1, t_all, t_corners, t_hearers, t_newAll, t_newCorners, t_newHearers, t_textSize, t_at, t_first, t_faultOf, t_fault, t_undoMany, t_seen, t_written, beer, cold, isKept, pinched, says, stands, w =>
    if t_faultOf = 0 then ((f_X11_here t_textSize t_at text).bind fun o7 =>
    if o7.1 < 0 then (f_X11_town_94 t_all t_corners t_hearers t_newAll t_newCorners t_newHearers t_textSize o7.2 t_first t_faultOf t_fault t_undoMany t_seen t_written beer cold isKept pinched says stands w)
    else ((f_X11_takeClause t_newAll t_newCorners t_newHearers t_textSize o7.2 t_first t_faultOf t_fault beer cold pinched says stands text).bind fun o9 =>
    if o9.2.2.2.2.2.1 = 0 then ((f_X11_here t_textSize o9.2.2.2.1 text).bind fun o11 =>
    if o11.1 = (59 : Int32) then (f_X11_town_70 text (f_X11_town_30 text n_30) t_all t_corners t_hearers o9.1 o9.2.1 o9.2.2.1 t_textSize o11.2 o9.2.2.2.2.1 o9.2.2.2.2.2.1 o9.2.2.2.2.2.2.1 t_undoMany t_seen t_written o9.2.2.2.2.2.2.2.1 o9.2.2.2.2.2.2.2.2.1 isKept o9.2.2.2.2.2.2.2.2.2.1 o9.2.2.2.2.2.2.2.2.2.2.1 o9.2.2.2.2.2.2.2.2.2.2.2 w (1 : Int32))
    else (f_X11_town_70 text (f_X11_town_30 text n_30) t_all t_corners t_hearers o9.1 o9.2.1 o9.2.2.1 t_textSize o11.2 o9.2.2.2.2.1 o9.2.2.2.2.2.1 o9.2.2.2.2.2.2.1 t_undoMany t_seen t_written o9.2.2.2.2.2.2.2.1 o9.2.2.2.2.2.2.2.2.1 isKept o9.2.2.2.2.2.2.2.2.2.1 o9.2.2.2.2.2.2.2.2.2.2.1 o9.2.2.2.2.2.2.2.2.2.2.2 w (0 : Int32)))
    else (f_X11_town_30 text n_30 t_all t_corners t_hearers o9.1 o9.2.1 o9.2.2.1 t_textSize o9.2.2.2.1 o9.2.2.2.2.1 o9.2.2.2.2.2.1 o9.2.2.2.2.2.2.1 t_undoMany t_seen t_written o9.2.2.2.2.2.2.2.1 o9.2.2.2.2.2.2.2.2.1 isKept o9.2.2.2.2.2.2.2.2.2.1 o9.2.2.2.2.2.2.2.2.2.2.1 o9.2.2.2.2.2.2.2.2.2.2.2 w)))
    else (f_X11_town_94 t_all t_corners t_hearers t_newAll t_newCorners t_newHearers t_textSize t_at t_first t_faultOf t_fault t_undoMany t_seen t_written beer cold isKept pinched says stands w)
def f_X11_town (t_all : Int32) (t_corners : Int32) (t_hearers : Int32) (t_newAll : Int32) (t_newCorners : Int32) (t_newHearers : Int32) (t_textSize : Int32) (t_at : Int32) (t_first : Int32) (t_faultOf : Int32) (t_fault : Int32) (t_undoMany : Int32) (t_seen : Int32) (t_written : Int32) (beer : Nat → Int32) (cold : Nat → Int32) (isKept : Nat → Int32) (pinched : Nat → Int32) (says : Nat → Int32) (stands : Nat → Int32) (text : Nat → Int32) (w : Nat → Int32) : Option (Int32 × Int32 × Int32 × Int32 × Int32 × Int32 × Int32 × Int32 × Int32 × Int32 × Int32 × Int32 × Int32 × Int32 × Int32 × (Nat → Int32) × (Nat → Int32) × (Nat → Int32) × (Nat → Int32) × (Nat → Int32) × (Nat → Int32) × (Nat → Int32)) :=
  f_X11_town_30 text 1000 t_all t_corners t_hearers (0 : Int32) (0 : Int32) (0 : Int32) t_textSize (0 : Int32) t_first (0 : Int32) (-1 : Int32) t_undoMany t_seen t_written beer cold isKept pinched says stands w
theorem hdS_X11_town : yX11_town.cls ≠ "java/lang/invoke/MethodHandle" ∧ yX11_town.cls ≠ "java/lang/invoke/VarHandle" ∧ (parseMethodDescriptor yX11_town.desc).map (fun d => d.parameters.length) = some 0 := by decide +kernel
theorem hdV_X11_town : yX11_town.cls = RX11 ∧ yX11_town.cls ≠ "java/lang/invoke/MethodHandle" ∧ yX11_town.cls ≠ "java/lang/invoke/VarHandle" ∧ (parseMethodDescriptor yX11_town.desc).map (fun d => d.parameters.length) = some 0 := ⟨rfl, hdS_X11_town⟩
set_option maxHeartbeats 4000000 in
set_option maxRecDepth 100000 in
theorem c_X11_town (l : Launch) (D : va_G) (a : Nat → ClassId) (t : Nat) (q_t : Nat) (q_w : Nat) (q_isKept : Nat) (t_all : Int32) (t_corners : Int32) (t_hearers : Int32) (t_newAll : Int32) (t_newCorners : Int32) (t_newHearers : Int32) (q_beer : Nat) (q_cold : Nat) (q_stands : Nat) (q_pinched : Nat) (q_says : Nat) (q_text : Nat) (t_textSize : Int32) (t_at : Int32) (t_first : Int32) (t_faultOf : Int32) (t_fault : Int32) (t_spoke : Int32) (t_holds : Int32) (t_undoMany : Int32) (q_seenDecree : Nat) (q_seenAt : Nat) (q_seenSpoke : Nat) (t_seen : Int32) (q_inSets : Nat) (q_book : Nat) (t_written : Int32) (beer : Nat → Int32) (cold : Nat → Int32) (isKept : Nat → Int32) (pinched : Nat → Int32) (says : Nat → Int32) (stands : Nat → Int32) (text : Nat → Int32) (w : Nat → Int32) (r : Int32) (o_t_all : Int32) (o_t_corners : Int32) (o_t_hearers : Int32) (o_t_newAll : Int32) (o_t_newCorners : Int32) (o_t_newHearers : Int32) (o_t_textSize : Int32) (o_t_at : Int32) (o_t_first : Int32) (o_t_faultOf : Int32) (o_t_fault : Int32) (o_t_undoMany : Int32) (o_t_seen : Int32) (o_t_written : Int32) (o_beer : Nat → Int32) (o_cold : Nat → Int32) (o_isKept : Nat → Int32) (o_pinched : Nat → Int32) (o_says : Nat → Int32) (o_stands : Nat → Int32) (o_w : Nat → Int32) (hf : f_X11_town t_all t_corners t_hearers t_newAll t_newCorners t_newHearers t_textSize t_at t_first t_faultOf t_fault t_undoMany t_seen t_written beer cold isKept pinched says stands text w = some (r, o_t_all, o_t_corners, o_t_hearers, o_t_newAll, o_t_newCorners, o_t_newHearers, o_t_textSize, o_t_at, o_t_first, o_t_faultOf, o_t_fault, o_t_undoMany, o_t_seen, o_t_written, o_beer, o_cold, o_isKept, o_pinched, o_says, o_stands, o_w)) : Ki l yX11_town wsX11_town 5 115 D a t [.ref q_t] [(q_t, .inr (11, [.ref q_w, .ref q_isKept, .int t_all, .int t_corners, .int t_hearers, .int t_newAll, .int t_newCorners, .int t_newHearers, .ref q_beer, .ref q_cold, .ref q_stands, .ref q_pinched, .ref q_says, .ref q_text, .int t_textSize, .int t_at, .int t_first, .int t_faultOf, .int t_fault, .int t_spoke, .int t_holds, .int t_undoMany, .ref q_seenDecree, .ref q_seenAt, .ref q_seenSpoke, .int t_seen, .ref q_inSets, .ref q_book, .int t_written])), (q_beer, .inl (a 0, 16, .inl beer)), (q_cold, .inl (a 0, 16, .inl cold)), (q_isKept, .inl (a 1, 2, .inl isKept)), (q_pinched, .inl (a 0, 18, .inl pinched)), (q_says, .inl (a 0, 18, .inl says)), (q_stands, .inl (a 0, 18, .inl stands)), (q_text, .inl (a 0, 230, .inl text)), (q_w, .inl (a 0, 578, .inl w))] [(q_t, .inr (11, [.ref q_w, .ref q_isKept, .int o_t_all, .int o_t_corners, .int o_t_hearers, .int o_t_newAll, .int o_t_newCorners, .int o_t_newHearers, .ref q_beer, .ref q_cold, .ref q_stands, .ref q_pinched, .ref q_says, .ref q_text, .int o_t_textSize, .int o_t_at, .int o_t_first, .int o_t_faultOf, .int o_t_fault, .int t_spoke, .int t_holds, .int o_t_undoMany, .ref q_seenDecree, .ref q_seenAt, .ref q_seenSpoke, .int o_t_seen, .ref q_inSets, .ref q_book, .int o_t_written])), (q_beer, .inl (a 0, 16, .inl o_beer)), (q_cold, .inl (a 0, 16, .inl o_cold)), (q_isKept, .inl (a 1, 2, .inl o_isKept)), (q_pinched, .inl (a 0, 18, .inl o_pinched)), (q_says, .inl (a 0, 18, .inl o_says)), (q_stands, .inl (a 0, 18, .inl o_stands)), (q_text, .inl (a 0, 230, .inl text)), (q_w, .inl (a 0, 578, .inl o_w))] r := by
  refine Ki.mk (cc := cX11_town) (nL := 1) (ty := .int) (own := RX11) (by decide) rfl rfl (Nat.le_of_ble_eq_true rfl) ?_
  intro p e s m args below meth c A Q ls hX hP hD hS hl hret
  have hx := hX.1.1
  have hb := hX.1.2.1
  have hown := hX.1.2.2.2.1
  have hts := hX.1.2.2.2.2
  have hN := hX.2.2.1
  have hA := hX.2.2.2.2
  have hl : lv_has ls 1 [(0, .ref q_t)] := hl
  have hk1 := hts (.fieldLink RX11 69 "GainsaidOnceModel" "at" "I") (List.mem_of_getElem? (i := 1) rfl)
  have hk2 := hts (.fieldLink RX11 72 "GainsaidOnceModel" "faultOf" "I") (List.mem_of_getElem? (i := 2) rfl)
  have hk3 := hts (.fieldLink RX11 35 "GainsaidOnceModel" "fault" "I") (List.mem_of_getElem? (i := 3) rfl)
  have hk4 := hts (.fieldLink RX11 94 "GainsaidOnceModel" "newAll" "I") (List.mem_of_getElem? (i := 4) rfl)
  have hk5 := hts (.fieldLink RX11 101 "GainsaidOnceModel" "newCorners" "I") (List.mem_of_getElem? (i := 5) rfl)
  have hk6 := hts (.fieldLink RX11 104 "GainsaidOnceModel" "newHearers" "I") (List.mem_of_getElem? (i := 6) rfl)
  have hk7 := hts (.fieldLink RX11 65 "GainsaidOnceModel" "textSize" "I") (List.mem_of_getElem? (i := 7) rfl)
  have hk8 := hts (.fieldLink RX11 123 "GainsaidOnceModel" "corners" "I") (List.mem_of_getElem? (i := 8) rfl)
  have hiX11 : ∀ w ∈ wsX110, w ∈ wsX11_town := (fun _ h => List.mem_cons_of_mem _ (List.mem_append_right _ h))
  have L_94 : ∀ (t_all : Int32) (t_corners : Int32) (t_hearers : Int32) (t_newAll : Int32) (t_newCorners : Int32) (t_newHearers : Int32) (t_textSize : Int32) (t_at : Int32) (t_first : Int32) (t_faultOf : Int32) (t_fault : Int32) (t_undoMany : Int32) (t_seen : Int32) (t_written : Int32) (beer : (Nat → Int32)) (cold : (Nat → Int32)) (isKept : (Nat → Int32)) (pinched : (Nat → Int32)) (says : (Nat → Int32)) (stands : (Nat → Int32)) (w : (Nat → Int32)) (H : Heap) (locs : List Loc) (ls : Array Slot), f_X11_town_94 t_all t_corners t_hearers t_newAll t_newCorners t_newHearers t_textSize t_at t_first t_faultOf t_fault t_undoMany t_seen t_written beer cold isKept pinched says stands w = some (r, o_t_all, o_t_corners, o_t_hearers, o_t_newAll, o_t_newCorners, o_t_newHearers, o_t_textSize, o_t_at, o_t_first, o_t_faultOf, o_t_fault, o_t_undoMany, o_t_seen, o_t_written, o_beer, o_cold, o_isKept, o_pinched, o_says, o_stands, o_w) → va_P D vwCl [(q_t, .inr (11, [.ref q_w, .ref q_isKept, .int t_all, .int t_corners, .int t_hearers, .int t_newAll, .int t_newCorners, .int t_newHearers, .ref q_beer, .ref q_cold, .ref q_stands, .ref q_pinched, .ref q_says, .ref q_text, .int t_textSize, .int t_at, .int t_first, .int t_faultOf, .int t_fault, .int t_spoke, .int t_holds, .int t_undoMany, .ref q_seenDecree, .ref q_seenAt, .ref q_seenSpoke, .int t_seen, .ref q_inSets, .ref q_book, .int t_written])), (q_beer, .inl (a 0, 16, .inl beer)), (q_cold, .inl (a 0, 16, .inl cold)), (q_isKept, .inl (a 1, 2, .inl isKept)), (q_pinched, .inl (a 0, 18, .inl pinched)), (q_says, .inl (a 0, 18, .inl says)), (q_stands, .inl (a 0, 18, .inl stands)), (q_text, .inl (a 0, 230, .inl text)), (q_w, .inl (a 0, 578, .inl w))] H → va_D A [(q_t, .inr (11, [.ref q_w, .ref q_isKept, .int t_all, .int t_corners, .int t_hearers, .int t_newAll, .int t_newCorners, .int t_newHearers, .ref q_beer, .ref q_cold, .ref q_stands, .ref q_pinched, .ref q_says, .ref q_text, .int t_textSize, .int t_at, .int t_first, .int t_faultOf, .int t_fault, .int t_spoke, .int t_holds, .int t_undoMany, .ref q_seenDecree, .ref q_seenAt, .ref q_seenSpoke, .int t_seen, .ref q_inSets, .ref q_book, .int t_written])), (q_beer, .inl (a 0, 16, .inl beer)), (q_cold, .inl (a 0, 16, .inl cold)), (q_isKept, .inl (a 1, 2, .inl isKept)), (q_pinched, .inl (a 0, 18, .inl pinched)), (q_says, .inl (a 0, 18, .inl says)), (q_stands, .inl (a 0, 18, .inl stands)), (q_text, .inl (a 0, 230, .inl text)), (q_w, .inl (a 0, 578, .inl w))] → va_S A s.heap H locs → lv_has ls 1 [(0, .ref q_t)] → W p l e { frames := 5, cells := 0, slots := 0, locals := 115 } s m args below meth c H locs 0 0 Q (F0 m 94 ls []) := by
    intro t_all t_corners t_hearers t_newAll t_newCorners t_newHearers t_textSize t_at t_first t_faultOf t_fault t_undoMany t_seen t_written beer cold isKept pinched says stands w H locs ls hf hP hD hS hl
    unfold f_X11_town_94 at hf
    refine lv_aload_n hx hb dX11_town_94 rfl (lv_at hl 0 rfl) ?_
    refine lv_iconst (v := (0 : Int32)) hx hb dX11_town_95 (by decide) ?_
    refine g_put hX hiX11 tyX11 tyX11_ok nmX11 hP hD hS 0 rfl rfl 14 (by decide) hk7 rfl rfl rfl rfl (Nat.le_of_ble_eq_true rfl) dX11_town_96 (fun H locs hP hD hS => ?_)
    replace hP : va_P D vwCl [(q_t, .inr (11, [.ref q_w, .ref q_isKept, .int t_all, .int t_corners, .int t_hearers, .int t_newAll, .int t_newCorners, .int t_newHearers, .ref q_beer, .ref q_cold, .ref q_stands, .ref q_pinched, .ref q_says, .ref q_text, .int (0 : Int32), .int t_at, .int t_first, .int t_faultOf, .int t_fault, .int t_spoke, .int t_holds, .int t_undoMany, .ref q_seenDecree, .ref q_seenAt, .ref q_seenSpoke, .int t_seen, .ref q_inSets, .ref q_book, .int t_written])), (q_beer, .inl (a 0, 16, .inl beer)), (q_cold, .inl (a 0, 16, .inl cold)), (q_isKept, .inl (a 1, 2, .inl isKept)), (q_pinched, .inl (a 0, 18, .inl pinched)), (q_says, .inl (a 0, 18, .inl says)), (q_stands, .inl (a 0, 18, .inl stands)), (q_text, .inl (a 0, 230, .inl text)), (q_w, .inl (a 0, 578, .inl w))] H := hP
    replace hD : va_D A [(q_t, .inr (11, [.ref q_w, .ref q_isKept, .int t_all, .int t_corners, .int t_hearers, .int t_newAll, .int t_newCorners, .int t_newHearers, .ref q_beer, .ref q_cold, .ref q_stands, .ref q_pinched, .ref q_says, .ref q_text, .int (0 : Int32), .int t_at, .int t_first, .int t_faultOf, .int t_fault, .int t_spoke, .int t_holds, .int t_undoMany, .ref q_seenDecree, .ref q_seenAt, .ref q_seenSpoke, .int t_seen, .ref q_inSets, .ref q_book, .int t_written])), (q_beer, .inl (a 0, 16, .inl beer)), (q_cold, .inl (a 0, 16, .inl cold)), (q_isKept, .inl (a 1, 2, .inl isKept)), (q_pinched, .inl (a 0, 18, .inl pinched)), (q_says, .inl (a 0, 18, .inl says)), (q_stands, .inl (a 0, 18, .inl stands)), (q_text, .inl (a 0, 230, .inl text)), (q_w, .inl (a 0, 578, .inl w))] := hD
    refine lv_aload_n hx hb dX11_town_99 rfl (lv_at hl 0 rfl) ?_
    refine g_get hX hiX11 hP 0 rfl rfl 17 (by decide) hk2 rfl rfl dX11_town_100 ?_
    refine lv_if_le (tgt := 114) hx hb dX11_town_103 (by decide) (fun c1 => ?_) (fun c1 => ?_)
    · replace hf := o_ifp hf c1
      refine lv_aload_n hx hb dX11_town_114 rfl (lv_at hl 0 rfl) ?_
      obtain ⟨o2, ho2, hf⟩ := o_bd hf
      refine call_vV (q0 := 0) (ci := 11) hX (c_X11_take l D a t q_t q_w q_isKept t_all t_corners t_hearers t_newAll t_newCorners t_newHearers q_beer q_cold q_stands q_pinched q_says q_text (0 : Int32) t_at t_first t_faultOf t_fault t_spoke t_holds t_undoMany q_seenDecree q_seenAt q_seenSpoke t_seen q_inSets q_book t_written beer cold isKept pinched says stands w o2.1 o2.2.1 o2.2.2.1 o2.2.2.2.1 o2.2.2.2.2.1 o2.2.2.2.2.2.1 o2.2.2.2.2.2.2.1 o2.2.2.2.2.2.2.2.1 o2.2.2.2.2.2.2.2.2.1 o2.2.2.2.2.2.2.2.2.2.1 o2.2.2.2.2.2.2.2.2.2.2.1 o2.2.2.2.2.2.2.2.2.2.2.2.1 o2.2.2.2.2.2.2.2.2.2.2.2.2 ho2) (cwV 0 hts gX11_town_X11_take rfl rfl rfl hdV_X11_take ⟨by decide, by decide⟩) (Cut.of hA hP hD hS [0, 1, 2, 3, 4, 5, 6, 8] (by decide) rfl rfl (W' := [(q_t, .inr (11, [.ref q_w, .ref q_isKept, .int o2.1, .int o2.2.1, .int o2.2.2.1, .int t_newAll, .int t_newCorners, .int t_newHearers, .ref q_beer, .ref q_cold, .ref q_stands, .ref q_pinched, .ref q_says, .ref q_text, .int (0 : Int32), .int t_at, .int t_first, .int t_faultOf, .int t_fault, .int t_spoke, .int t_holds, .int o2.2.2.2.1, .ref q_seenDecree, .ref q_seenAt, .ref q_seenSpoke, .int o2.2.2.2.2.1, .ref q_inSets, .ref q_book, .int o2.2.2.2.2.2.1])), (q_beer, .inl (a 0, 16, .inl o2.2.2.2.2.2.2.1)), (q_cold, .inl (a 0, 16, .inl o2.2.2.2.2.2.2.2.1)), (q_isKept, .inl (a 1, 2, .inl o2.2.2.2.2.2.2.2.2.1)), (q_pinched, .inl (a 0, 18, .inl o2.2.2.2.2.2.2.2.2.2.1)), (q_says, .inl (a 0, 18, .inl o2.2.2.2.2.2.2.2.2.2.2.1)), (q_stands, .inl (a 0, 18, .inl o2.2.2.2.2.2.2.2.2.2.2.2.1)), (q_text, .inl (a 0, 230, .inl text)), (q_w, .inl (a 0, 578, .inl o2.2.2.2.2.2.2.2.2.2.2.2.2))]) rfl) hS rfl rfl rfl hl.1 rfl (Nat.le_of_ble_eq_true rfl) dX11_town_115 (by decide) (fun H locs hP hD hS => ?_)
      replace hP : va_P D vwCl [(q_t, .inr (11, [.ref q_w, .ref q_isKept, .int o2.1, .int o2.2.1, .int o2.2.2.1, .int t_newAll, .int t_newCorners, .int t_newHearers, .ref q_beer, .ref q_cold, .ref q_stands, .ref q_pinched, .ref q_says, .ref q_text, .int (0 : Int32), .int t_at, .int t_first, .int t_faultOf, .int t_fault, .int t_spoke, .int t_holds, .int o2.2.2.2.1, .ref q_seenDecree, .ref q_seenAt, .ref q_seenSpoke, .int o2.2.2.2.2.1, .ref q_inSets, .ref q_book, .int o2.2.2.2.2.2.1])), (q_beer, .inl (a 0, 16, .inl o2.2.2.2.2.2.2.1)), (q_cold, .inl (a 0, 16, .inl o2.2.2.2.2.2.2.2.1)), (q_isKept, .inl (a 1, 2, .inl o2.2.2.2.2.2.2.2.2.1)), (q_pinched, .inl (a 0, 18, .inl o2.2.2.2.2.2.2.2.2.2.1)), (q_says, .inl (a 0, 18, .inl o2.2.2.2.2.2.2.2.2.2.2.1)), (q_stands, .inl (a 0, 18, .inl o2.2.2.2.2.2.2.2.2.2.2.2.1)), (q_text, .inl (a 0, 230, .inl text)), (q_w, .inl (a 0, 578, .inl o2.2.2.2.2.2.2.2.2.2.2.2.2))] H := hP
      replace hD : va_D A [(q_t, .inr (11, [.ref q_w, .ref q_isKept, .int o2.1, .int o2.2.1, .int o2.2.2.1, .int t_newAll, .int t_newCorners, .int t_newHearers, .ref q_beer, .ref q_cold, .ref q_stands, .ref q_pinched, .ref q_says, .ref q_text, .int (0 : Int32), .int t_at, .int t_first, .int t_faultOf, .int t_fault, .int t_spoke, .int t_holds, .int o2.2.2.2.1, .ref q_seenDecree, .ref q_seenAt, .ref q_seenSpoke, .int o2.2.2.2.2.1, .ref q_inSets, .ref q_book, .int o2.2.2.2.2.2.1])), (q_beer, .inl (a 0, 16, .inl o2.2.2.2.2.2.2.1)), (q_cold, .inl (a 0, 16, .inl o2.2.2.2.2.2.2.2.1)), (q_isKept, .inl (a 1, 2, .inl o2.2.2.2.2.2.2.2.2.1)), (q_pinched, .inl (a 0, 18, .inl o2.2.2.2.2.2.2.2.2.2.1)), (q_says, .inl (a 0, 18, .inl o2.2.2.2.2.2.2.2.2.2.2.1)), (q_stands, .inl (a 0, 18, .inl o2.2.2.2.2.2.2.2.2.2.2.2.1)), (q_text, .inl (a 0, 230, .inl text)), (q_w, .inl (a 0, 578, .inl o2.2.2.2.2.2.2.2.2.2.2.2.2))] := hD
      refine lv_aload_n hx hb dX11_town_118 rfl (lv_at hl 0 rfl) ?_
      refine g_get hX hiX11 hP 0 rfl rfl 3 (by decide) hk8 rfl rfl dX11_town_119 ?_
      simp only [Option.some.injEq, Prod.mk.injEq] at hf
      obtain ⟨rfl, rfl, rfl, rfl, rfl, rfl, rfl, rfl, rfl, rfl, rfl, rfl, rfl, rfl, rfl, rfl, rfl, rfl, rfl, rfl, rfl, rfl⟩ := hf
      exact hret _ _ _ _ (vp_nar_int _) hP hD hS dX11_town_122
    replace hf := o_ifn hf c1
    refine lv_bipush (v := (-10 : Int32)) hx hb dX11_town_106 (by decide) ?_
    refine lv_aload_n hx hb dX11_town_108 rfl (lv_at hl 0 rfl) ?_
    refine g_get hX hiX11 hP 0 rfl rfl 17 (by decide) hk2 rfl rfl dX11_town_109 ?_
    refine lv_isub hx hb dX11_town_112 ?_
    simp only [Option.some.injEq, Prod.mk.injEq] at hf
    obtain ⟨rfl, rfl, rfl, rfl, rfl, rfl, rfl, rfl, rfl, rfl, rfl, rfl, rfl, rfl, rfl, rfl, rfl, rfl, rfl, rfl, rfl, rfl⟩ := hf
    exact hret _ _ _ _ (vp_nar_int _) hP hD hS dX11_town_113
  have L_30 : ∀ (n_30 : Nat) (t_all : Int32) (t_corners : Int32) (t_hearers : Int32) (t_newAll : Int32) (t_newCorners : Int32) (t_newHearers : Int32) (t_textSize : Int32) (t_at : Int32) (t_first : Int32) (t_faultOf : Int32) (t_fault : Int32) (t_undoMany : Int32) (t_seen : Int32) (t_written : Int32) (beer : (Nat → Int32)) (cold : (Nat → Int32)) (isKept : (Nat → Int32)) (pinched : (Nat → Int32)) (says : (Nat → Int32)) (stands : (Nat → Int32)) (w : (Nat → Int32)) (H : Heap) (locs : List Loc) (ls : Array Slot), f_X11_town_30 text n_30 t_all t_corners t_hearers t_newAll t_newCorners t_newHearers t_textSize t_at t_first t_faultOf t_fault t_undoMany t_seen t_written beer cold isKept pinched says stands w = some (r, o_t_all, o_t_corners, o_t_hearers, o_t_newAll, o_t_newCorners, o_t_newHearers, o_t_textSize, o_t_at, o_t_first, o_t_faultOf, o_t_fault, o_t_undoMany, o_t_seen, o_t_written, o_beer, o_cold, o_isKept, o_pinched, o_says, o_stands, o_w) → va_P D vwCl [(q_t, .inr (11, [.ref q_w, .ref q_isKept, .int t_all, .int t_corners, .int t_hearers, .int t_newAll, .int t_newCorners, .int t_newHearers, .ref q_beer, .ref q_cold, .ref q_stands, .ref q_pinched, .ref q_says, .ref q_text, .int t_textSize, .int t_at, .int t_first, .int t_faultOf, .int t_fault, .int t_spoke, .int t_holds, .int t_undoMany, .ref q_seenDecree, .ref q_seenAt, .ref q_seenSpoke, .int t_seen, .ref q_inSets, .ref q_book, .int t_written])), (q_beer, .inl (a 0, 16, .inl beer)), (q_cold, .inl (a 0, 16, .inl cold)), (q_isKept, .inl (a 1, 2, .inl isKept)), (q_pinched, .inl (a 0, 18, .inl pinched)), (q_says, .inl (a 0, 18, .inl says)), (q_stands, .inl (a 0, 18, .inl stands)), (q_text, .inl (a 0, 230, .inl text)), (q_w, .inl (a 0, 578, .inl w))] H → va_D A [(q_t, .inr (11, [.ref q_w, .ref q_isKept, .int t_all, .int t_corners, .int t_hearers, .int t_newAll, .int t_newCorners, .int t_newHearers, .ref q_beer, .ref q_cold, .ref q_stands, .ref q_pinched, .ref q_says, .ref q_text, .int t_textSize, .int t_at, .int t_first, .int t_faultOf, .int t_fault, .int t_spoke, .int t_holds, .int t_undoMany, .ref q_seenDecree, .ref q_seenAt, .ref q_seenSpoke, .int t_seen, .ref q_inSets, .ref q_book, .int t_written])), (q_beer, .inl (a 0, 16, .inl beer)), (q_cold, .inl (a 0, 16, .inl cold)), (q_isKept, .inl (a 1, 2, .inl isKept)), (q_pinched, .inl (a 0, 18, .inl pinched)), (q_says, .inl (a 0, 18, .inl says)), (q_stands, .inl (a 0, 18, .inl stands)), (q_text, .inl (a 0, 230, .inl text)), (q_w, .inl (a 0, 578, .inl w))] → va_S A s.heap H locs → lv_has ls 1 [(0, .ref q_t)] → W p l e { frames := 5, cells := 0, slots := 0, locals := 115 } s m args below meth c H locs 0 0 Q (F0 m 30 ls []) := by
    intro n_30
    induction n_30 with
    | zero => intro t_all t_corners t_hearers t_newAll t_newCorners t_newHearers t_textSize t_at t_first t_faultOf t_fault t_undoMany t_seen t_written beer cold isKept pinched says stands w H locs ls hf hP hD hS hl; rw [f_X11_town_30] at hf; cases hf
    | succ n_30 ih_30 =>
      have L_70 : ∀ (t_all : Int32) (t_corners : Int32) (t_hearers : Int32) (t_newAll : Int32) (t_newCorners : Int32) (t_newHearers : Int32) (t_textSize : Int32) (t_at : Int32) (t_first : Int32) (t_faultOf : Int32) (t_fault : Int32) (t_undoMany : Int32) (t_seen : Int32) (t_written : Int32) (beer : (Nat → Int32)) (cold : (Nat → Int32)) (isKept : (Nat → Int32)) (pinched : (Nat → Int32)) (says : (Nat → Int32)) (stands : (Nat → Int32)) (w : (Nat → Int32)) (s0 : Int32) (H : Heap) (locs : List Loc) (ls : Array Slot), f_X11_town_70 text (f_X11_town_30 text n_30) t_all t_corners t_hearers t_newAll t_newCorners t_newHearers t_textSize t_at t_first t_faultOf t_fault t_undoMany t_seen t_written beer cold isKept pinched says stands w s0 = some (r, o_t_all, o_t_corners, o_t_hearers, o_t_newAll, o_t_newCorners, o_t_newHearers, o_t_textSize, o_t_at, o_t_first, o_t_faultOf, o_t_fault, o_t_undoMany, o_t_seen, o_t_written, o_beer, o_cold, o_isKept, o_pinched, o_says, o_stands, o_w) → va_P D vwCl [(q_t, .inr (11, [.ref q_w, .ref q_isKept, .int t_all, .int t_corners, .int t_hearers, .int t_newAll, .int t_newCorners, .int t_newHearers, .ref q_beer, .ref q_cold, .ref q_stands, .ref q_pinched, .ref q_says, .ref q_text, .int t_textSize, .int t_at, .int t_first, .int t_faultOf, .int t_fault, .int t_spoke, .int t_holds, .int t_undoMany, .ref q_seenDecree, .ref q_seenAt, .ref q_seenSpoke, .int t_seen, .ref q_inSets, .ref q_book, .int t_written])), (q_beer, .inl (a 0, 16, .inl beer)), (q_cold, .inl (a 0, 16, .inl cold)), (q_isKept, .inl (a 1, 2, .inl isKept)), (q_pinched, .inl (a 0, 18, .inl pinched)), (q_says, .inl (a 0, 18, .inl says)), (q_stands, .inl (a 0, 18, .inl stands)), (q_text, .inl (a 0, 230, .inl text)), (q_w, .inl (a 0, 578, .inl w))] H → va_D A [(q_t, .inr (11, [.ref q_w, .ref q_isKept, .int t_all, .int t_corners, .int t_hearers, .int t_newAll, .int t_newCorners, .int t_newHearers, .ref q_beer, .ref q_cold, .ref q_stands, .ref q_pinched, .ref q_says, .ref q_text, .int t_textSize, .int t_at, .int t_first, .int t_faultOf, .int t_fault, .int t_spoke, .int t_holds, .int t_undoMany, .ref q_seenDecree, .ref q_seenAt, .ref q_seenSpoke, .int t_seen, .ref q_inSets, .ref q_book, .int t_written])), (q_beer, .inl (a 0, 16, .inl beer)), (q_cold, .inl (a 0, 16, .inl cold)), (q_isKept, .inl (a 1, 2, .inl isKept)), (q_pinched, .inl (a 0, 18, .inl pinched)), (q_says, .inl (a 0, 18, .inl says)), (q_stands, .inl (a 0, 18, .inl stands)), (q_text, .inl (a 0, 230, .inl text)), (q_w, .inl (a 0, 578, .inl w))] → va_S A s.heap H locs → lv_has ls 1 [(0, .ref q_t)] → W p l e { frames := 5, cells := 0, slots := 0, locals := 115 } s m args below meth c H locs 0 0 Q (F0 m 70 ls [.int s0, .ref q_t]) := by
        intro t_all t_corners t_hearers t_newAll t_newCorners t_newHearers t_textSize t_at t_first t_faultOf t_fault t_undoMany t_seen t_written beer cold isKept pinched says stands w s0 H locs ls hf hP hD hS hl
        unfold f_X11_town_70 at hf
        refine lv_iconst (v := (1 : Int32)) hx hb dX11_town_70 (by decide) ?_
        refine lv_aload_n hx hb dX11_town_71 rfl (lv_at hl 0 rfl) ?_
        refine g_get hX hiX11 hP 0 rfl rfl 15 (by decide) hk1 rfl rfl dX11_town_72 ?_
        obtain ⟨o3, ho3, hf⟩ := o_bd hf
        refine call_iV (q0 := 0) (ci := 11) hX (c_X11_want l D a t q_t q_w q_isKept t_all t_corners t_hearers t_newAll t_newCorners t_newHearers q_beer q_cold q_stands q_pinched q_says q_text t_textSize t_at t_first t_faultOf t_fault t_spoke t_holds t_undoMany q_seenDecree q_seenAt q_seenSpoke t_seen q_inSets q_book t_written s0 (1 : Int32) t_at o3.1 o3.2.1 o3.2.2 ho3) (cwV 3 hts gX11_town_X11_want rfl rfl rfl hdV_X11_want ⟨by decide, by decide⟩) (Cut.of hA hP hD hS [0] (by decide) rfl rfl (W' := [(q_t, .inr (11, [.ref q_w, .ref q_isKept, .int t_all, .int t_corners, .int t_hearers, .int t_newAll, .int t_newCorners, .int t_newHearers, .ref q_beer, .ref q_cold, .ref q_stands, .ref q_pinched, .ref q_says, .ref q_text, .int t_textSize, .int t_at, .int t_first, .int o3.2.1, .int o3.2.2, .int t_spoke, .int t_holds, .int t_undoMany, .ref q_seenDecree, .ref q_seenAt, .ref q_seenSpoke, .int t_seen, .ref q_inSets, .ref q_book, .int t_written])), (q_beer, .inl (a 0, 16, .inl beer)), (q_cold, .inl (a 0, 16, .inl cold)), (q_isKept, .inl (a 1, 2, .inl isKept)), (q_pinched, .inl (a 0, 18, .inl pinched)), (q_says, .inl (a 0, 18, .inl says)), (q_stands, .inl (a 0, 18, .inl stands)), (q_text, .inl (a 0, 230, .inl text)), (q_w, .inl (a 0, 578, .inl w))]) rfl) hS rfl rfl rfl hl.1 rfl (Nat.le_of_ble_eq_true rfl) dX11_town_75 (by decide) (fun H locs hP hD hS => ?_)
        replace hP : va_P D vwCl [(q_t, .inr (11, [.ref q_w, .ref q_isKept, .int t_all, .int t_corners, .int t_hearers, .int t_newAll, .int t_newCorners, .int t_newHearers, .ref q_beer, .ref q_cold, .ref q_stands, .ref q_pinched, .ref q_says, .ref q_text, .int t_textSize, .int t_at, .int t_first, .int o3.2.1, .int o3.2.2, .int t_spoke, .int t_holds, .int t_undoMany, .ref q_seenDecree, .ref q_seenAt, .ref q_seenSpoke, .int t_seen, .ref q_inSets, .ref q_book, .int t_written])), (q_beer, .inl (a 0, 16, .inl beer)), (q_cold, .inl (a 0, 16, .inl cold)), (q_isKept, .inl (a 1, 2, .inl isKept)), (q_pinched, .inl (a 0, 18, .inl pinched)), (q_says, .inl (a 0, 18, .inl says)), (q_stands, .inl (a 0, 18, .inl stands)), (q_text, .inl (a 0, 230, .inl text)), (q_w, .inl (a 0, 578, .inl w))] H := hP
        replace hD : va_D A [(q_t, .inr (11, [.ref q_w, .ref q_isKept, .int t_all, .int t_corners, .int t_hearers, .int t_newAll, .int t_newCorners, .int t_newHearers, .ref q_beer, .ref q_cold, .ref q_stands, .ref q_pinched, .ref q_says, .ref q_text, .int t_textSize, .int t_at, .int t_first, .int o3.2.1, .int o3.2.2, .int t_spoke, .int t_holds, .int t_undoMany, .ref q_seenDecree, .ref q_seenAt, .ref q_seenSpoke, .int t_seen, .ref q_inSets, .ref q_book, .int t_written])), (q_beer, .inl (a 0, 16, .inl beer)), (q_cold, .inl (a 0, 16, .inl cold)), (q_isKept, .inl (a 1, 2, .inl isKept)), (q_pinched, .inl (a 0, 18, .inl pinched)), (q_says, .inl (a 0, 18, .inl says)), (q_stands, .inl (a 0, 18, .inl stands)), (q_text, .inl (a 0, 230, .inl text)), (q_w, .inl (a 0, 578, .inl w))] := hD
        refine lv_if_eq (tgt := 30) hx hb dX11_town_78 (by decide) (fun c4 => ?_) (fun c4 => ?_)
        · replace hf := o_ifp hf c4
          exact ih_30 t_all t_corners t_hearers t_newAll t_newCorners t_newHearers t_textSize t_at t_first o3.2.1 o3.2.2 t_undoMany t_seen t_written beer cold isKept pinched says stands w _ _ _ hf hP hD hS (lv_sub hl [0] rfl)
        replace hf := o_ifn hf c4
        refine lv_aload_n hx hb dX11_town_81 rfl (lv_at hl 0 rfl) ?_
        refine lv_dup hx hb dX11_town_82 rfl ?_
        refine g_get hX hiX11 hP 0 rfl rfl 15 (by decide) hk1 rfl rfl dX11_town_83 ?_
        refine lv_iconst (v := (1 : Int32)) hx hb dX11_town_86 (by decide) ?_
        refine lv_iadd hx hb dX11_town_87 ?_
        refine lv_topi (fun v5 ev5 => ?_)
        replace hf := o_nmh hf v5 ev5
        refine g_put hX hiX11 tyX11 tyX11_ok nmX11 hP hD hS 0 rfl rfl 15 (by decide) hk1 rfl rfl rfl rfl (Nat.le_of_ble_eq_true rfl) dX11_town_88 (fun H locs hP hD hS => ?_)
        replace hP : va_P D vwCl [(q_t, .inr (11, [.ref q_w, .ref q_isKept, .int t_all, .int t_corners, .int t_hearers, .int t_newAll, .int t_newCorners, .int t_newHearers, .ref q_beer, .ref q_cold, .ref q_stands, .ref q_pinched, .ref q_says, .ref q_text, .int t_textSize, .int v5, .int t_first, .int o3.2.1, .int o3.2.2, .int t_spoke, .int t_holds, .int t_undoMany, .ref q_seenDecree, .ref q_seenAt, .ref q_seenSpoke, .int t_seen, .ref q_inSets, .ref q_book, .int t_written])), (q_beer, .inl (a 0, 16, .inl beer)), (q_cold, .inl (a 0, 16, .inl cold)), (q_isKept, .inl (a 1, 2, .inl isKept)), (q_pinched, .inl (a 0, 18, .inl pinched)), (q_says, .inl (a 0, 18, .inl says)), (q_stands, .inl (a 0, 18, .inl stands)), (q_text, .inl (a 0, 230, .inl text)), (q_w, .inl (a 0, 578, .inl w))] H := hP
        replace hD : va_D A [(q_t, .inr (11, [.ref q_w, .ref q_isKept, .int t_all, .int t_corners, .int t_hearers, .int t_newAll, .int t_newCorners, .int t_newHearers, .ref q_beer, .ref q_cold, .ref q_stands, .ref q_pinched, .ref q_says, .ref q_text, .int t_textSize, .int v5, .int t_first, .int o3.2.1, .int o3.2.2, .int t_spoke, .int t_holds, .int t_undoMany, .ref q_seenDecree, .ref q_seenAt, .ref q_seenSpoke, .int t_seen, .ref q_inSets, .ref q_book, .int t_written])), (q_beer, .inl (a 0, 16, .inl beer)), (q_cold, .inl (a 0, 16, .inl cold)), (q_isKept, .inl (a 1, 2, .inl isKept)), (q_pinched, .inl (a 0, 18, .inl pinched)), (q_says, .inl (a 0, 18, .inl says)), (q_stands, .inl (a 0, 18, .inl stands)), (q_text, .inl (a 0, 230, .inl text)), (q_w, .inl (a 0, 578, .inl w))] := hD
        refine lv_goto (tgt := 30) hx hb dX11_town_91 (by decide) ?_
        exact ih_30 t_all t_corners t_hearers t_newAll t_newCorners t_newHearers t_textSize v5 t_first o3.2.1 o3.2.2 t_undoMany t_seen t_written beer cold isKept pinched says stands w _ _ _ hf hP hD hS (lv_sub hl [0] rfl)
      intro t_all t_corners t_hearers t_newAll t_newCorners t_newHearers t_textSize t_at t_first t_faultOf t_fault t_undoMany t_seen t_written beer cold isKept pinched says stands w H locs ls hf hP hD hS hl
      rw [f_X11_town_30] at hf
      refine lv_aload_n hx hb dX11_town_30 rfl (lv_at hl 0 rfl) ?_
      refine g_get hX hiX11 hP 0 rfl rfl 17 (by decide) hk2 rfl rfl dX11_town_31 ?_
      refine lv_if_ne (tgt := 94) hx hb dX11_town_34 (by decide) (fun c6 => ?_) (fun c6 => ?_)
      · replace hf := o_ifn hf c6
        exact L_94 t_all t_corners t_hearers t_newAll t_newCorners t_newHearers t_textSize t_at t_first t_faultOf t_fault t_undoMany t_seen t_written beer cold isKept pinched says stands w _ _ _ hf hP hD hS (lv_sub hl [0] rfl)
      replace hf := o_ifp hf c6
      refine lv_aload_n hx hb dX11_town_37 rfl (lv_at hl 0 rfl) ?_
      obtain ⟨o7, ho7, hf⟩ := o_bd hf
      refine call_iV (q0 := 0) (ci := 11) hX (c_X11_here l D a t q_t q_w q_isKept t_all t_corners t_hearers t_newAll t_newCorners t_newHearers q_beer q_cold q_stands q_pinched q_says q_text t_textSize t_at t_first t_faultOf t_fault t_spoke t_holds t_undoMany q_seenDecree q_seenAt q_seenSpoke t_seen q_inSets q_book t_written text o7.1 o7.2 ho7) (cwV 0 hts gX11_town_X11_here rfl rfl rfl hdV_X11_here ⟨by decide, by decide⟩) (Cut.of hA hP hD hS [0, 7] (by decide) rfl rfl (W' := [(q_t, .inr (11, [.ref q_w, .ref q_isKept, .int t_all, .int t_corners, .int t_hearers, .int t_newAll, .int t_newCorners, .int t_newHearers, .ref q_beer, .ref q_cold, .ref q_stands, .ref q_pinched, .ref q_says, .ref q_text, .int t_textSize, .int o7.2, .int t_first, .int t_faultOf, .int t_fault, .int t_spoke, .int t_holds, .int t_undoMany, .ref q_seenDecree, .ref q_seenAt, .ref q_seenSpoke, .int t_seen, .ref q_inSets, .ref q_book, .int t_written])), (q_beer, .inl (a 0, 16, .inl beer)), (q_cold, .inl (a 0, 16, .inl cold)), (q_isKept, .inl (a 1, 2, .inl isKept)), (q_pinched, .inl (a 0, 18, .inl pinched)), (q_says, .inl (a 0, 18, .inl says)), (q_stands, .inl (a 0, 18, .inl stands)), (q_text, .inl (a 0, 230, .inl text)), (q_w, .inl (a 0, 578, .inl w))]) rfl) hS rfl rfl rfl hl.1 rfl (Nat.le_of_ble_eq_true rfl) dX11_town_38 (by decide) (fun H locs hP hD hS => ?_)
      replace hP : va_P D vwCl [(q_t, .inr (11, [.ref q_w, .ref q_isKept, .int t_all, .int t_corners, .int t_hearers, .int t_newAll, .int t_newCorners, .int t_newHearers, .ref q_beer, .ref q_cold, .ref q_stands, .ref q_pinched, .ref q_says, .ref q_text, .int t_textSize, .int o7.2, .int t_first, .int t_faultOf, .int t_fault, .int t_spoke, .int t_holds, .int t_undoMany, .ref q_seenDecree, .ref q_seenAt, .ref q_seenSpoke, .int t_seen, .ref q_inSets, .ref q_book, .int t_written])), (q_beer, .inl (a 0, 16, .inl beer)), (q_cold, .inl (a 0, 16, .inl cold)), (q_isKept, .inl (a 1, 2, .inl isKept)), (q_pinched, .inl (a 0, 18, .inl pinched)), (q_says, .inl (a 0, 18, .inl says)), (q_stands, .inl (a 0, 18, .inl stands)), (q_text, .inl (a 0, 230, .inl text)), (q_w, .inl (a 0, 578, .inl w))] H := hP
      replace hD : va_D A [(q_t, .inr (11, [.ref q_w, .ref q_isKept, .int t_all, .int t_corners, .int t_hearers, .int t_newAll, .int t_newCorners, .int t_newHearers, .ref q_beer, .ref q_cold, .ref q_stands, .ref q_pinched, .ref q_says, .ref q_text, .int t_textSize, .int o7.2, .int t_first, .int t_faultOf, .int t_fault, .int t_spoke, .int t_holds, .int t_undoMany, .ref q_seenDecree, .ref q_seenAt, .ref q_seenSpoke, .int t_seen, .ref q_inSets, .ref q_book, .int t_written])), (q_beer, .inl (a 0, 16, .inl beer)), (q_cold, .inl (a 0, 16, .inl cold)), (q_isKept, .inl (a 1, 2, .inl isKept)), (q_pinched, .inl (a 0, 18, .inl pinched)), (q_says, .inl (a 0, 18, .inl says)), (q_stands, .inl (a 0, 18, .inl stands)), (q_text, .inl (a 0, 230, .inl text)), (q_w, .inl (a 0, 578, .inl w))] := hD
      refine lv_if_lt (tgt := 94) hx hb dX11_town_41 (by decide) (fun c8 => ?_) (fun c8 => ?_)
      · replace hf := o_ifp hf c8
        exact L_94 t_all t_corners t_hearers t_newAll t_newCorners t_newHearers t_textSize o7.2 t_first t_faultOf t_fault t_undoMany t_seen t_written beer cold isKept pinched says stands w _ _ _ hf hP hD hS (lv_sub hl [0] rfl)
      replace hf := o_ifn hf c8
      refine lv_aload_n hx hb dX11_town_44 rfl (lv_at hl 0 rfl) ?_
      obtain ⟨o9, ho9, hf⟩ := o_bd hf
      refine call_vV (q0 := 0) (ci := 11) hX (c_X11_takeClause l D a t q_t q_w q_isKept t_all t_corners t_hearers t_newAll t_newCorners t_newHearers q_beer q_cold q_stands q_pinched q_says q_text t_textSize o7.2 t_first t_faultOf t_fault t_spoke t_holds t_undoMany q_seenDecree q_seenAt q_seenSpoke t_seen q_inSets q_book t_written beer cold pinched says stands text o9.1 o9.2.1 o9.2.2.1 o9.2.2.2.1 o9.2.2.2.2.1 o9.2.2.2.2.2.1 o9.2.2.2.2.2.2.1 o9.2.2.2.2.2.2.2.1 o9.2.2.2.2.2.2.2.2.1 o9.2.2.2.2.2.2.2.2.2.1 o9.2.2.2.2.2.2.2.2.2.2.1 o9.2.2.2.2.2.2.2.2.2.2.2 ho9) (cwV 0 hts gX11_town_X11_takeClause rfl rfl rfl hdV_X11_takeClause ⟨by decide, by decide⟩) (Cut.of hA hP hD hS [0, 1, 2, 4, 5, 6, 7] (by decide) rfl rfl (W' := [(q_t, .inr (11, [.ref q_w, .ref q_isKept, .int t_all, .int t_corners, .int t_hearers, .int o9.1, .int o9.2.1, .int o9.2.2.1, .ref q_beer, .ref q_cold, .ref q_stands, .ref q_pinched, .ref q_says, .ref q_text, .int t_textSize, .int o9.2.2.2.1, .int o9.2.2.2.2.1, .int o9.2.2.2.2.2.1, .int o9.2.2.2.2.2.2.1, .int t_spoke, .int t_holds, .int t_undoMany, .ref q_seenDecree, .ref q_seenAt, .ref q_seenSpoke, .int t_seen, .ref q_inSets, .ref q_book, .int t_written])), (q_beer, .inl (a 0, 16, .inl o9.2.2.2.2.2.2.2.1)), (q_cold, .inl (a 0, 16, .inl o9.2.2.2.2.2.2.2.2.1)), (q_isKept, .inl (a 1, 2, .inl isKept)), (q_pinched, .inl (a 0, 18, .inl o9.2.2.2.2.2.2.2.2.2.1)), (q_says, .inl (a 0, 18, .inl o9.2.2.2.2.2.2.2.2.2.2.1)), (q_stands, .inl (a 0, 18, .inl o9.2.2.2.2.2.2.2.2.2.2.2)), (q_text, .inl (a 0, 230, .inl text)), (q_w, .inl (a 0, 578, .inl w))]) rfl) hS rfl rfl rfl hl.1 rfl (Nat.le_of_ble_eq_true rfl) dX11_town_45 (by decide) (fun H locs hP hD hS => ?_)
      replace hP : va_P D vwCl [(q_t, .inr (11, [.ref q_w, .ref q_isKept, .int t_all, .int t_corners, .int t_hearers, .int o9.1, .int o9.2.1, .int o9.2.2.1, .ref q_beer, .ref q_cold, .ref q_stands, .ref q_pinched, .ref q_says, .ref q_text, .int t_textSize, .int o9.2.2.2.1, .int o9.2.2.2.2.1, .int o9.2.2.2.2.2.1, .int o9.2.2.2.2.2.2.1, .int t_spoke, .int t_holds, .int t_undoMany, .ref q_seenDecree, .ref q_seenAt, .ref q_seenSpoke, .int t_seen, .ref q_inSets, .ref q_book, .int t_written])), (q_beer, .inl (a 0, 16, .inl o9.2.2.2.2.2.2.2.1)), (q_cold, .inl (a 0, 16, .inl o9.2.2.2.2.2.2.2.2.1)), (q_isKept, .inl (a 1, 2, .inl isKept)), (q_pinched, .inl (a 0, 18, .inl o9.2.2.2.2.2.2.2.2.2.1)), (q_says, .inl (a 0, 18, .inl o9.2.2.2.2.2.2.2.2.2.2.1)), (q_stands, .inl (a 0, 18, .inl o9.2.2.2.2.2.2.2.2.2.2.2)), (q_text, .inl (a 0, 230, .inl text)), (q_w, .inl (a 0, 578, .inl w))] H := hP
      replace hD : va_D A [(q_t, .inr (11, [.ref q_w, .ref q_isKept, .int t_all, .int t_corners, .int t_hearers, .int o9.1, .int o9.2.1, .int o9.2.2.1, .ref q_beer, .ref q_cold, .ref q_stands, .ref q_pinched, .ref q_says, .ref q_text, .int t_textSize, .int o9.2.2.2.1, .int o9.2.2.2.2.1, .int o9.2.2.2.2.2.1, .int o9.2.2.2.2.2.2.1, .int t_spoke, .int t_holds, .int t_undoMany, .ref q_seenDecree, .ref q_seenAt, .ref q_seenSpoke, .int t_seen, .ref q_inSets, .ref q_book, .int t_written])), (q_beer, .inl (a 0, 16, .inl o9.2.2.2.2.2.2.2.1)), (q_cold, .inl (a 0, 16, .inl o9.2.2.2.2.2.2.2.2.1)), (q_isKept, .inl (a 1, 2, .inl isKept)), (q_pinched, .inl (a 0, 18, .inl o9.2.2.2.2.2.2.2.2.2.1)), (q_says, .inl (a 0, 18, .inl o9.2.2.2.2.2.2.2.2.2.2.1)), (q_stands, .inl (a 0, 18, .inl o9.2.2.2.2.2.2.2.2.2.2.2)), (q_text, .inl (a 0, 230, .inl text)), (q_w, .inl (a 0, 578, .inl w))] := hD
      refine lv_aload_n hx hb dX11_town_48 rfl (lv_at hl 0 rfl) ?_
      refine g_get hX hiX11 hP 0 rfl rfl 17 (by decide) hk2 rfl rfl dX11_town_49 ?_
      refine lv_if_ne (tgt := 30) hx hb dX11_town_52 (by decide) (fun c10 => ?_) (fun c10 => ?_)
      · replace hf := o_ifn hf c10
        exact ih_30 t_all t_corners t_hearers o9.1 o9.2.1 o9.2.2.1 t_textSize o9.2.2.2.1 o9.2.2.2.2.1 o9.2.2.2.2.2.1 o9.2.2.2.2.2.2.1 t_undoMany t_seen t_written o9.2.2.2.2.2.2.2.1 o9.2.2.2.2.2.2.2.2.1 isKept o9.2.2.2.2.2.2.2.2.2.1 o9.2.2.2.2.2.2.2.2.2.2.1 o9.2.2.2.2.2.2.2.2.2.2.2 w _ _ _ hf hP hD hS (lv_sub hl [0] rfl)
      replace hf := o_ifp hf c10
      refine lv_aload_n hx hb dX11_town_55 rfl (lv_at hl 0 rfl) ?_
      refine lv_aload_n hx hb dX11_town_56 rfl (lv_at hl 0 rfl) ?_
      obtain ⟨o11, ho11, hf⟩ := o_bd hf
      refine call_iV (q0 := 0) (ci := 11) hX (c_X11_here l D a t q_t q_w q_isKept t_all t_corners t_hearers o9.1 o9.2.1 o9.2.2.1 q_beer q_cold q_stands q_pinched q_says q_text t_textSize o9.2.2.2.1 o9.2.2.2.2.1 o9.2.2.2.2.2.1 o9.2.2.2.2.2.2.1 t_spoke t_holds t_undoMany q_seenDecree q_seenAt q_seenSpoke t_seen q_inSets q_book t_written text o11.1 o11.2 ho11) (cwV 0 hts gX11_town_X11_here rfl rfl rfl hdV_X11_here ⟨by decide, by decide⟩) (Cut.of hA hP hD hS [0, 7] (by decide) rfl rfl (W' := [(q_t, .inr (11, [.ref q_w, .ref q_isKept, .int t_all, .int t_corners, .int t_hearers, .int o9.1, .int o9.2.1, .int o9.2.2.1, .ref q_beer, .ref q_cold, .ref q_stands, .ref q_pinched, .ref q_says, .ref q_text, .int t_textSize, .int o11.2, .int o9.2.2.2.2.1, .int o9.2.2.2.2.2.1, .int o9.2.2.2.2.2.2.1, .int t_spoke, .int t_holds, .int t_undoMany, .ref q_seenDecree, .ref q_seenAt, .ref q_seenSpoke, .int t_seen, .ref q_inSets, .ref q_book, .int t_written])), (q_beer, .inl (a 0, 16, .inl o9.2.2.2.2.2.2.2.1)), (q_cold, .inl (a 0, 16, .inl o9.2.2.2.2.2.2.2.2.1)), (q_isKept, .inl (a 1, 2, .inl isKept)), (q_pinched, .inl (a 0, 18, .inl o9.2.2.2.2.2.2.2.2.2.1)), (q_says, .inl (a 0, 18, .inl o9.2.2.2.2.2.2.2.2.2.2.1)), (q_stands, .inl (a 0, 18, .inl o9.2.2.2.2.2.2.2.2.2.2.2)), (q_text, .inl (a 0, 230, .inl text)), (q_w, .inl (a 0, 578, .inl w))]) rfl) hS rfl rfl rfl hl.1 rfl (Nat.le_of_ble_eq_true rfl) dX11_town_57 (by decide) (fun H locs hP hD hS => ?_)
      replace hP : va_P D vwCl [(q_t, .inr (11, [.ref q_w, .ref q_isKept, .int t_all, .int t_corners, .int t_hearers, .int o9.1, .int o9.2.1, .int o9.2.2.1, .ref q_beer, .ref q_cold, .ref q_stands, .ref q_pinched, .ref q_says, .ref q_text, .int t_textSize, .int o11.2, .int o9.2.2.2.2.1, .int o9.2.2.2.2.2.1, .int o9.2.2.2.2.2.2.1, .int t_spoke, .int t_holds, .int t_undoMany, .ref q_seenDecree, .ref q_seenAt, .ref q_seenSpoke, .int t_seen, .ref q_inSets, .ref q_book, .int t_written])), (q_beer, .inl (a 0, 16, .inl o9.2.2.2.2.2.2.2.1)), (q_cold, .inl (a 0, 16, .inl o9.2.2.2.2.2.2.2.2.1)), (q_isKept, .inl (a 1, 2, .inl isKept)), (q_pinched, .inl (a 0, 18, .inl o9.2.2.2.2.2.2.2.2.2.1)), (q_says, .inl (a 0, 18, .inl o9.2.2.2.2.2.2.2.2.2.2.1)), (q_stands, .inl (a 0, 18, .inl o9.2.2.2.2.2.2.2.2.2.2.2)), (q_text, .inl (a 0, 230, .inl text)), (q_w, .inl (a 0, 578, .inl w))] H := hP
      replace hD : va_D A [(q_t, .inr (11, [.ref q_w, .ref q_isKept, .int t_all, .int t_corners, .int t_hearers, .int o9.1, .int o9.2.1, .int o9.2.2.1, .ref q_beer, .ref q_cold, .ref q_stands, .ref q_pinched, .ref q_says, .ref q_text, .int t_textSize, .int o11.2, .int o9.2.2.2.2.1, .int o9.2.2.2.2.2.1, .int o9.2.2.2.2.2.2.1, .int t_spoke, .int t_holds, .int t_undoMany, .ref q_seenDecree, .ref q_seenAt, .ref q_seenSpoke, .int t_seen, .ref q_inSets, .ref q_book, .int t_written])), (q_beer, .inl (a 0, 16, .inl o9.2.2.2.2.2.2.2.1)), (q_cold, .inl (a 0, 16, .inl o9.2.2.2.2.2.2.2.2.1)), (q_isKept, .inl (a 1, 2, .inl isKept)), (q_pinched, .inl (a 0, 18, .inl o9.2.2.2.2.2.2.2.2.2.1)), (q_says, .inl (a 0, 18, .inl o9.2.2.2.2.2.2.2.2.2.2.1)), (q_stands, .inl (a 0, 18, .inl o9.2.2.2.2.2.2.2.2.2.2.2)), (q_text, .inl (a 0, 230, .inl text)), (q_w, .inl (a 0, 578, .inl w))] := hD
      refine lv_bipush (v := (59 : Int32)) hx hb dX11_town_60 (by decide) ?_
      refine lv_icmp_ne (tgt := 69) hx hb dX11_town_62 (by decide) (fun c12 => ?_) (fun c12 => ?_)
      · replace hf := o_ifn hf c12
        refine lv_iconst (v := (0 : Int32)) hx hb dX11_town_69 (by decide) ?_
        exact L_70 t_all t_corners t_hearers o9.1 o9.2.1 o9.2.2.1 t_textSize o11.2 o9.2.2.2.2.1 o9.2.2.2.2.2.1 o9.2.2.2.2.2.2.1 t_undoMany t_seen t_written o9.2.2.2.2.2.2.2.1 o9.2.2.2.2.2.2.2.2.1 isKept o9.2.2.2.2.2.2.2.2.2.1 o9.2.2.2.2.2.2.2.2.2.2.1 o9.2.2.2.2.2.2.2.2.2.2.2 w (0 : Int32) _ _ _ hf hP hD hS (lv_sub hl [0] rfl)
      replace hf := o_ifp hf c12
      refine lv_iconst (v := (1 : Int32)) hx hb dX11_town_65 (by decide) ?_
      refine lv_goto (tgt := 70) hx hb dX11_town_66 (by decide) ?_
      exact L_70 t_all t_corners t_hearers o9.1 o9.2.1 o9.2.2.1 t_textSize o11.2 o9.2.2.2.2.1 o9.2.2.2.2.2.1 o9.2.2.2.2.2.2.1 t_undoMany t_seen t_written o9.2.2.2.2.2.2.2.1 o9.2.2.2.2.2.2.2.2.1 isKept o9.2.2.2.2.2.2.2.2.2.1 o9.2.2.2.2.2.2.2.2.2.2.1 o9.2.2.2.2.2.2.2.2.2.2.2 w (1 : Int32) _ _ _ hf hP hD hS (lv_sub hl [0] rfl)
  unfold f_X11_town at hf
  refine lv_aload_n hx hb dX11_town_0 rfl (lv_at hl 0 rfl) ?_
  refine lv_iconst (v := (0 : Int32)) hx hb dX11_town_1 (by decide) ?_
  refine g_put hX hiX11 tyX11 tyX11_ok nmX11 hP hD hS 0 rfl rfl 15 (by decide) hk1 rfl rfl rfl rfl (Nat.le_of_ble_eq_true rfl) dX11_town_2 (fun H locs hP hD hS => ?_)
  replace hP : va_P D vwCl [(q_t, .inr (11, [.ref q_w, .ref q_isKept, .int t_all, .int t_corners, .int t_hearers, .int t_newAll, .int t_newCorners, .int t_newHearers, .ref q_beer, .ref q_cold, .ref q_stands, .ref q_pinched, .ref q_says, .ref q_text, .int t_textSize, .int (0 : Int32), .int t_first, .int t_faultOf, .int t_fault, .int t_spoke, .int t_holds, .int t_undoMany, .ref q_seenDecree, .ref q_seenAt, .ref q_seenSpoke, .int t_seen, .ref q_inSets, .ref q_book, .int t_written])), (q_beer, .inl (a 0, 16, .inl beer)), (q_cold, .inl (a 0, 16, .inl cold)), (q_isKept, .inl (a 1, 2, .inl isKept)), (q_pinched, .inl (a 0, 18, .inl pinched)), (q_says, .inl (a 0, 18, .inl says)), (q_stands, .inl (a 0, 18, .inl stands)), (q_text, .inl (a 0, 230, .inl text)), (q_w, .inl (a 0, 578, .inl w))] H := hP
  replace hD : va_D A [(q_t, .inr (11, [.ref q_w, .ref q_isKept, .int t_all, .int t_corners, .int t_hearers, .int t_newAll, .int t_newCorners, .int t_newHearers, .ref q_beer, .ref q_cold, .ref q_stands, .ref q_pinched, .ref q_says, .ref q_text, .int t_textSize, .int (0 : Int32), .int t_first, .int t_faultOf, .int t_fault, .int t_spoke, .int t_holds, .int t_undoMany, .ref q_seenDecree, .ref q_seenAt, .ref q_seenSpoke, .int t_seen, .ref q_inSets, .ref q_book, .int t_written])), (q_beer, .inl (a 0, 16, .inl beer)), (q_cold, .inl (a 0, 16, .inl cold)), (q_isKept, .inl (a 1, 2, .inl isKept)), (q_pinched, .inl (a 0, 18, .inl pinched)), (q_says, .inl (a 0, 18, .inl says)), (q_stands, .inl (a 0, 18, .inl stands)), (q_text, .inl (a 0, 230, .inl text)), (q_w, .inl (a 0, 578, .inl w))] := hD
  refine lv_aload_n hx hb dX11_town_5 rfl (lv_at hl 0 rfl) ?_
  refine lv_iconst (v := (0 : Int32)) hx hb dX11_town_6 (by decide) ?_
  refine g_put hX hiX11 tyX11 tyX11_ok nmX11 hP hD hS 0 rfl rfl 17 (by decide) hk2 rfl rfl rfl rfl (Nat.le_of_ble_eq_true rfl) dX11_town_7 (fun H locs hP hD hS => ?_)
  replace hP : va_P D vwCl [(q_t, .inr (11, [.ref q_w, .ref q_isKept, .int t_all, .int t_corners, .int t_hearers, .int t_newAll, .int t_newCorners, .int t_newHearers, .ref q_beer, .ref q_cold, .ref q_stands, .ref q_pinched, .ref q_says, .ref q_text, .int t_textSize, .int (0 : Int32), .int t_first, .int (0 : Int32), .int t_fault, .int t_spoke, .int t_holds, .int t_undoMany, .ref q_seenDecree, .ref q_seenAt, .ref q_seenSpoke, .int t_seen, .ref q_inSets, .ref q_book, .int t_written])), (q_beer, .inl (a 0, 16, .inl beer)), (q_cold, .inl (a 0, 16, .inl cold)), (q_isKept, .inl (a 1, 2, .inl isKept)), (q_pinched, .inl (a 0, 18, .inl pinched)), (q_says, .inl (a 0, 18, .inl says)), (q_stands, .inl (a 0, 18, .inl stands)), (q_text, .inl (a 0, 230, .inl text)), (q_w, .inl (a 0, 578, .inl w))] H := hP
  replace hD : va_D A [(q_t, .inr (11, [.ref q_w, .ref q_isKept, .int t_all, .int t_corners, .int t_hearers, .int t_newAll, .int t_newCorners, .int t_newHearers, .ref q_beer, .ref q_cold, .ref q_stands, .ref q_pinched, .ref q_says, .ref q_text, .int t_textSize, .int (0 : Int32), .int t_first, .int (0 : Int32), .int t_fault, .int t_spoke, .int t_holds, .int t_undoMany, .ref q_seenDecree, .ref q_seenAt, .ref q_seenSpoke, .int t_seen, .ref q_inSets, .ref q_book, .int t_written])), (q_beer, .inl (a 0, 16, .inl beer)), (q_cold, .inl (a 0, 16, .inl cold)), (q_isKept, .inl (a 1, 2, .inl isKept)), (q_pinched, .inl (a 0, 18, .inl pinched)), (q_says, .inl (a 0, 18, .inl says)), (q_stands, .inl (a 0, 18, .inl stands)), (q_text, .inl (a 0, 230, .inl text)), (q_w, .inl (a 0, 578, .inl w))] := hD
  refine lv_aload_n hx hb dX11_town_10 rfl (lv_at hl 0 rfl) ?_
  refine lv_iconst (v := (-1 : Int32)) hx hb dX11_town_11 (by decide) ?_
  refine g_put hX hiX11 tyX11 tyX11_ok nmX11 hP hD hS 0 rfl rfl 18 (by decide) hk3 rfl rfl rfl rfl (Nat.le_of_ble_eq_true rfl) dX11_town_12 (fun H locs hP hD hS => ?_)
  replace hP : va_P D vwCl [(q_t, .inr (11, [.ref q_w, .ref q_isKept, .int t_all, .int t_corners, .int t_hearers, .int t_newAll, .int t_newCorners, .int t_newHearers, .ref q_beer, .ref q_cold, .ref q_stands, .ref q_pinched, .ref q_says, .ref q_text, .int t_textSize, .int (0 : Int32), .int t_first, .int (0 : Int32), .int (-1 : Int32), .int t_spoke, .int t_holds, .int t_undoMany, .ref q_seenDecree, .ref q_seenAt, .ref q_seenSpoke, .int t_seen, .ref q_inSets, .ref q_book, .int t_written])), (q_beer, .inl (a 0, 16, .inl beer)), (q_cold, .inl (a 0, 16, .inl cold)), (q_isKept, .inl (a 1, 2, .inl isKept)), (q_pinched, .inl (a 0, 18, .inl pinched)), (q_says, .inl (a 0, 18, .inl says)), (q_stands, .inl (a 0, 18, .inl stands)), (q_text, .inl (a 0, 230, .inl text)), (q_w, .inl (a 0, 578, .inl w))] H := hP
  replace hD : va_D A [(q_t, .inr (11, [.ref q_w, .ref q_isKept, .int t_all, .int t_corners, .int t_hearers, .int t_newAll, .int t_newCorners, .int t_newHearers, .ref q_beer, .ref q_cold, .ref q_stands, .ref q_pinched, .ref q_says, .ref q_text, .int t_textSize, .int (0 : Int32), .int t_first, .int (0 : Int32), .int (-1 : Int32), .int t_spoke, .int t_holds, .int t_undoMany, .ref q_seenDecree, .ref q_seenAt, .ref q_seenSpoke, .int t_seen, .ref q_inSets, .ref q_book, .int t_written])), (q_beer, .inl (a 0, 16, .inl beer)), (q_cold, .inl (a 0, 16, .inl cold)), (q_isKept, .inl (a 1, 2, .inl isKept)), (q_pinched, .inl (a 0, 18, .inl pinched)), (q_says, .inl (a 0, 18, .inl says)), (q_stands, .inl (a 0, 18, .inl stands)), (q_text, .inl (a 0, 230, .inl text)), (q_w, .inl (a 0, 578, .inl w))] := hD
  refine lv_aload_n hx hb dX11_town_15 rfl (lv_at hl 0 rfl) ?_
  refine lv_iconst (v := (0 : Int32)) hx hb dX11_town_16 (by decide) ?_
  refine g_put hX hiX11 tyX11 tyX11_ok nmX11 hP hD hS 0 rfl rfl 5 (by decide) hk4 rfl rfl rfl rfl (Nat.le_of_ble_eq_true rfl) dX11_town_17 (fun H locs hP hD hS => ?_)
  replace hP : va_P D vwCl [(q_t, .inr (11, [.ref q_w, .ref q_isKept, .int t_all, .int t_corners, .int t_hearers, .int (0 : Int32), .int t_newCorners, .int t_newHearers, .ref q_beer, .ref q_cold, .ref q_stands, .ref q_pinched, .ref q_says, .ref q_text, .int t_textSize, .int (0 : Int32), .int t_first, .int (0 : Int32), .int (-1 : Int32), .int t_spoke, .int t_holds, .int t_undoMany, .ref q_seenDecree, .ref q_seenAt, .ref q_seenSpoke, .int t_seen, .ref q_inSets, .ref q_book, .int t_written])), (q_beer, .inl (a 0, 16, .inl beer)), (q_cold, .inl (a 0, 16, .inl cold)), (q_isKept, .inl (a 1, 2, .inl isKept)), (q_pinched, .inl (a 0, 18, .inl pinched)), (q_says, .inl (a 0, 18, .inl says)), (q_stands, .inl (a 0, 18, .inl stands)), (q_text, .inl (a 0, 230, .inl text)), (q_w, .inl (a 0, 578, .inl w))] H := hP
  replace hD : va_D A [(q_t, .inr (11, [.ref q_w, .ref q_isKept, .int t_all, .int t_corners, .int t_hearers, .int (0 : Int32), .int t_newCorners, .int t_newHearers, .ref q_beer, .ref q_cold, .ref q_stands, .ref q_pinched, .ref q_says, .ref q_text, .int t_textSize, .int (0 : Int32), .int t_first, .int (0 : Int32), .int (-1 : Int32), .int t_spoke, .int t_holds, .int t_undoMany, .ref q_seenDecree, .ref q_seenAt, .ref q_seenSpoke, .int t_seen, .ref q_inSets, .ref q_book, .int t_written])), (q_beer, .inl (a 0, 16, .inl beer)), (q_cold, .inl (a 0, 16, .inl cold)), (q_isKept, .inl (a 1, 2, .inl isKept)), (q_pinched, .inl (a 0, 18, .inl pinched)), (q_says, .inl (a 0, 18, .inl says)), (q_stands, .inl (a 0, 18, .inl stands)), (q_text, .inl (a 0, 230, .inl text)), (q_w, .inl (a 0, 578, .inl w))] := hD
  refine lv_aload_n hx hb dX11_town_20 rfl (lv_at hl 0 rfl) ?_
  refine lv_iconst (v := (0 : Int32)) hx hb dX11_town_21 (by decide) ?_
  refine g_put hX hiX11 tyX11 tyX11_ok nmX11 hP hD hS 0 rfl rfl 6 (by decide) hk5 rfl rfl rfl rfl (Nat.le_of_ble_eq_true rfl) dX11_town_22 (fun H locs hP hD hS => ?_)
  replace hP : va_P D vwCl [(q_t, .inr (11, [.ref q_w, .ref q_isKept, .int t_all, .int t_corners, .int t_hearers, .int (0 : Int32), .int (0 : Int32), .int t_newHearers, .ref q_beer, .ref q_cold, .ref q_stands, .ref q_pinched, .ref q_says, .ref q_text, .int t_textSize, .int (0 : Int32), .int t_first, .int (0 : Int32), .int (-1 : Int32), .int t_spoke, .int t_holds, .int t_undoMany, .ref q_seenDecree, .ref q_seenAt, .ref q_seenSpoke, .int t_seen, .ref q_inSets, .ref q_book, .int t_written])), (q_beer, .inl (a 0, 16, .inl beer)), (q_cold, .inl (a 0, 16, .inl cold)), (q_isKept, .inl (a 1, 2, .inl isKept)), (q_pinched, .inl (a 0, 18, .inl pinched)), (q_says, .inl (a 0, 18, .inl says)), (q_stands, .inl (a 0, 18, .inl stands)), (q_text, .inl (a 0, 230, .inl text)), (q_w, .inl (a 0, 578, .inl w))] H := hP
  replace hD : va_D A [(q_t, .inr (11, [.ref q_w, .ref q_isKept, .int t_all, .int t_corners, .int t_hearers, .int (0 : Int32), .int (0 : Int32), .int t_newHearers, .ref q_beer, .ref q_cold, .ref q_stands, .ref q_pinched, .ref q_says, .ref q_text, .int t_textSize, .int (0 : Int32), .int t_first, .int (0 : Int32), .int (-1 : Int32), .int t_spoke, .int t_holds, .int t_undoMany, .ref q_seenDecree, .ref q_seenAt, .ref q_seenSpoke, .int t_seen, .ref q_inSets, .ref q_book, .int t_written])), (q_beer, .inl (a 0, 16, .inl beer)), (q_cold, .inl (a 0, 16, .inl cold)), (q_isKept, .inl (a 1, 2, .inl isKept)), (q_pinched, .inl (a 0, 18, .inl pinched)), (q_says, .inl (a 0, 18, .inl says)), (q_stands, .inl (a 0, 18, .inl stands)), (q_text, .inl (a 0, 230, .inl text)), (q_w, .inl (a 0, 578, .inl w))] := hD
  refine lv_aload_n hx hb dX11_town_25 rfl (lv_at hl 0 rfl) ?_
  refine lv_iconst (v := (0 : Int32)) hx hb dX11_town_26 (by decide) ?_
  refine g_put hX hiX11 tyX11 tyX11_ok nmX11 hP hD hS 0 rfl rfl 7 (by decide) hk6 rfl rfl rfl rfl (Nat.le_of_ble_eq_true rfl) dX11_town_27 (fun H locs hP hD hS => ?_)
  replace hP : va_P D vwCl [(q_t, .inr (11, [.ref q_w, .ref q_isKept, .int t_all, .int t_corners, .int t_hearers, .int (0 : Int32), .int (0 : Int32), .int (0 : Int32), .ref q_beer, .ref q_cold, .ref q_stands, .ref q_pinched, .ref q_says, .ref q_text, .int t_textSize, .int (0 : Int32), .int t_first, .int (0 : Int32), .int (-1 : Int32), .int t_spoke, .int t_holds, .int t_undoMany, .ref q_seenDecree, .ref q_seenAt, .ref q_seenSpoke, .int t_seen, .ref q_inSets, .ref q_book, .int t_written])), (q_beer, .inl (a 0, 16, .inl beer)), (q_cold, .inl (a 0, 16, .inl cold)), (q_isKept, .inl (a 1, 2, .inl isKept)), (q_pinched, .inl (a 0, 18, .inl pinched)), (q_says, .inl (a 0, 18, .inl says)), (q_stands, .inl (a 0, 18, .inl stands)), (q_text, .inl (a 0, 230, .inl text)), (q_w, .inl (a 0, 578, .inl w))] H := hP
  replace hD : va_D A [(q_t, .inr (11, [.ref q_w, .ref q_isKept, .int t_all, .int t_corners, .int t_hearers, .int (0 : Int32), .int (0 : Int32), .int (0 : Int32), .ref q_beer, .ref q_cold, .ref q_stands, .ref q_pinched, .ref q_says, .ref q_text, .int t_textSize, .int (0 : Int32), .int t_first, .int (0 : Int32), .int (-1 : Int32), .int t_spoke, .int t_holds, .int t_undoMany, .ref q_seenDecree, .ref q_seenAt, .ref q_seenSpoke, .int t_seen, .ref q_inSets, .ref q_book, .int t_written])), (q_beer, .inl (a 0, 16, .inl beer)), (q_cold, .inl (a 0, 16, .inl cold)), (q_isKept, .inl (a 1, 2, .inl isKept)), (q_pinched, .inl (a 0, 18, .inl pinched)), (q_says, .inl (a 0, 18, .inl says)), (q_stands, .inl (a 0, 18, .inl stands)), (q_text, .inl (a 0, 230, .inl text)), (q_w, .inl (a 0, 578, .inl w))] := hD
  exact L_30 1000 t_all t_corners t_hearers (0 : Int32) (0 : Int32) (0 : Int32) t_textSize (0 : Int32) t_first (0 : Int32) (-1 : Int32) t_undoMany t_seen t_written beer cold isKept pinched says stands w _ _ _ hf hP hD hS (lv_sub hl [0] rfl)
def f_X11_fault (t_fault : Int32) : Option (Int32) :=
  some t_fault
theorem hdS_X11_fault : yX11_fault.cls ≠ "java/lang/invoke/MethodHandle" ∧ yX11_fault.cls ≠ "java/lang/invoke/VarHandle" ∧ (parseMethodDescriptor yX11_fault.desc).map (fun d => d.parameters.length) = some 0 := by decide +kernel
theorem hdV_X11_fault : yX11_fault.cls = RX11 ∧ yX11_fault.cls ≠ "java/lang/invoke/MethodHandle" ∧ yX11_fault.cls ≠ "java/lang/invoke/VarHandle" ∧ (parseMethodDescriptor yX11_fault.desc).map (fun d => d.parameters.length) = some 0 := ⟨rfl, hdS_X11_fault⟩
set_option maxHeartbeats 4000000 in
set_option maxRecDepth 100000 in
theorem c_X11_fault (l : Launch) (D : va_G) (a : Nat → ClassId) (t : Nat) (q_t : Nat) (q_w : Nat) (q_isKept : Nat) (t_all : Int32) (t_corners : Int32) (t_hearers : Int32) (t_newAll : Int32) (t_newCorners : Int32) (t_newHearers : Int32) (q_beer : Nat) (q_cold : Nat) (q_stands : Nat) (q_pinched : Nat) (q_says : Nat) (q_text : Nat) (t_textSize : Int32) (t_at : Int32) (t_first : Int32) (t_faultOf : Int32) (t_fault : Int32) (t_spoke : Int32) (t_holds : Int32) (t_undoMany : Int32) (q_seenDecree : Nat) (q_seenAt : Nat) (q_seenSpoke : Nat) (t_seen : Int32) (q_inSets : Nat) (q_book : Nat) (t_written : Int32) (r : Int32) (hf : f_X11_fault t_fault = some r) : Ki l yX11_fault wsX11_fault 0 0 D a t [.ref q_t] [(q_t, .inr (11, [.ref q_w, .ref q_isKept, .int t_all, .int t_corners, .int t_hearers, .int t_newAll, .int t_newCorners, .int t_newHearers, .ref q_beer, .ref q_cold, .ref q_stands, .ref q_pinched, .ref q_says, .ref q_text, .int t_textSize, .int t_at, .int t_first, .int t_faultOf, .int t_fault, .int t_spoke, .int t_holds, .int t_undoMany, .ref q_seenDecree, .ref q_seenAt, .ref q_seenSpoke, .int t_seen, .ref q_inSets, .ref q_book, .int t_written]))] [(q_t, .inr (11, [.ref q_w, .ref q_isKept, .int t_all, .int t_corners, .int t_hearers, .int t_newAll, .int t_newCorners, .int t_newHearers, .ref q_beer, .ref q_cold, .ref q_stands, .ref q_pinched, .ref q_says, .ref q_text, .int t_textSize, .int t_at, .int t_first, .int t_faultOf, .int t_fault, .int t_spoke, .int t_holds, .int t_undoMany, .ref q_seenDecree, .ref q_seenAt, .ref q_seenSpoke, .int t_seen, .ref q_inSets, .ref q_book, .int t_written]))] r := by
  refine Ki.mk (cc := cX11_fault) (nL := 1) (ty := .int) (own := RX11) (by decide) rfl rfl (Nat.le_of_ble_eq_true rfl) ?_
  intro p e s m args below meth c A Q ls hX hP hD hS hl hret
  have hx := hX.1.1
  have hb := hX.1.2.1
  have hown := hX.1.2.2.2.1
  have hts := hX.1.2.2.2.2
  have hN := hX.2.2.1
  have hA := hX.2.2.2.2
  have hl : lv_has ls 1 [(0, .ref q_t)] := hl
  have hk1 := hts (.fieldLink RX11 35 "GainsaidOnceModel" "fault" "I") (List.mem_of_getElem? (i := 1) rfl)
  have hiX11 : ∀ w ∈ wsX110, w ∈ wsX11_fault := (fun _ h => List.mem_cons_of_mem _ (List.mem_append_right _ h))
  unfold f_X11_fault at hf
  refine lv_aload_n hx hb dX11_fault_0 rfl (lv_at hl 0 rfl) ?_
  refine g_get hX hiX11 hP 0 rfl rfl 18 (by decide) hk1 rfl rfl dX11_fault_1 ?_
  cases hf
  exact hret _ _ _ _ (vp_nar_int _) hP hD hS dX11_fault_4
def f_X11_isCorner (t_corners : Int32) (x1 : Int32) : Option (Int32) :=
  (f_X11_in (Int32.toInt64 x1) (0 : Int64) (Int32.toInt64 (t_corners - (1 : Int32)))).bind fun o1 =>
  (o_zb o1).bind fun _ =>
  some o1
theorem hdS_X11_isCorner : yX11_isCorner.cls ≠ "java/lang/invoke/MethodHandle" ∧ yX11_isCorner.cls ≠ "java/lang/invoke/VarHandle" ∧ (parseMethodDescriptor yX11_isCorner.desc).map (fun d => d.parameters.length) = some 1 := by decide +kernel
theorem hdV_X11_isCorner : yX11_isCorner.cls = RX11 ∧ yX11_isCorner.cls ≠ "java/lang/invoke/MethodHandle" ∧ yX11_isCorner.cls ≠ "java/lang/invoke/VarHandle" ∧ (parseMethodDescriptor yX11_isCorner.desc).map (fun d => d.parameters.length) = some 1 := ⟨rfl, hdS_X11_isCorner⟩
set_option maxHeartbeats 4000000 in
set_option maxRecDepth 100000 in
theorem c_X11_isCorner (l : Launch) (D : va_G) (a : Nat → ClassId) (t : Nat) (q_t : Nat) (q_w : Nat) (q_isKept : Nat) (t_all : Int32) (t_corners : Int32) (t_hearers : Int32) (t_newAll : Int32) (t_newCorners : Int32) (t_newHearers : Int32) (q_beer : Nat) (q_cold : Nat) (q_stands : Nat) (q_pinched : Nat) (q_says : Nat) (q_text : Nat) (t_textSize : Int32) (t_at : Int32) (t_first : Int32) (t_faultOf : Int32) (t_fault : Int32) (t_spoke : Int32) (t_holds : Int32) (t_undoMany : Int32) (q_seenDecree : Nat) (q_seenAt : Nat) (q_seenSpoke : Nat) (t_seen : Int32) (q_inSets : Nat) (q_book : Nat) (t_written : Int32) (x1 : Int32) (r : Int32) (hf : f_X11_isCorner t_corners x1 = some r) : Ki l yX11_isCorner wsX11_isCorner 1 25 D a t [.ref q_t, .int x1] [(q_t, .inr (11, [.ref q_w, .ref q_isKept, .int t_all, .int t_corners, .int t_hearers, .int t_newAll, .int t_newCorners, .int t_newHearers, .ref q_beer, .ref q_cold, .ref q_stands, .ref q_pinched, .ref q_says, .ref q_text, .int t_textSize, .int t_at, .int t_first, .int t_faultOf, .int t_fault, .int t_spoke, .int t_holds, .int t_undoMany, .ref q_seenDecree, .ref q_seenAt, .ref q_seenSpoke, .int t_seen, .ref q_inSets, .ref q_book, .int t_written]))] [(q_t, .inr (11, [.ref q_w, .ref q_isKept, .int t_all, .int t_corners, .int t_hearers, .int t_newAll, .int t_newCorners, .int t_newHearers, .ref q_beer, .ref q_cold, .ref q_stands, .ref q_pinched, .ref q_says, .ref q_text, .int t_textSize, .int t_at, .int t_first, .int t_faultOf, .int t_fault, .int t_spoke, .int t_holds, .int t_undoMany, .ref q_seenDecree, .ref q_seenAt, .ref q_seenSpoke, .int t_seen, .ref q_inSets, .ref q_book, .int t_written]))] r := by
  refine Ki.mk (cc := cX11_isCorner) (nL := 2) (ty := .boolean) (own := RX11) (by decide) rfl rfl (Nat.le_of_ble_eq_true rfl) ?_
  intro p e s m args below meth c A Q ls hX hP hD hS hl hret
  have hx := hX.1.1
  have hb := hX.1.2.1
  have hown := hX.1.2.2.2.1
  have hts := hX.1.2.2.2.2
  have hN := hX.2.2.1
  have hA := hX.2.2.2.2
  have hl : lv_has ls 2 [(0, .ref q_t), (1, .int x1)] := hl
  have hk1 := hts (.fieldLink RX11 123 "GainsaidOnceModel" "corners" "I") (List.mem_of_getElem? (i := 1) rfl)
  have hiX11 : ∀ w ∈ wsX110, w ∈ wsX11_isCorner := (fun _ h => List.mem_cons_of_mem _ (List.mem_append_right _ h))
  unfold f_X11_isCorner at hf
  refine lv_iload_n hx hb dX11_isCorner_0 rfl (lv_at hl 1 rfl) ?_
  refine lv_i2l (v := Int32.toInt64 x1) hx hb dX11_isCorner_1 rfl ?_
  refine lv_lconst (v := (0 : Int64)) hx hb dX11_isCorner_2 (by decide) ?_
  refine lv_aload_n hx hb dX11_isCorner_3 rfl (lv_at hl 0 rfl) ?_
  refine g_get hX hiX11 hP 0 rfl rfl 3 (by decide) hk1 rfl rfl dX11_isCorner_4 ?_
  refine lv_iconst (v := (1 : Int32)) hx hb dX11_isCorner_7 (by decide) ?_
  refine lv_isub hx hb dX11_isCorner_8 ?_
  refine lv_i2l (v := Int32.toInt64 (t_corners - (1 : Int32))) hx hb dX11_isCorner_9 rfl ?_
  obtain ⟨o1, ho1, hf⟩ := o_bd hf
  refine call_iS hX (c_X11_in l D a t (Int32.toInt64 x1) (0 : Int64) (Int32.toInt64 (t_corners - (1 : Int32))) o1 ho1) (va_cwS 3 hts gX11_isCorner_X11_in rfl rfl rfl hdS_X11_in ⟨by decide, by decide⟩) (Cut.none hA hP hD hS) hS rfl hl.1 rfl (Nat.le_of_ble_eq_true rfl) dX11_isCorner_10 (by decide) (fun H locs hP hD hS => ?_)
  obtain ⟨hzb, hf⟩ := o_zbh hf
  cases hf
  exact hret _ _ _ _ hzb hP hD hS dX11_isCorner_13
def f_X11_isHearer (t_hearers : Int32) (x1 : Int32) : Option (Int32) :=
  (f_X11_in (Int32.toInt64 x1) (0 : Int64) (Int32.toInt64 (t_hearers - (1 : Int32)))).bind fun o1 =>
  (o_zb o1).bind fun _ =>
  some o1
theorem hdS_X11_isHearer : yX11_isHearer.cls ≠ "java/lang/invoke/MethodHandle" ∧ yX11_isHearer.cls ≠ "java/lang/invoke/VarHandle" ∧ (parseMethodDescriptor yX11_isHearer.desc).map (fun d => d.parameters.length) = some 1 := by decide +kernel
theorem hdV_X11_isHearer : yX11_isHearer.cls = RX11 ∧ yX11_isHearer.cls ≠ "java/lang/invoke/MethodHandle" ∧ yX11_isHearer.cls ≠ "java/lang/invoke/VarHandle" ∧ (parseMethodDescriptor yX11_isHearer.desc).map (fun d => d.parameters.length) = some 1 := ⟨rfl, hdS_X11_isHearer⟩
set_option maxHeartbeats 4000000 in
set_option maxRecDepth 100000 in
theorem c_X11_isHearer (l : Launch) (D : va_G) (a : Nat → ClassId) (t : Nat) (q_t : Nat) (q_w : Nat) (q_isKept : Nat) (t_all : Int32) (t_corners : Int32) (t_hearers : Int32) (t_newAll : Int32) (t_newCorners : Int32) (t_newHearers : Int32) (q_beer : Nat) (q_cold : Nat) (q_stands : Nat) (q_pinched : Nat) (q_says : Nat) (q_text : Nat) (t_textSize : Int32) (t_at : Int32) (t_first : Int32) (t_faultOf : Int32) (t_fault : Int32) (t_spoke : Int32) (t_holds : Int32) (t_undoMany : Int32) (q_seenDecree : Nat) (q_seenAt : Nat) (q_seenSpoke : Nat) (t_seen : Int32) (q_inSets : Nat) (q_book : Nat) (t_written : Int32) (x1 : Int32) (r : Int32) (hf : f_X11_isHearer t_hearers x1 = some r) : Ki l yX11_isHearer wsX11_isHearer 1 25 D a t [.ref q_t, .int x1] [(q_t, .inr (11, [.ref q_w, .ref q_isKept, .int t_all, .int t_corners, .int t_hearers, .int t_newAll, .int t_newCorners, .int t_newHearers, .ref q_beer, .ref q_cold, .ref q_stands, .ref q_pinched, .ref q_says, .ref q_text, .int t_textSize, .int t_at, .int t_first, .int t_faultOf, .int t_fault, .int t_spoke, .int t_holds, .int t_undoMany, .ref q_seenDecree, .ref q_seenAt, .ref q_seenSpoke, .int t_seen, .ref q_inSets, .ref q_book, .int t_written]))] [(q_t, .inr (11, [.ref q_w, .ref q_isKept, .int t_all, .int t_corners, .int t_hearers, .int t_newAll, .int t_newCorners, .int t_newHearers, .ref q_beer, .ref q_cold, .ref q_stands, .ref q_pinched, .ref q_says, .ref q_text, .int t_textSize, .int t_at, .int t_first, .int t_faultOf, .int t_fault, .int t_spoke, .int t_holds, .int t_undoMany, .ref q_seenDecree, .ref q_seenAt, .ref q_seenSpoke, .int t_seen, .ref q_inSets, .ref q_book, .int t_written]))] r := by
  refine Ki.mk (cc := cX11_isHearer) (nL := 2) (ty := .boolean) (own := RX11) (by decide) rfl rfl (Nat.le_of_ble_eq_true rfl) ?_
  intro p e s m args below meth c A Q ls hX hP hD hS hl hret
  have hx := hX.1.1
  have hb := hX.1.2.1
  have hown := hX.1.2.2.2.1
  have hts := hX.1.2.2.2.2
  have hN := hX.2.2.1
  have hA := hX.2.2.2.2
  have hl : lv_has ls 2 [(0, .ref q_t), (1, .int x1)] := hl
  have hk1 := hts (.fieldLink RX11 129 "GainsaidOnceModel" "hearers" "I") (List.mem_of_getElem? (i := 1) rfl)
  have hiX11 : ∀ w ∈ wsX110, w ∈ wsX11_isHearer := (fun _ h => List.mem_cons_of_mem _ (List.mem_append_right _ h))
  unfold f_X11_isHearer at hf
  refine lv_iload_n hx hb dX11_isHearer_0 rfl (lv_at hl 1 rfl) ?_
  refine lv_i2l (v := Int32.toInt64 x1) hx hb dX11_isHearer_1 rfl ?_
  refine lv_lconst (v := (0 : Int64)) hx hb dX11_isHearer_2 (by decide) ?_
  refine lv_aload_n hx hb dX11_isHearer_3 rfl (lv_at hl 0 rfl) ?_
  refine g_get hX hiX11 hP 0 rfl rfl 4 (by decide) hk1 rfl rfl dX11_isHearer_4 ?_
  refine lv_iconst (v := (1 : Int32)) hx hb dX11_isHearer_7 (by decide) ?_
  refine lv_isub hx hb dX11_isHearer_8 ?_
  refine lv_i2l (v := Int32.toInt64 (t_hearers - (1 : Int32))) hx hb dX11_isHearer_9 rfl ?_
  obtain ⟨o1, ho1, hf⟩ := o_bd hf
  refine call_iS hX (c_X11_in l D a t (Int32.toInt64 x1) (0 : Int64) (Int32.toInt64 (t_hearers - (1 : Int32))) o1 ho1) (va_cwS 3 hts gX11_isHearer_X11_in rfl rfl rfl hdS_X11_in ⟨by decide, by decide⟩) (Cut.none hA hP hD hS) hS rfl hl.1 rfl (Nat.le_of_ble_eq_true rfl) dX11_isHearer_10 (by decide) (fun H locs hP hD hS => ?_)
  obtain ⟨hzb, hf⟩ := o_zbh hf
  cases hf
  exact hret _ _ _ _ hzb hP hD hS dX11_isHearer_13
def f_X11_isDecree (t_all : Int32) (x1 : Int32) : Option (Int32) :=
  if x1 < 0 then (some (0 : Int32))
  else (if (x1 &&& (t_all ^^^ (-1 : Int32))) = 0 then (some (1 : Int32))
  else (some (0 : Int32)))
theorem hdS_X11_isDecree : yX11_isDecree.cls ≠ "java/lang/invoke/MethodHandle" ∧ yX11_isDecree.cls ≠ "java/lang/invoke/VarHandle" ∧ (parseMethodDescriptor yX11_isDecree.desc).map (fun d => d.parameters.length) = some 1 := by decide +kernel
theorem hdV_X11_isDecree : yX11_isDecree.cls = RX11 ∧ yX11_isDecree.cls ≠ "java/lang/invoke/MethodHandle" ∧ yX11_isDecree.cls ≠ "java/lang/invoke/VarHandle" ∧ (parseMethodDescriptor yX11_isDecree.desc).map (fun d => d.parameters.length) = some 1 := ⟨rfl, hdS_X11_isDecree⟩
set_option maxHeartbeats 4000000 in
set_option maxRecDepth 100000 in
theorem c_X11_isDecree (l : Launch) (D : va_G) (a : Nat → ClassId) (t : Nat) (q_t : Nat) (q_w : Nat) (q_isKept : Nat) (t_all : Int32) (t_corners : Int32) (t_hearers : Int32) (t_newAll : Int32) (t_newCorners : Int32) (t_newHearers : Int32) (q_beer : Nat) (q_cold : Nat) (q_stands : Nat) (q_pinched : Nat) (q_says : Nat) (q_text : Nat) (t_textSize : Int32) (t_at : Int32) (t_first : Int32) (t_faultOf : Int32) (t_fault : Int32) (t_spoke : Int32) (t_holds : Int32) (t_undoMany : Int32) (q_seenDecree : Nat) (q_seenAt : Nat) (q_seenSpoke : Nat) (t_seen : Int32) (q_inSets : Nat) (q_book : Nat) (t_written : Int32) (x1 : Int32) (r : Int32) (hf : f_X11_isDecree t_all x1 = some r) : Ki l yX11_isDecree wsX11_isDecree 0 0 D a t [.ref q_t, .int x1] [(q_t, .inr (11, [.ref q_w, .ref q_isKept, .int t_all, .int t_corners, .int t_hearers, .int t_newAll, .int t_newCorners, .int t_newHearers, .ref q_beer, .ref q_cold, .ref q_stands, .ref q_pinched, .ref q_says, .ref q_text, .int t_textSize, .int t_at, .int t_first, .int t_faultOf, .int t_fault, .int t_spoke, .int t_holds, .int t_undoMany, .ref q_seenDecree, .ref q_seenAt, .ref q_seenSpoke, .int t_seen, .ref q_inSets, .ref q_book, .int t_written]))] [(q_t, .inr (11, [.ref q_w, .ref q_isKept, .int t_all, .int t_corners, .int t_hearers, .int t_newAll, .int t_newCorners, .int t_newHearers, .ref q_beer, .ref q_cold, .ref q_stands, .ref q_pinched, .ref q_says, .ref q_text, .int t_textSize, .int t_at, .int t_first, .int t_faultOf, .int t_fault, .int t_spoke, .int t_holds, .int t_undoMany, .ref q_seenDecree, .ref q_seenAt, .ref q_seenSpoke, .int t_seen, .ref q_inSets, .ref q_book, .int t_written]))] r := by
  refine Ki.mk (cc := cX11_isDecree) (nL := 2) (ty := .boolean) (own := RX11) (by decide) rfl rfl (Nat.le_of_ble_eq_true rfl) ?_
  intro p e s m args below meth c A Q ls hX hP hD hS hl hret
  have hx := hX.1.1
  have hb := hX.1.2.1
  have hown := hX.1.2.2.2.1
  have hts := hX.1.2.2.2.2
  have hN := hX.2.2.1
  have hA := hX.2.2.2.2
  have hl : lv_has ls 2 [(0, .ref q_t), (1, .int x1)] := hl
  have hk1 := hts (.fieldLink RX11 126 "GainsaidOnceModel" "all" "I") (List.mem_of_getElem? (i := 1) rfl)
  have hiX11 : ∀ w ∈ wsX110, w ∈ wsX11_isDecree := (fun _ h => List.mem_cons_of_mem _ (List.mem_append_right _ h))
  unfold f_X11_isDecree at hf
  refine lv_iload_n hx hb dX11_isDecree_0 rfl (lv_at hl 1 rfl) ?_
  refine lv_if_lt (tgt := 19) hx hb dX11_isDecree_1 (by decide) (fun c1 => ?_) (fun c1 => ?_)
  · replace hf := o_ifp hf c1
    refine lv_iconst (v := (0 : Int32)) hx hb dX11_isDecree_19 (by decide) ?_
    cases hf
    exact hret _ _ _ _ narrow_b0 hP hD hS dX11_isDecree_20
  replace hf := o_ifn hf c1
  refine lv_iload_n hx hb dX11_isDecree_4 rfl (lv_at hl 1 rfl) ?_
  refine lv_aload_n hx hb dX11_isDecree_5 rfl (lv_at hl 0 rfl) ?_
  refine g_get hX hiX11 hP 0 rfl rfl 2 (by decide) hk1 rfl rfl dX11_isDecree_6 ?_
  refine lv_iconst (v := (-1 : Int32)) hx hb dX11_isDecree_9 (by decide) ?_
  refine lv_ixor hx hb dX11_isDecree_10 ?_
  refine lv_iand hx hb dX11_isDecree_11 ?_
  refine lv_if_ne (tgt := 19) hx hb dX11_isDecree_12 (by decide) (fun c2 => ?_) (fun c2 => ?_)
  · replace hf := o_ifn hf c2
    refine lv_iconst (v := (0 : Int32)) hx hb dX11_isDecree_19 (by decide) ?_
    cases hf
    exact hret _ _ _ _ narrow_b0 hP hD hS dX11_isDecree_20
  replace hf := o_ifp hf c2
  refine lv_iconst (v := (1 : Int32)) hx hb dX11_isDecree_15 (by decide) ?_
  refine lv_goto (tgt := 20) hx hb dX11_isDecree_16 (by decide) ?_
  cases hf
  exact hret _ _ _ _ narrow_b1 hP hD hS dX11_isDecree_20
def f_X11_isWay (x0 : Int32) : Option (Int32) :=
  (f_X11_in (Int32.toInt64 x0) (0 : Int64) (1 : Int64)).bind fun o1 =>
  (o_zb o1).bind fun _ =>
  some o1
theorem hdS_X11_isWay : yX11_isWay.cls ≠ "java/lang/invoke/MethodHandle" ∧ yX11_isWay.cls ≠ "java/lang/invoke/VarHandle" ∧ (parseMethodDescriptor yX11_isWay.desc).map (fun d => d.parameters.length) = some 1 := by decide +kernel
theorem hdV_X11_isWay : yX11_isWay.cls = RX11 ∧ yX11_isWay.cls ≠ "java/lang/invoke/MethodHandle" ∧ yX11_isWay.cls ≠ "java/lang/invoke/VarHandle" ∧ (parseMethodDescriptor yX11_isWay.desc).map (fun d => d.parameters.length) = some 1 := ⟨rfl, hdS_X11_isWay⟩
set_option maxHeartbeats 4000000 in
set_option maxRecDepth 100000 in
theorem c_X11_isWay (l : Launch) (D : va_G) (a : Nat → ClassId) (t : Nat) (x0 : Int32) (r : Int32) (hf : f_X11_isWay x0 = some r) : Ki l yX11_isWay wsX11_isWay 1 25 D a t [.int x0] [] [] r := by
  refine Ki.mk (cc := cX11_isWay) (nL := 1) (ty := .boolean) (own := RX11) (by decide) rfl rfl (Nat.le_of_ble_eq_true rfl) ?_
  intro p e s m args below meth c A Q ls hX hP hD hS hl hret
  have hx := hX.1.1
  have hb := hX.1.2.1
  have hown := hX.1.2.2.2.1
  have hts := hX.1.2.2.2.2
  have hN := hX.2.2.1
  have hA := hX.2.2.2.2
  have hl : lv_has ls 1 [(0, .int x0)] := hl
  unfold f_X11_isWay at hf
  refine lv_iload_n hx hb dX11_isWay_0 rfl (lv_at hl 0 rfl) ?_
  refine lv_i2l (v := Int32.toInt64 x0) hx hb dX11_isWay_1 rfl ?_
  refine lv_lconst (v := (0 : Int64)) hx hb dX11_isWay_2 (by decide) ?_
  refine lv_lconst (v := (1 : Int64)) hx hb dX11_isWay_3 (by decide) ?_
  obtain ⟨o1, ho1, hf⟩ := o_bd hf
  refine call_iS hX (c_X11_in l D a t (Int32.toInt64 x0) (0 : Int64) (1 : Int64) o1 ho1) (va_cwS 3 hts gX11_isWay_X11_in rfl rfl rfl hdS_X11_in ⟨by decide, by decide⟩) (Cut.none hA hP hD hS) hS rfl hl.1 rfl (Nat.le_of_ble_eq_true rfl) dX11_isWay_4 (by decide) (fun H locs hP hD hS => ?_)
  obtain ⟨hzb, hf⟩ := o_zbh hf
  cases hf
  exact hret _ _ _ _ hzb hP hD hS dX11_isWay_7
def f_X11_told (t_all : Int32) (t_corners : Int32) (t_hearers : Int32) (t_textSize : Int32) (t_undoMany : Int32) (t_seen : Int32) (t_written : Int32) (w : Nat → Int32) (x1 : Int32) : Option (Int32) :=
  if x1 = (0 : Int32) then (some t_all)
  else (if x1 = (1 : Int32) then (some t_corners)
  else (if x1 = (2 : Int32) then (some t_hearers)
  else (if x1 = (3 : Int32) then (some t_textSize)
  else (if x1 = (4 : Int32) then ((o_ld w 578 (12 : Int32)).bind fun v6 =>
  some v6)
  else (if x1 = (5 : Int32) then ((o_ld w 578 (13 : Int32)).bind fun v8 =>
  some v8)
  else (if x1 = (6 : Int32) then ((o_ld w 578 (14 : Int32)).bind fun v10 =>
  some v10)
  else (if x1 = (7 : Int32) then ((o_ld w 578 (15 : Int32)).bind fun v12 =>
  some v12)
  else (if x1 = (8 : Int32) then ((o_ld w 578 (9 : Int32)).bind fun v14 =>
  some v14)
  else (if x1 = (9 : Int32) then ((o_ld w 578 (10 : Int32)).bind fun v16 =>
  some v16)
  else (if x1 = (10 : Int32) then ((o_ld w 578 (11 : Int32)).bind fun v18 =>
  some v18)
  else (if x1 = (11 : Int32) then (some t_seen)
  else (if x1 = (12 : Int32) then (some t_written)
  else (if x1 = (13 : Int32) then (some t_undoMany)
  else (some (-1000000002 : Int32)))))))))))))))
theorem hdS_X11_told : yX11_told.cls ≠ "java/lang/invoke/MethodHandle" ∧ yX11_told.cls ≠ "java/lang/invoke/VarHandle" ∧ (parseMethodDescriptor yX11_told.desc).map (fun d => d.parameters.length) = some 1 := by decide +kernel
theorem hdV_X11_told : yX11_told.cls = RX11 ∧ yX11_told.cls ≠ "java/lang/invoke/MethodHandle" ∧ yX11_told.cls ≠ "java/lang/invoke/VarHandle" ∧ (parseMethodDescriptor yX11_told.desc).map (fun d => d.parameters.length) = some 1 := ⟨rfl, hdS_X11_told⟩
set_option maxHeartbeats 4000000 in
set_option maxRecDepth 100000 in
theorem c_X11_told (l : Launch) (D : va_G) (a : Nat → ClassId) (t : Nat) (q_t : Nat) (q_w : Nat) (q_isKept : Nat) (t_all : Int32) (t_corners : Int32) (t_hearers : Int32) (t_newAll : Int32) (t_newCorners : Int32) (t_newHearers : Int32) (q_beer : Nat) (q_cold : Nat) (q_stands : Nat) (q_pinched : Nat) (q_says : Nat) (q_text : Nat) (t_textSize : Int32) (t_at : Int32) (t_first : Int32) (t_faultOf : Int32) (t_fault : Int32) (t_spoke : Int32) (t_holds : Int32) (t_undoMany : Int32) (q_seenDecree : Nat) (q_seenAt : Nat) (q_seenSpoke : Nat) (t_seen : Int32) (q_inSets : Nat) (q_book : Nat) (t_written : Int32) (w : Nat → Int32) (x1 : Int32) (r : Int32) (hf : f_X11_told t_all t_corners t_hearers t_textSize t_undoMany t_seen t_written w x1 = some r) : Ki l yX11_told wsX11_told 0 0 D a t [.ref q_t, .int x1] [(q_t, .inr (11, [.ref q_w, .ref q_isKept, .int t_all, .int t_corners, .int t_hearers, .int t_newAll, .int t_newCorners, .int t_newHearers, .ref q_beer, .ref q_cold, .ref q_stands, .ref q_pinched, .ref q_says, .ref q_text, .int t_textSize, .int t_at, .int t_first, .int t_faultOf, .int t_fault, .int t_spoke, .int t_holds, .int t_undoMany, .ref q_seenDecree, .ref q_seenAt, .ref q_seenSpoke, .int t_seen, .ref q_inSets, .ref q_book, .int t_written])), (q_w, .inl (a 0, 578, .inl w))] [(q_t, .inr (11, [.ref q_w, .ref q_isKept, .int t_all, .int t_corners, .int t_hearers, .int t_newAll, .int t_newCorners, .int t_newHearers, .ref q_beer, .ref q_cold, .ref q_stands, .ref q_pinched, .ref q_says, .ref q_text, .int t_textSize, .int t_at, .int t_first, .int t_faultOf, .int t_fault, .int t_spoke, .int t_holds, .int t_undoMany, .ref q_seenDecree, .ref q_seenAt, .ref q_seenSpoke, .int t_seen, .ref q_inSets, .ref q_book, .int t_written])), (q_w, .inl (a 0, 578, .inl w))] r := by
  refine Ki.mk (cc := cX11_told) (nL := 2) (ty := .int) (own := RX11) (by decide) rfl rfl (Nat.le_of_ble_eq_true rfl) ?_
  intro p e s m args below meth c A Q ls hX hP hD hS hl hret
  have hx := hX.1.1
  have hb := hX.1.2.1
  have hown := hX.1.2.2.2.1
  have hts := hX.1.2.2.2.2
  have hN := hX.2.2.1
  have hA := hX.2.2.2.2
  have hl : lv_has ls 2 [(0, .ref q_t), (1, .int x1)] := hl
  have hk1 := hts (.fieldLink RX11 126 "GainsaidOnceModel" "all" "I") (List.mem_of_getElem? (i := 1) rfl)
  have hk2 := hts (.fieldLink RX11 123 "GainsaidOnceModel" "corners" "I") (List.mem_of_getElem? (i := 2) rfl)
  have hk3 := hts (.fieldLink RX11 129 "GainsaidOnceModel" "hearers" "I") (List.mem_of_getElem? (i := 3) rfl)
  have hk4 := hts (.fieldLink RX11 65 "GainsaidOnceModel" "textSize" "I") (List.mem_of_getElem? (i := 4) rfl)
  have hk5 := hts (.fieldLink RX11 7 "GainsaidOnceModel" "w" "[I") (List.mem_of_getElem? (i := 5) rfl)
  have hk6 := hts (.fieldLink RX11 136 "GainsaidOnceModel" "seen" "I") (List.mem_of_getElem? (i := 6) rfl)
  have hk7 := hts (.fieldLink RX11 139 "GainsaidOnceModel" "written" "I") (List.mem_of_getElem? (i := 7) rfl)
  have hk8 := hts (.fieldLink RX11 142 "GainsaidOnceModel" "undoMany" "I") (List.mem_of_getElem? (i := 8) rfl)
  have hk9 := hts (.constant RX11 64 (-1000000002)) (List.mem_of_getElem? (i := 9) rfl)
  have hiX11 : ∀ w ∈ wsX110, w ∈ wsX11_told := (fun _ h => List.mem_cons_of_mem _ (List.mem_append_right _ h))
  unfold f_X11_told at hf
  refine lv_iload_n hx hb dX11_told_0 rfl (lv_at hl 1 rfl) ?_
  by_cases c1 : x1 = (0 : Int32)
  · refine lv_tableIn (tgt := 72) hx hb dX11_told_1 (by rw [c1]; decide) (by rw [c1]; decide) (by rw [c1]; rfl) (by decide) ?_
    replace hf := o_ifp hf c1
    refine lv_aload_n hx hb dX11_told_72 rfl (lv_at hl 0 rfl) ?_
    refine g_get hX hiX11 hP 0 rfl rfl 2 (by decide) hk1 rfl rfl dX11_told_73 ?_
    cases hf
    exact hret _ _ _ _ (vp_nar_int _) hP hD hS dX11_told_76
  replace hf := o_ifn hf c1
  by_cases c2 : x1 = (1 : Int32)
  · refine lv_tableIn (tgt := 77) hx hb dX11_told_1 (by rw [c2]; decide) (by rw [c2]; decide) (by rw [c2]; rfl) (by decide) ?_
    replace hf := o_ifp hf c2
    refine lv_aload_n hx hb dX11_told_77 rfl (lv_at hl 0 rfl) ?_
    refine g_get hX hiX11 hP 0 rfl rfl 3 (by decide) hk2 rfl rfl dX11_told_78 ?_
    cases hf
    exact hret _ _ _ _ (vp_nar_int _) hP hD hS dX11_told_81
  replace hf := o_ifn hf c2
  by_cases c3 : x1 = (2 : Int32)
  · refine lv_tableIn (tgt := 82) hx hb dX11_told_1 (by rw [c3]; decide) (by rw [c3]; decide) (by rw [c3]; rfl) (by decide) ?_
    replace hf := o_ifp hf c3
    refine lv_aload_n hx hb dX11_told_82 rfl (lv_at hl 0 rfl) ?_
    refine g_get hX hiX11 hP 0 rfl rfl 4 (by decide) hk3 rfl rfl dX11_told_83 ?_
    cases hf
    exact hret _ _ _ _ (vp_nar_int _) hP hD hS dX11_told_86
  replace hf := o_ifn hf c3
  by_cases c4 : x1 = (3 : Int32)
  · refine lv_tableIn (tgt := 87) hx hb dX11_told_1 (by rw [c4]; decide) (by rw [c4]; decide) (by rw [c4]; rfl) (by decide) ?_
    replace hf := o_ifp hf c4
    refine lv_aload_n hx hb dX11_told_87 rfl (lv_at hl 0 rfl) ?_
    refine g_get hX hiX11 hP 0 rfl rfl 14 (by decide) hk4 rfl rfl dX11_told_88 ?_
    cases hf
    exact hret _ _ _ _ (vp_nar_int _) hP hD hS dX11_told_91
  replace hf := o_ifn hf c4
  by_cases c5 : x1 = (4 : Int32)
  · refine lv_tableIn (tgt := 92) hx hb dX11_told_1 (by rw [c5]; decide) (by rw [c5]; decide) (by rw [c5]; rfl) (by decide) ?_
    replace hf := o_ifp hf c5
    refine lv_aload_n hx hb dX11_told_92 rfl (lv_at hl 0 rfl) ?_
    refine g_get hX hiX11 hP 0 rfl rfl 0 (by decide) hk5 rfl rfl dX11_told_93 ?_
    refine lv_bipush (v := (12 : Int32)) hx hb dX11_told_96 (by decide) ?_
    obtain ⟨hiv6, hf⟩ := o_ldh hf
    refine g_iald hX hP 1 rfl hiv6 dX11_told_98 (fun v6 ev6 => ?_)
    replace hf := hf v6 ev6
    cases hf
    exact hret _ _ _ _ (vp_nar_int _) hP hD hS dX11_told_99
  replace hf := o_ifn hf c5
  by_cases c7 : x1 = (5 : Int32)
  · refine lv_tableIn (tgt := 100) hx hb dX11_told_1 (by rw [c7]; decide) (by rw [c7]; decide) (by rw [c7]; rfl) (by decide) ?_
    replace hf := o_ifp hf c7
    refine lv_aload_n hx hb dX11_told_100 rfl (lv_at hl 0 rfl) ?_
    refine g_get hX hiX11 hP 0 rfl rfl 0 (by decide) hk5 rfl rfl dX11_told_101 ?_
    refine lv_bipush (v := (13 : Int32)) hx hb dX11_told_104 (by decide) ?_
    obtain ⟨hiv8, hf⟩ := o_ldh hf
    refine g_iald hX hP 1 rfl hiv8 dX11_told_106 (fun v8 ev8 => ?_)
    replace hf := hf v8 ev8
    cases hf
    exact hret _ _ _ _ (vp_nar_int _) hP hD hS dX11_told_107
  replace hf := o_ifn hf c7
  by_cases c9 : x1 = (6 : Int32)
  · refine lv_tableIn (tgt := 108) hx hb dX11_told_1 (by rw [c9]; decide) (by rw [c9]; decide) (by rw [c9]; rfl) (by decide) ?_
    replace hf := o_ifp hf c9
    refine lv_aload_n hx hb dX11_told_108 rfl (lv_at hl 0 rfl) ?_
    refine g_get hX hiX11 hP 0 rfl rfl 0 (by decide) hk5 rfl rfl dX11_told_109 ?_
    refine lv_bipush (v := (14 : Int32)) hx hb dX11_told_112 (by decide) ?_
    obtain ⟨hiv10, hf⟩ := o_ldh hf
    refine g_iald hX hP 1 rfl hiv10 dX11_told_114 (fun v10 ev10 => ?_)
    replace hf := hf v10 ev10
    cases hf
    exact hret _ _ _ _ (vp_nar_int _) hP hD hS dX11_told_115
  replace hf := o_ifn hf c9
  by_cases c11 : x1 = (7 : Int32)
  · refine lv_tableIn (tgt := 116) hx hb dX11_told_1 (by rw [c11]; decide) (by rw [c11]; decide) (by rw [c11]; rfl) (by decide) ?_
    replace hf := o_ifp hf c11
    refine lv_aload_n hx hb dX11_told_116 rfl (lv_at hl 0 rfl) ?_
    refine g_get hX hiX11 hP 0 rfl rfl 0 (by decide) hk5 rfl rfl dX11_told_117 ?_
    refine lv_bipush (v := (15 : Int32)) hx hb dX11_told_120 (by decide) ?_
    obtain ⟨hiv12, hf⟩ := o_ldh hf
    refine g_iald hX hP 1 rfl hiv12 dX11_told_122 (fun v12 ev12 => ?_)
    replace hf := hf v12 ev12
    cases hf
    exact hret _ _ _ _ (vp_nar_int _) hP hD hS dX11_told_123
  replace hf := o_ifn hf c11
  by_cases c13 : x1 = (8 : Int32)
  · refine lv_tableIn (tgt := 124) hx hb dX11_told_1 (by rw [c13]; decide) (by rw [c13]; decide) (by rw [c13]; rfl) (by decide) ?_
    replace hf := o_ifp hf c13
    refine lv_aload_n hx hb dX11_told_124 rfl (lv_at hl 0 rfl) ?_
    refine g_get hX hiX11 hP 0 rfl rfl 0 (by decide) hk5 rfl rfl dX11_told_125 ?_
    refine lv_bipush (v := (9 : Int32)) hx hb dX11_told_128 (by decide) ?_
    obtain ⟨hiv14, hf⟩ := o_ldh hf
    refine g_iald hX hP 1 rfl hiv14 dX11_told_130 (fun v14 ev14 => ?_)
    replace hf := hf v14 ev14
    cases hf
    exact hret _ _ _ _ (vp_nar_int _) hP hD hS dX11_told_131
  replace hf := o_ifn hf c13
  by_cases c15 : x1 = (9 : Int32)
  · refine lv_tableIn (tgt := 132) hx hb dX11_told_1 (by rw [c15]; decide) (by rw [c15]; decide) (by rw [c15]; rfl) (by decide) ?_
    replace hf := o_ifp hf c15
    refine lv_aload_n hx hb dX11_told_132 rfl (lv_at hl 0 rfl) ?_
    refine g_get hX hiX11 hP 0 rfl rfl 0 (by decide) hk5 rfl rfl dX11_told_133 ?_
    refine lv_bipush (v := (10 : Int32)) hx hb dX11_told_136 (by decide) ?_
    obtain ⟨hiv16, hf⟩ := o_ldh hf
    refine g_iald hX hP 1 rfl hiv16 dX11_told_138 (fun v16 ev16 => ?_)
    replace hf := hf v16 ev16
    cases hf
    exact hret _ _ _ _ (vp_nar_int _) hP hD hS dX11_told_139
  replace hf := o_ifn hf c15
  by_cases c17 : x1 = (10 : Int32)
  · refine lv_tableIn (tgt := 140) hx hb dX11_told_1 (by rw [c17]; decide) (by rw [c17]; decide) (by rw [c17]; rfl) (by decide) ?_
    replace hf := o_ifp hf c17
    refine lv_aload_n hx hb dX11_told_140 rfl (lv_at hl 0 rfl) ?_
    refine g_get hX hiX11 hP 0 rfl rfl 0 (by decide) hk5 rfl rfl dX11_told_141 ?_
    refine lv_bipush (v := (11 : Int32)) hx hb dX11_told_144 (by decide) ?_
    obtain ⟨hiv18, hf⟩ := o_ldh hf
    refine g_iald hX hP 1 rfl hiv18 dX11_told_146 (fun v18 ev18 => ?_)
    replace hf := hf v18 ev18
    cases hf
    exact hret _ _ _ _ (vp_nar_int _) hP hD hS dX11_told_147
  replace hf := o_ifn hf c17
  by_cases c19 : x1 = (11 : Int32)
  · refine lv_tableIn (tgt := 148) hx hb dX11_told_1 (by rw [c19]; decide) (by rw [c19]; decide) (by rw [c19]; rfl) (by decide) ?_
    replace hf := o_ifp hf c19
    refine lv_aload_n hx hb dX11_told_148 rfl (lv_at hl 0 rfl) ?_
    refine g_get hX hiX11 hP 0 rfl rfl 25 (by decide) hk6 rfl rfl dX11_told_149 ?_
    cases hf
    exact hret _ _ _ _ (vp_nar_int _) hP hD hS dX11_told_152
  replace hf := o_ifn hf c19
  by_cases c20 : x1 = (12 : Int32)
  · refine lv_tableIn (tgt := 153) hx hb dX11_told_1 (by rw [c20]; decide) (by rw [c20]; decide) (by rw [c20]; rfl) (by decide) ?_
    replace hf := o_ifp hf c20
    refine lv_aload_n hx hb dX11_told_153 rfl (lv_at hl 0 rfl) ?_
    refine g_get hX hiX11 hP 0 rfl rfl 28 (by decide) hk7 rfl rfl dX11_told_154 ?_
    cases hf
    exact hret _ _ _ _ (vp_nar_int _) hP hD hS dX11_told_157
  replace hf := o_ifn hf c20
  by_cases c21 : x1 = (13 : Int32)
  · refine lv_tableIn (tgt := 158) hx hb dX11_told_1 (by rw [c21]; decide) (by rw [c21]; decide) (by rw [c21]; rfl) (by decide) ?_
    replace hf := o_ifp hf c21
    refine lv_aload_n hx hb dX11_told_158 rfl (lv_at hl 0 rfl) ?_
    refine g_get hX hiX11 hP 0 rfl rfl 21 (by decide) hk8 rfl rfl dX11_told_159 ?_
    cases hf
    exact hret _ _ _ _ (vp_nar_int _) hP hD hS dX11_told_162
  replace hf := o_ifn hf c21
  refine lv_tableOut (tgt := 163) hx hb dX11_told_1 (sw_out14 c1 c2 c3 c4 c5 c7 c9 c11 c13 c15 c17 c19 c20 c21) (by decide) ?_
  refine lv_ldc (v := (-1000000002 : Int32)) hx hb hown hk9 dX11_told_163 ?_
  cases hf
  exact hret _ _ _ _ (vp_nar_int _) hP hD hS dX11_told_165
def f_X11_hearer (t_hearers : Int32) (pinched : Nat → Int32) (says : Nat → Int32) (w : Nat → Int32) (x1 : Int32) (x2 : Int32) : Option (Int32) :=
  (f_X11_isHearer t_hearers x1).bind fun o1 =>
  if o1 = 0 then (some (-1000000001 : Int32))
  else (if x2 = (0 : Int32) then ((o_ld w 578 x1).bind fun v4 =>
  some v4)
  else (if x2 = (1 : Int32) then ((o_ld pinched 18 x1).bind fun v6 =>
  some v6)
  else (if x2 = (2 : Int32) then ((o_ld says 18 x1).bind fun v8 =>
  if v8 = (8 : Int32) then (some (-1 : Int32))
  else ((o_ld says 18 x1).bind fun v10 =>
  some v10))
  else (if x2 = (3 : Int32) then ((o_ld w 578 (9 : Int32)).bind fun v12 =>
  some ((v12 >>> (x1 &&& 31)) &&& (1 : Int32)))
  else (if x2 = (4 : Int32) then ((o_ld w 578 (10 : Int32)).bind fun v14 =>
  some ((v14 >>> (x1 &&& 31)) &&& (1 : Int32)))
  else (some (-1000000002 : Int32)))))))
theorem hdS_X11_hearer : yX11_hearer.cls ≠ "java/lang/invoke/MethodHandle" ∧ yX11_hearer.cls ≠ "java/lang/invoke/VarHandle" ∧ (parseMethodDescriptor yX11_hearer.desc).map (fun d => d.parameters.length) = some 2 := by decide +kernel
theorem hdV_X11_hearer : yX11_hearer.cls = RX11 ∧ yX11_hearer.cls ≠ "java/lang/invoke/MethodHandle" ∧ yX11_hearer.cls ≠ "java/lang/invoke/VarHandle" ∧ (parseMethodDescriptor yX11_hearer.desc).map (fun d => d.parameters.length) = some 2 := ⟨rfl, hdS_X11_hearer⟩
set_option maxHeartbeats 4000000 in
set_option maxRecDepth 100000 in
theorem c_X11_hearer (l : Launch) (D : va_G) (a : Nat → ClassId) (t : Nat) (q_t : Nat) (q_w : Nat) (q_isKept : Nat) (t_all : Int32) (t_corners : Int32) (t_hearers : Int32) (t_newAll : Int32) (t_newCorners : Int32) (t_newHearers : Int32) (q_beer : Nat) (q_cold : Nat) (q_stands : Nat) (q_pinched : Nat) (q_says : Nat) (q_text : Nat) (t_textSize : Int32) (t_at : Int32) (t_first : Int32) (t_faultOf : Int32) (t_fault : Int32) (t_spoke : Int32) (t_holds : Int32) (t_undoMany : Int32) (q_seenDecree : Nat) (q_seenAt : Nat) (q_seenSpoke : Nat) (t_seen : Int32) (q_inSets : Nat) (q_book : Nat) (t_written : Int32) (pinched : Nat → Int32) (says : Nat → Int32) (w : Nat → Int32) (x1 : Int32) (x2 : Int32) (r : Int32) (hf : f_X11_hearer t_hearers pinched says w x1 x2 = some r) : Ki l yX11_hearer wsX11_hearer 2 46 D a t [.ref q_t, .int x1, .int x2] [(q_t, .inr (11, [.ref q_w, .ref q_isKept, .int t_all, .int t_corners, .int t_hearers, .int t_newAll, .int t_newCorners, .int t_newHearers, .ref q_beer, .ref q_cold, .ref q_stands, .ref q_pinched, .ref q_says, .ref q_text, .int t_textSize, .int t_at, .int t_first, .int t_faultOf, .int t_fault, .int t_spoke, .int t_holds, .int t_undoMany, .ref q_seenDecree, .ref q_seenAt, .ref q_seenSpoke, .int t_seen, .ref q_inSets, .ref q_book, .int t_written])), (q_pinched, .inl (a 0, 18, .inl pinched)), (q_says, .inl (a 0, 18, .inl says)), (q_w, .inl (a 0, 578, .inl w))] [(q_t, .inr (11, [.ref q_w, .ref q_isKept, .int t_all, .int t_corners, .int t_hearers, .int t_newAll, .int t_newCorners, .int t_newHearers, .ref q_beer, .ref q_cold, .ref q_stands, .ref q_pinched, .ref q_says, .ref q_text, .int t_textSize, .int t_at, .int t_first, .int t_faultOf, .int t_fault, .int t_spoke, .int t_holds, .int t_undoMany, .ref q_seenDecree, .ref q_seenAt, .ref q_seenSpoke, .int t_seen, .ref q_inSets, .ref q_book, .int t_written])), (q_pinched, .inl (a 0, 18, .inl pinched)), (q_says, .inl (a 0, 18, .inl says)), (q_w, .inl (a 0, 578, .inl w))] r := by
  refine Ki.mk (cc := cX11_hearer) (nL := 3) (ty := .int) (own := RX11) (by decide) rfl rfl (Nat.le_of_ble_eq_true rfl) ?_
  intro p e s m args below meth c A Q ls hX hP hD hS hl hret
  have hx := hX.1.1
  have hb := hX.1.2.1
  have hown := hX.1.2.2.2.1
  have hts := hX.1.2.2.2.2
  have hN := hX.2.2.1
  have hA := hX.2.2.2.2
  have hl : lv_has ls 3 [(0, .ref q_t), (1, .int x1), (2, .int x2)] := hl
  have hk1 := hts (.constant RX11 149 (-1000000001)) (List.mem_of_getElem? (i := 1) rfl)
  have hk2 := hts (.fieldLink RX11 7 "GainsaidOnceModel" "w" "[I") (List.mem_of_getElem? (i := 2) rfl)
  have hk3 := hts (.fieldLink RX11 26 "GainsaidOnceModel" "pinched" "[I") (List.mem_of_getElem? (i := 3) rfl)
  have hk4 := hts (.fieldLink RX11 29 "GainsaidOnceModel" "says" "[I") (List.mem_of_getElem? (i := 4) rfl)
  have hk5 := hts (.constant RX11 64 (-1000000002)) (List.mem_of_getElem? (i := 5) rfl)
  have hiX11 : ∀ w ∈ wsX110, w ∈ wsX11_hearer := (fun _ h => List.mem_cons_of_mem _ (List.mem_append_right _ h))
  unfold f_X11_hearer at hf
  refine lv_aload_n hx hb dX11_hearer_0 rfl (lv_at hl 0 rfl) ?_
  refine lv_iload_n hx hb dX11_hearer_1 rfl (lv_at hl 1 rfl) ?_
  obtain ⟨o1, ho1, hf⟩ := o_bd hf
  refine call_iV (q0 := 0) (ci := 11) hX (c_X11_isHearer l D a t q_t q_w q_isKept t_all t_corners t_hearers t_newAll t_newCorners t_newHearers q_beer q_cold q_stands q_pinched q_says q_text t_textSize t_at t_first t_faultOf t_fault t_spoke t_holds t_undoMany q_seenDecree q_seenAt q_seenSpoke t_seen q_inSets q_book t_written x1 o1 ho1) (cwV 1 hts gX11_hearer_X11_isHearer rfl rfl rfl hdV_X11_isHearer ⟨by decide, by decide⟩) (Cut.of hA hP hD hS [0] (by decide) rfl rfl (W' := [(q_t, .inr (11, [.ref q_w, .ref q_isKept, .int t_all, .int t_corners, .int t_hearers, .int t_newAll, .int t_newCorners, .int t_newHearers, .ref q_beer, .ref q_cold, .ref q_stands, .ref q_pinched, .ref q_says, .ref q_text, .int t_textSize, .int t_at, .int t_first, .int t_faultOf, .int t_fault, .int t_spoke, .int t_holds, .int t_undoMany, .ref q_seenDecree, .ref q_seenAt, .ref q_seenSpoke, .int t_seen, .ref q_inSets, .ref q_book, .int t_written])), (q_pinched, .inl (a 0, 18, .inl pinched)), (q_says, .inl (a 0, 18, .inl says)), (q_w, .inl (a 0, 578, .inl w))]) rfl) hS rfl rfl rfl hl.1 rfl (Nat.le_of_ble_eq_true rfl) dX11_hearer_2 (by decide) (fun H locs hP hD hS => ?_)
  replace hP : va_P D vwCl [(q_t, .inr (11, [.ref q_w, .ref q_isKept, .int t_all, .int t_corners, .int t_hearers, .int t_newAll, .int t_newCorners, .int t_newHearers, .ref q_beer, .ref q_cold, .ref q_stands, .ref q_pinched, .ref q_says, .ref q_text, .int t_textSize, .int t_at, .int t_first, .int t_faultOf, .int t_fault, .int t_spoke, .int t_holds, .int t_undoMany, .ref q_seenDecree, .ref q_seenAt, .ref q_seenSpoke, .int t_seen, .ref q_inSets, .ref q_book, .int t_written])), (q_pinched, .inl (a 0, 18, .inl pinched)), (q_says, .inl (a 0, 18, .inl says)), (q_w, .inl (a 0, 578, .inl w))] H := hP
  replace hD : va_D A [(q_t, .inr (11, [.ref q_w, .ref q_isKept, .int t_all, .int t_corners, .int t_hearers, .int t_newAll, .int t_newCorners, .int t_newHearers, .ref q_beer, .ref q_cold, .ref q_stands, .ref q_pinched, .ref q_says, .ref q_text, .int t_textSize, .int t_at, .int t_first, .int t_faultOf, .int t_fault, .int t_spoke, .int t_holds, .int t_undoMany, .ref q_seenDecree, .ref q_seenAt, .ref q_seenSpoke, .int t_seen, .ref q_inSets, .ref q_book, .int t_written])), (q_pinched, .inl (a 0, 18, .inl pinched)), (q_says, .inl (a 0, 18, .inl says)), (q_w, .inl (a 0, 578, .inl w))] := hD
  refine lv_if_ne (tgt := 11) hx hb dX11_hearer_5 (by decide) (fun c2 => ?_) (fun c2 => ?_)
  · replace hf := o_ifn hf c2
    refine lv_iload_n hx hb dX11_hearer_11 rfl (lv_at hl 2 rfl) ?_
    by_cases c3 : x2 = (0 : Int32)
    · refine lv_tableIn (tgt := 48) hx hb dX11_hearer_12 (by rw [c3]; decide) (by rw [c3]; decide) (by rw [c3]; rfl) (by decide) ?_
      replace hf := o_ifp hf c3
      refine lv_aload_n hx hb dX11_hearer_48 rfl (lv_at hl 0 rfl) ?_
      refine g_get hX hiX11 hP 0 rfl rfl 0 (by decide) hk2 rfl rfl dX11_hearer_49 ?_
      refine lv_iload_n hx hb dX11_hearer_52 rfl (lv_at hl 1 rfl) ?_
      obtain ⟨hiv4, hf⟩ := o_ldh hf
      refine g_iald hX hP 3 rfl hiv4 dX11_hearer_53 (fun v4 ev4 => ?_)
      replace hf := hf v4 ev4
      cases hf
      exact hret _ _ _ _ (vp_nar_int _) hP hD hS dX11_hearer_54
    replace hf := o_ifn hf c3
    by_cases c5 : x2 = (1 : Int32)
    · refine lv_tableIn (tgt := 55) hx hb dX11_hearer_12 (by rw [c5]; decide) (by rw [c5]; decide) (by rw [c5]; rfl) (by decide) ?_
      replace hf := o_ifp hf c5
      refine lv_aload_n hx hb dX11_hearer_55 rfl (lv_at hl 0 rfl) ?_
      refine g_get hX hiX11 hP 0 rfl rfl 11 (by decide) hk3 rfl rfl dX11_hearer_56 ?_
      refine lv_iload_n hx hb dX11_hearer_59 rfl (lv_at hl 1 rfl) ?_
      obtain ⟨hiv6, hf⟩ := o_ldh hf
      refine g_iald hX hP 1 rfl hiv6 dX11_hearer_60 (fun v6 ev6 => ?_)
      replace hf := hf v6 ev6
      cases hf
      exact hret _ _ _ _ (vp_nar_int _) hP hD hS dX11_hearer_61
    replace hf := o_ifn hf c5
    by_cases c7 : x2 = (2 : Int32)
    · refine lv_tableIn (tgt := 62) hx hb dX11_hearer_12 (by rw [c7]; decide) (by rw [c7]; decide) (by rw [c7]; rfl) (by decide) ?_
      replace hf := o_ifp hf c7
      refine lv_aload_n hx hb dX11_hearer_62 rfl (lv_at hl 0 rfl) ?_
      refine g_get hX hiX11 hP 0 rfl rfl 12 (by decide) hk4 rfl rfl dX11_hearer_63 ?_
      refine lv_iload_n hx hb dX11_hearer_66 rfl (lv_at hl 1 rfl) ?_
      obtain ⟨hiv8, hf⟩ := o_ldh hf
      refine g_iald hX hP 2 rfl hiv8 dX11_hearer_67 (fun v8 ev8 => ?_)
      replace hf := hf v8 ev8
      refine lv_bipush (v := (8 : Int32)) hx hb dX11_hearer_68 (by decide) ?_
      refine lv_icmp_ne (tgt := 77) hx hb dX11_hearer_70 (by decide) (fun c9 => ?_) (fun c9 => ?_)
      · replace hf := o_ifn hf c9
        refine lv_aload_n hx hb dX11_hearer_77 rfl (lv_at hl 0 rfl) ?_
        refine g_get hX hiX11 hP 0 rfl rfl 12 (by decide) hk4 rfl rfl dX11_hearer_78 ?_
        refine lv_iload_n hx hb dX11_hearer_81 rfl (lv_at hl 1 rfl) ?_
        obtain ⟨hiv10, hf⟩ := o_ldh hf
        refine g_iald hX hP 2 rfl hiv10 dX11_hearer_82 (fun v10 ev10 => ?_)
        replace hf := hf v10 ev10
        cases hf
        exact hret _ _ _ _ (vp_nar_int _) hP hD hS dX11_hearer_83
      replace hf := o_ifp hf c9
      refine lv_iconst (v := (-1 : Int32)) hx hb dX11_hearer_73 (by decide) ?_
      refine lv_goto (tgt := 83) hx hb dX11_hearer_74 (by decide) ?_
      cases hf
      exact hret _ _ _ _ (vp_nar_int _) hP hD hS dX11_hearer_83
    replace hf := o_ifn hf c7
    by_cases c11 : x2 = (3 : Int32)
    · refine lv_tableIn (tgt := 84) hx hb dX11_hearer_12 (by rw [c11]; decide) (by rw [c11]; decide) (by rw [c11]; rfl) (by decide) ?_
      replace hf := o_ifp hf c11
      refine lv_aload_n hx hb dX11_hearer_84 rfl (lv_at hl 0 rfl) ?_
      refine g_get hX hiX11 hP 0 rfl rfl 0 (by decide) hk2 rfl rfl dX11_hearer_85 ?_
      refine lv_bipush (v := (9 : Int32)) hx hb dX11_hearer_88 (by decide) ?_
      obtain ⟨hiv12, hf⟩ := o_ldh hf
      refine g_iald hX hP 3 rfl hiv12 dX11_hearer_90 (fun v12 ev12 => ?_)
      replace hf := hf v12 ev12
      refine lv_iload_n hx hb dX11_hearer_91 rfl (lv_at hl 1 rfl) ?_
      refine lv_ishr hx hb dX11_hearer_92 ?_
      refine lv_iconst (v := (1 : Int32)) hx hb dX11_hearer_93 (by decide) ?_
      refine lv_iand hx hb dX11_hearer_94 ?_
      cases hf
      exact hret _ _ _ _ (vp_nar_int _) hP hD hS dX11_hearer_95
    replace hf := o_ifn hf c11
    by_cases c13 : x2 = (4 : Int32)
    · refine lv_tableIn (tgt := 96) hx hb dX11_hearer_12 (by rw [c13]; decide) (by rw [c13]; decide) (by rw [c13]; rfl) (by decide) ?_
      replace hf := o_ifp hf c13
      refine lv_aload_n hx hb dX11_hearer_96 rfl (lv_at hl 0 rfl) ?_
      refine g_get hX hiX11 hP 0 rfl rfl 0 (by decide) hk2 rfl rfl dX11_hearer_97 ?_
      refine lv_bipush (v := (10 : Int32)) hx hb dX11_hearer_100 (by decide) ?_
      obtain ⟨hiv14, hf⟩ := o_ldh hf
      refine g_iald hX hP 3 rfl hiv14 dX11_hearer_102 (fun v14 ev14 => ?_)
      replace hf := hf v14 ev14
      refine lv_iload_n hx hb dX11_hearer_103 rfl (lv_at hl 1 rfl) ?_
      refine lv_ishr hx hb dX11_hearer_104 ?_
      refine lv_iconst (v := (1 : Int32)) hx hb dX11_hearer_105 (by decide) ?_
      refine lv_iand hx hb dX11_hearer_106 ?_
      cases hf
      exact hret _ _ _ _ (vp_nar_int _) hP hD hS dX11_hearer_107
    replace hf := o_ifn hf c13
    refine lv_tableOut (tgt := 108) hx hb dX11_hearer_12 (sw_out5 c3 c5 c7 c11 c13) (by decide) ?_
    refine lv_ldc (v := (-1000000002 : Int32)) hx hb hown hk5 dX11_hearer_108 ?_
    cases hf
    exact hret _ _ _ _ (vp_nar_int _) hP hD hS dX11_hearer_110
  replace hf := o_ifp hf c2
  refine lv_ldc (v := (-1000000001 : Int32)) hx hb hown hk1 dX11_hearer_8 ?_
  cases hf
  exact hret _ _ _ _ (vp_nar_int _) hP hD hS dX11_hearer_10
def f_X11_standing_33 (t_hearers : Int32) (w : Nat → Int32) (k_5 : Int32 → Int32 → Int32 → Int32 → Option (Int32)) (x1 : Int32) (x2 : Int32) (x4 : Int32) (s0 : Int32) (s1 : Int32) : Option (Int32) :=
  (f_X11_one s1).bind fun o1 =>
  o_nm ((s0 ||| (o1 <<< (x4 &&& 31)))) fun v2 =>
  o_nm (x4 + (1 : Int32)) fun v3 =>
  k_5 x1 x2 v2 v3
def f_X11_standing_5 (t_hearers : Int32) (w : Nat → Int32) : Nat → Int32 → Int32 → Int32 → Int32 → Option (Int32)
  | 0, _, _, _, _ => none
  | n_5 + 1, x1, x2, x3, x4 =>
    if t_hearers ≤ x4 then (some x3)
    else ((o_ld w 578 (x1 + x4)).bind fun v5 =>
    if v5 = x2 then (f_X11_standing_33 t_hearers w (f_X11_standing_5 t_hearers w n_5) x1 x2 x4 x3 (1 : Int32))
    else (f_X11_standing_33 t_hearers w (f_X11_standing_5 t_hearers w n_5) x1 x2 x4 x3 (0 : Int32)))
def f_X11_standing (t_hearers : Int32) (w : Nat → Int32) (x1 : Int32) (x2 : Int32) : Option (Int32) :=
  f_X11_standing_5 t_hearers w 1000 x1 x2 (0 : Int32) (0 : Int32)
theorem hdS_X11_standing : yX11_standing.cls ≠ "java/lang/invoke/MethodHandle" ∧ yX11_standing.cls ≠ "java/lang/invoke/VarHandle" ∧ (parseMethodDescriptor yX11_standing.desc).map (fun d => d.parameters.length) = some 2 := by decide +kernel
theorem hdV_X11_standing : yX11_standing.cls = RX11 ∧ yX11_standing.cls ≠ "java/lang/invoke/MethodHandle" ∧ yX11_standing.cls ≠ "java/lang/invoke/VarHandle" ∧ (parseMethodDescriptor yX11_standing.desc).map (fun d => d.parameters.length) = some 2 := ⟨rfl, hdS_X11_standing⟩
set_option maxHeartbeats 4000000 in
set_option maxRecDepth 100000 in
theorem c_X11_standing (l : Launch) (D : va_G) (a : Nat → ClassId) (t : Nat) (q_t : Nat) (q_w : Nat) (q_isKept : Nat) (t_all : Int32) (t_corners : Int32) (t_hearers : Int32) (t_newAll : Int32) (t_newCorners : Int32) (t_newHearers : Int32) (q_beer : Nat) (q_cold : Nat) (q_stands : Nat) (q_pinched : Nat) (q_says : Nat) (q_text : Nat) (t_textSize : Int32) (t_at : Int32) (t_first : Int32) (t_faultOf : Int32) (t_fault : Int32) (t_spoke : Int32) (t_holds : Int32) (t_undoMany : Int32) (q_seenDecree : Nat) (q_seenAt : Nat) (q_seenSpoke : Nat) (t_seen : Int32) (q_inSets : Nat) (q_book : Nat) (t_written : Int32) (w : Nat → Int32) (x1 : Int32) (x2 : Int32) (r : Int32) (hf : f_X11_standing t_hearers w x1 x2 = some r) : Ki l yX11_standing wsX11_standing 1 20 D a t [.ref q_t, .int x1, .int x2] [(q_t, .inr (11, [.ref q_w, .ref q_isKept, .int t_all, .int t_corners, .int t_hearers, .int t_newAll, .int t_newCorners, .int t_newHearers, .ref q_beer, .ref q_cold, .ref q_stands, .ref q_pinched, .ref q_says, .ref q_text, .int t_textSize, .int t_at, .int t_first, .int t_faultOf, .int t_fault, .int t_spoke, .int t_holds, .int t_undoMany, .ref q_seenDecree, .ref q_seenAt, .ref q_seenSpoke, .int t_seen, .ref q_inSets, .ref q_book, .int t_written])), (q_w, .inl (a 0, 578, .inl w))] [(q_t, .inr (11, [.ref q_w, .ref q_isKept, .int t_all, .int t_corners, .int t_hearers, .int t_newAll, .int t_newCorners, .int t_newHearers, .ref q_beer, .ref q_cold, .ref q_stands, .ref q_pinched, .ref q_says, .ref q_text, .int t_textSize, .int t_at, .int t_first, .int t_faultOf, .int t_fault, .int t_spoke, .int t_holds, .int t_undoMany, .ref q_seenDecree, .ref q_seenAt, .ref q_seenSpoke, .int t_seen, .ref q_inSets, .ref q_book, .int t_written])), (q_w, .inl (a 0, 578, .inl w))] r := by
  refine Ki.mk (cc := cX11_standing) (nL := 5) (ty := .int) (own := RX11) (by decide) rfl rfl (Nat.le_of_ble_eq_true rfl) ?_
  intro p e s m args below meth c A Q ls hX hP hD hS hl hret
  have hx := hX.1.1
  have hb := hX.1.2.1
  have hown := hX.1.2.2.2.1
  have hts := hX.1.2.2.2.2
  have hN := hX.2.2.1
  have hA := hX.2.2.2.2
  have hl : lv_has ls 5 [(0, .ref q_t), (1, .int x1), (2, .int x2)] := hl
  have hk1 := hts (.fieldLink RX11 129 "GainsaidOnceModel" "hearers" "I") (List.mem_of_getElem? (i := 1) rfl)
  have hk2 := hts (.fieldLink RX11 7 "GainsaidOnceModel" "w" "[I") (List.mem_of_getElem? (i := 2) rfl)
  have hiX11 : ∀ w ∈ wsX110, w ∈ wsX11_standing := (fun _ h => List.mem_cons_of_mem _ (List.mem_append_right _ h))
  have L_5 : ∀ (n_5 : Nat) (x1 : Int32) (x2 : Int32) (x3 : Int32) (x4 : Int32) (H : Heap) (locs : List Loc) (ls : Array Slot), f_X11_standing_5 t_hearers w n_5 x1 x2 x3 x4 = some r → va_P D vwCl [(q_t, .inr (11, [.ref q_w, .ref q_isKept, .int t_all, .int t_corners, .int t_hearers, .int t_newAll, .int t_newCorners, .int t_newHearers, .ref q_beer, .ref q_cold, .ref q_stands, .ref q_pinched, .ref q_says, .ref q_text, .int t_textSize, .int t_at, .int t_first, .int t_faultOf, .int t_fault, .int t_spoke, .int t_holds, .int t_undoMany, .ref q_seenDecree, .ref q_seenAt, .ref q_seenSpoke, .int t_seen, .ref q_inSets, .ref q_book, .int t_written])), (q_w, .inl (a 0, 578, .inl w))] H → va_D A [(q_t, .inr (11, [.ref q_w, .ref q_isKept, .int t_all, .int t_corners, .int t_hearers, .int t_newAll, .int t_newCorners, .int t_newHearers, .ref q_beer, .ref q_cold, .ref q_stands, .ref q_pinched, .ref q_says, .ref q_text, .int t_textSize, .int t_at, .int t_first, .int t_faultOf, .int t_fault, .int t_spoke, .int t_holds, .int t_undoMany, .ref q_seenDecree, .ref q_seenAt, .ref q_seenSpoke, .int t_seen, .ref q_inSets, .ref q_book, .int t_written])), (q_w, .inl (a 0, 578, .inl w))] → va_S A s.heap H locs → lv_has ls 5 [(0, .ref q_t), (1, .int x1), (2, .int x2), (3, .int x3), (4, .int x4)] → W p l e { frames := 1, cells := 0, slots := 0, locals := 20 } s m args below meth c H locs 0 0 Q (F0 m 5 ls []) := by
    intro n_5
    induction n_5 with
    | zero => intro x1 x2 x3 x4 H locs ls hf hP hD hS hl; rw [f_X11_standing_5] at hf; cases hf
    | succ n_5 ih_5 =>
      have L_33 : ∀ (x1 : Int32) (x2 : Int32) (x4 : Int32) (s0 : Int32) (s1 : Int32) (H : Heap) (locs : List Loc) (ls : Array Slot), f_X11_standing_33 t_hearers w (f_X11_standing_5 t_hearers w n_5) x1 x2 x4 s0 s1 = some r → va_P D vwCl [(q_t, .inr (11, [.ref q_w, .ref q_isKept, .int t_all, .int t_corners, .int t_hearers, .int t_newAll, .int t_newCorners, .int t_newHearers, .ref q_beer, .ref q_cold, .ref q_stands, .ref q_pinched, .ref q_says, .ref q_text, .int t_textSize, .int t_at, .int t_first, .int t_faultOf, .int t_fault, .int t_spoke, .int t_holds, .int t_undoMany, .ref q_seenDecree, .ref q_seenAt, .ref q_seenSpoke, .int t_seen, .ref q_inSets, .ref q_book, .int t_written])), (q_w, .inl (a 0, 578, .inl w))] H → va_D A [(q_t, .inr (11, [.ref q_w, .ref q_isKept, .int t_all, .int t_corners, .int t_hearers, .int t_newAll, .int t_newCorners, .int t_newHearers, .ref q_beer, .ref q_cold, .ref q_stands, .ref q_pinched, .ref q_says, .ref q_text, .int t_textSize, .int t_at, .int t_first, .int t_faultOf, .int t_fault, .int t_spoke, .int t_holds, .int t_undoMany, .ref q_seenDecree, .ref q_seenAt, .ref q_seenSpoke, .int t_seen, .ref q_inSets, .ref q_book, .int t_written])), (q_w, .inl (a 0, 578, .inl w))] → va_S A s.heap H locs → lv_has ls 5 [(0, .ref q_t), (1, .int x1), (2, .int x2), (4, .int x4)] → W p l e { frames := 1, cells := 0, slots := 0, locals := 20 } s m args below meth c H locs 0 0 Q (F0 m 33 ls [.int s1, .int s0]) := by
        intro x1 x2 x4 s0 s1 H locs ls hf hP hD hS hl
        unfold f_X11_standing_33 at hf
        obtain ⟨o1, ho1, hf⟩ := o_bd hf
        refine call_iS hX (c_X11_one l D a t s1 o1 ho1) (va_cwS 1 hts gX11_standing_X11_one rfl rfl rfl hdS_X11_one ⟨by decide, by decide⟩) (Cut.none hA hP hD hS) hS rfl hl.1 rfl (Nat.le_of_ble_eq_true rfl) dX11_standing_33 (by decide) (fun H locs hP hD hS => ?_)
        refine lv_iload hx hb dX11_standing_36 (lv_at hl 3 rfl) ?_
        refine lv_ishl hx hb dX11_standing_38 ?_
        refine lv_ior hx hb dX11_standing_39 ?_
        refine lv_topi (fun v2 ev2 => ?_)
        replace hf := o_nmh hf v2 ev2
        refine lv_istore_n (lv' := [(3, .int v2), (0, .ref q_t), (1, .int x1), (2, .int x2), (4, .int x4)]) hx hb dX11_standing_40 rfl hl (by decide) rfl (fun ls hl => ?_)
        obtain ⟨v3, ev3⟩ : ∃ y : Int32, y = x4 + (1 : Int32) := ⟨_, rfl⟩
        replace hf := o_nmh hf v3 ev3
        refine lv_iinc (v := v3) (lv' := [(4, .int v3), (3, .int v2), (0, .ref q_t), (1, .int x1), (2, .int x2)]) hx hb dX11_standing_41 hl (k := 4) rfl (by rw [ev3]; rfl) (by decide) rfl (fun ls hl => ?_)
        refine lv_goto (tgt := 5) hx hb dX11_standing_44 (by decide) ?_
        exact ih_5 x1 x2 v2 v3 _ _ _ hf hP hD hS (lv_sub hl [2, 3, 4, 1, 0] rfl)
      intro x1 x2 x3 x4 H locs ls hf hP hD hS hl
      rw [f_X11_standing_5] at hf
      refine lv_iload hx hb dX11_standing_5 (lv_at hl 4 rfl) ?_
      refine lv_aload_n hx hb dX11_standing_7 rfl (lv_at hl 0 rfl) ?_
      refine g_get hX hiX11 hP 0 rfl rfl 4 (by decide) hk1 rfl rfl dX11_standing_8 ?_
      refine lv_icmp_ge (tgt := 47) hx hb dX11_standing_11 (by decide) (fun c4 => ?_) (fun c4 => ?_)
      · replace hf := o_ifp hf c4
        refine lv_iload_n hx hb dX11_standing_47 rfl (lv_at hl 3 rfl) ?_
        cases hf
        exact hret _ _ _ _ (vp_nar_int _) hP hD hS dX11_standing_48
      replace hf := o_ifn hf c4
      refine lv_iload_n hx hb dX11_standing_14 rfl (lv_at hl 3 rfl) ?_
      refine lv_aload_n hx hb dX11_standing_15 rfl (lv_at hl 0 rfl) ?_
      refine g_get hX hiX11 hP 0 rfl rfl 0 (by decide) hk2 rfl rfl dX11_standing_16 ?_
      refine lv_iload_n hx hb dX11_standing_19 rfl (lv_at hl 1 rfl) ?_
      refine lv_iload hx hb dX11_standing_20 (lv_at hl 4 rfl) ?_
      refine lv_iadd hx hb dX11_standing_22 ?_
      obtain ⟨hiv5, hf⟩ := o_ldh hf
      refine g_iald hX hP 1 rfl hiv5 dX11_standing_23 (fun v5 ev5 => ?_)
      replace hf := hf v5 ev5
      refine lv_iload_n hx hb dX11_standing_24 rfl (lv_at hl 2 rfl) ?_
      refine lv_icmp_ne (tgt := 32) hx hb dX11_standing_25 (by decide) (fun c6 => ?_) (fun c6 => ?_)
      · replace hf := o_ifn hf c6
        refine lv_iconst (v := (0 : Int32)) hx hb dX11_standing_32 (by decide) ?_
        exact L_33 x1 x2 x4 x3 (0 : Int32) _ _ _ hf hP hD hS (lv_sub hl [0, 1, 2, 4] rfl)
      replace hf := o_ifp hf c6
      refine lv_iconst (v := (1 : Int32)) hx hb dX11_standing_28 (by decide) ?_
      refine lv_goto (tgt := 33) hx hb dX11_standing_29 (by decide) ?_
      exact L_33 x1 x2 x4 x3 (1 : Int32) _ _ _ hf hP hD hS (lv_sub hl [0, 1, 2, 4] rfl)
  unfold f_X11_standing at hf
  refine lv_iconst (v := (0 : Int32)) hx hb dX11_standing_0 (by decide) ?_
  refine lv_istore_n (lv' := [(3, .int (0 : Int32)), (0, .ref q_t), (1, .int x1), (2, .int x2)]) hx hb dX11_standing_1 rfl hl (by decide) rfl (fun ls hl => ?_)
  refine lv_iconst (v := (0 : Int32)) hx hb dX11_standing_2 (by decide) ?_
  refine lv_istore (lv' := [(4, .int (0 : Int32)), (3, .int (0 : Int32)), (0, .ref q_t), (1, .int x1), (2, .int x2)]) hx hb dX11_standing_3 hl (by decide) rfl (fun ls hl => ?_)
  exact L_5 1000 x1 x2 (0 : Int32) (0 : Int32) _ _ _ hf hP hD hS (lv_sub hl [2, 3, 4, 1, 0] rfl)
def f_X11_corner (t_corners : Int32) (t_hearers : Int32) (beer : Nat → Int32) (w : Nat → Int32) (x1 : Int32) (x2 : Int32) : Option (Int32) :=
  (f_X11_isCorner t_corners x1).bind fun o1 =>
  if o1 = 0 then (some (-1000000001 : Int32))
  else (if x2 = 0 then ((o_ld beer 16 x1).bind fun v8 =>
  some v8)
  else (if x2 = (1 : Int32) then ((o_ld w 578 (11 : Int32)).bind fun v7 =>
  some ((v7 >>> (x1 &&& 31)) &&& (1 : Int32)))
  else (if x2 = (2 : Int32) then ((f_X11_standing t_hearers w (0 : Int32) x1).bind fun o6 =>
  some o6)
  else (some (-1000000002 : Int32)))))
theorem hdS_X11_corner : yX11_corner.cls ≠ "java/lang/invoke/MethodHandle" ∧ yX11_corner.cls ≠ "java/lang/invoke/VarHandle" ∧ (parseMethodDescriptor yX11_corner.desc).map (fun d => d.parameters.length) = some 2 := by decide +kernel
theorem hdV_X11_corner : yX11_corner.cls = RX11 ∧ yX11_corner.cls ≠ "java/lang/invoke/MethodHandle" ∧ yX11_corner.cls ≠ "java/lang/invoke/VarHandle" ∧ (parseMethodDescriptor yX11_corner.desc).map (fun d => d.parameters.length) = some 2 := ⟨rfl, hdS_X11_corner⟩
set_option maxHeartbeats 4000000 in
set_option maxRecDepth 100000 in
theorem c_X11_corner (l : Launch) (D : va_G) (a : Nat → ClassId) (t : Nat) (q_t : Nat) (q_w : Nat) (q_isKept : Nat) (t_all : Int32) (t_corners : Int32) (t_hearers : Int32) (t_newAll : Int32) (t_newCorners : Int32) (t_newHearers : Int32) (q_beer : Nat) (q_cold : Nat) (q_stands : Nat) (q_pinched : Nat) (q_says : Nat) (q_text : Nat) (t_textSize : Int32) (t_at : Int32) (t_first : Int32) (t_faultOf : Int32) (t_fault : Int32) (t_spoke : Int32) (t_holds : Int32) (t_undoMany : Int32) (q_seenDecree : Nat) (q_seenAt : Nat) (q_seenSpoke : Nat) (t_seen : Int32) (q_inSets : Nat) (q_book : Nat) (t_written : Int32) (beer : Nat → Int32) (w : Nat → Int32) (x1 : Int32) (x2 : Int32) (r : Int32) (hf : f_X11_corner t_corners t_hearers beer w x1 x2 = some r) : Ki l yX11_corner wsX11_corner 2 46 D a t [.ref q_t, .int x1, .int x2] [(q_t, .inr (11, [.ref q_w, .ref q_isKept, .int t_all, .int t_corners, .int t_hearers, .int t_newAll, .int t_newCorners, .int t_newHearers, .ref q_beer, .ref q_cold, .ref q_stands, .ref q_pinched, .ref q_says, .ref q_text, .int t_textSize, .int t_at, .int t_first, .int t_faultOf, .int t_fault, .int t_spoke, .int t_holds, .int t_undoMany, .ref q_seenDecree, .ref q_seenAt, .ref q_seenSpoke, .int t_seen, .ref q_inSets, .ref q_book, .int t_written])), (q_beer, .inl (a 0, 16, .inl beer)), (q_w, .inl (a 0, 578, .inl w))] [(q_t, .inr (11, [.ref q_w, .ref q_isKept, .int t_all, .int t_corners, .int t_hearers, .int t_newAll, .int t_newCorners, .int t_newHearers, .ref q_beer, .ref q_cold, .ref q_stands, .ref q_pinched, .ref q_says, .ref q_text, .int t_textSize, .int t_at, .int t_first, .int t_faultOf, .int t_fault, .int t_spoke, .int t_holds, .int t_undoMany, .ref q_seenDecree, .ref q_seenAt, .ref q_seenSpoke, .int t_seen, .ref q_inSets, .ref q_book, .int t_written])), (q_beer, .inl (a 0, 16, .inl beer)), (q_w, .inl (a 0, 578, .inl w))] r := by
  refine Ki.mk (cc := cX11_corner) (nL := 3) (ty := .int) (own := RX11) (by decide) rfl rfl (Nat.le_of_ble_eq_true rfl) ?_
  intro p e s m args below meth c A Q ls hX hP hD hS hl hret
  have hx := hX.1.1
  have hb := hX.1.2.1
  have hown := hX.1.2.2.2.1
  have hts := hX.1.2.2.2.2
  have hN := hX.2.2.1
  have hA := hX.2.2.2.2
  have hl : lv_has ls 3 [(0, .ref q_t), (1, .int x1), (2, .int x2)] := hl
  have hk1 := hts (.constant RX11 149 (-1000000001)) (List.mem_of_getElem? (i := 1) rfl)
  have hk2 := hts (.fieldLink RX11 17 "GainsaidOnceModel" "beer" "[I") (List.mem_of_getElem? (i := 2) rfl)
  have hk3 := hts (.fieldLink RX11 7 "GainsaidOnceModel" "w" "[I") (List.mem_of_getElem? (i := 3) rfl)
  have hk4 := hts (.constant RX11 64 (-1000000002)) (List.mem_of_getElem? (i := 4) rfl)
  have hiX11 : ∀ w ∈ wsX110, w ∈ wsX11_corner := (fun _ h => List.mem_cons_of_mem _ (List.mem_append_right _ h))
  unfold f_X11_corner at hf
  refine lv_aload_n hx hb dX11_corner_0 rfl (lv_at hl 0 rfl) ?_
  refine lv_iload_n hx hb dX11_corner_1 rfl (lv_at hl 1 rfl) ?_
  obtain ⟨o1, ho1, hf⟩ := o_bd hf
  refine call_iV (q0 := 0) (ci := 11) hX (c_X11_isCorner l D a t q_t q_w q_isKept t_all t_corners t_hearers t_newAll t_newCorners t_newHearers q_beer q_cold q_stands q_pinched q_says q_text t_textSize t_at t_first t_faultOf t_fault t_spoke t_holds t_undoMany q_seenDecree q_seenAt q_seenSpoke t_seen q_inSets q_book t_written x1 o1 ho1) (cwV 1 hts gX11_corner_X11_isCorner rfl rfl rfl hdV_X11_isCorner ⟨by decide, by decide⟩) (Cut.of hA hP hD hS [0] (by decide) rfl rfl (W' := [(q_t, .inr (11, [.ref q_w, .ref q_isKept, .int t_all, .int t_corners, .int t_hearers, .int t_newAll, .int t_newCorners, .int t_newHearers, .ref q_beer, .ref q_cold, .ref q_stands, .ref q_pinched, .ref q_says, .ref q_text, .int t_textSize, .int t_at, .int t_first, .int t_faultOf, .int t_fault, .int t_spoke, .int t_holds, .int t_undoMany, .ref q_seenDecree, .ref q_seenAt, .ref q_seenSpoke, .int t_seen, .ref q_inSets, .ref q_book, .int t_written])), (q_beer, .inl (a 0, 16, .inl beer)), (q_w, .inl (a 0, 578, .inl w))]) rfl) hS rfl rfl rfl hl.1 rfl (Nat.le_of_ble_eq_true rfl) dX11_corner_2 (by decide) (fun H locs hP hD hS => ?_)
  replace hP : va_P D vwCl [(q_t, .inr (11, [.ref q_w, .ref q_isKept, .int t_all, .int t_corners, .int t_hearers, .int t_newAll, .int t_newCorners, .int t_newHearers, .ref q_beer, .ref q_cold, .ref q_stands, .ref q_pinched, .ref q_says, .ref q_text, .int t_textSize, .int t_at, .int t_first, .int t_faultOf, .int t_fault, .int t_spoke, .int t_holds, .int t_undoMany, .ref q_seenDecree, .ref q_seenAt, .ref q_seenSpoke, .int t_seen, .ref q_inSets, .ref q_book, .int t_written])), (q_beer, .inl (a 0, 16, .inl beer)), (q_w, .inl (a 0, 578, .inl w))] H := hP
  replace hD : va_D A [(q_t, .inr (11, [.ref q_w, .ref q_isKept, .int t_all, .int t_corners, .int t_hearers, .int t_newAll, .int t_newCorners, .int t_newHearers, .ref q_beer, .ref q_cold, .ref q_stands, .ref q_pinched, .ref q_says, .ref q_text, .int t_textSize, .int t_at, .int t_first, .int t_faultOf, .int t_fault, .int t_spoke, .int t_holds, .int t_undoMany, .ref q_seenDecree, .ref q_seenAt, .ref q_seenSpoke, .int t_seen, .ref q_inSets, .ref q_book, .int t_written])), (q_beer, .inl (a 0, 16, .inl beer)), (q_w, .inl (a 0, 578, .inl w))] := hD
  refine lv_if_ne (tgt := 11) hx hb dX11_corner_5 (by decide) (fun c2 => ?_) (fun c2 => ?_)
  · replace hf := o_ifn hf c2
    refine lv_iload_n hx hb dX11_corner_11 rfl (lv_at hl 2 rfl) ?_
    refine lv_if_ne (tgt := 24) hx hb dX11_corner_12 (by decide) (fun c3 => ?_) (fun c3 => ?_)
    · replace hf := o_ifn hf c3
      refine lv_iload_n hx hb dX11_corner_24 rfl (lv_at hl 2 rfl) ?_
      refine lv_iconst (v := (1 : Int32)) hx hb dX11_corner_25 (by decide) ?_
      refine lv_icmp_ne (tgt := 43) hx hb dX11_corner_26 (by decide) (fun c4 => ?_) (fun c4 => ?_)
      · replace hf := o_ifn hf c4
        refine lv_iload_n hx hb dX11_corner_43 rfl (lv_at hl 2 rfl) ?_
        refine lv_iconst (v := (2 : Int32)) hx hb dX11_corner_44 (by decide) ?_
        refine lv_icmp_ne (tgt := 57) hx hb dX11_corner_45 (by decide) (fun c5 => ?_) (fun c5 => ?_)
        · replace hf := o_ifn hf c5
          refine lv_ldc (v := (-1000000002 : Int32)) hx hb hown hk4 dX11_corner_57 ?_
          cases hf
          exact hret _ _ _ _ (vp_nar_int _) hP hD hS dX11_corner_59
        replace hf := o_ifp hf c5
        refine lv_aload_n hx hb dX11_corner_48 rfl (lv_at hl 0 rfl) ?_
        refine lv_iconst (v := (0 : Int32)) hx hb dX11_corner_49 (by decide) ?_
        refine lv_iload_n hx hb dX11_corner_50 rfl (lv_at hl 1 rfl) ?_
        obtain ⟨o6, ho6, hf⟩ := o_bd hf
        refine call_iV (q0 := 0) (ci := 11) hX (c_X11_standing l D a t q_t q_w q_isKept t_all t_corners t_hearers t_newAll t_newCorners t_newHearers q_beer q_cold q_stands q_pinched q_says q_text t_textSize t_at t_first t_faultOf t_fault t_spoke t_holds t_undoMany q_seenDecree q_seenAt q_seenSpoke t_seen q_inSets q_book t_written w (0 : Int32) x1 o6 ho6) (cwV 2 hts gX11_corner_X11_standing rfl rfl rfl hdV_X11_standing ⟨by decide, by decide⟩) (Cut.of hA hP hD hS [0, 2] (by decide) rfl rfl (W' := [(q_t, .inr (11, [.ref q_w, .ref q_isKept, .int t_all, .int t_corners, .int t_hearers, .int t_newAll, .int t_newCorners, .int t_newHearers, .ref q_beer, .ref q_cold, .ref q_stands, .ref q_pinched, .ref q_says, .ref q_text, .int t_textSize, .int t_at, .int t_first, .int t_faultOf, .int t_fault, .int t_spoke, .int t_holds, .int t_undoMany, .ref q_seenDecree, .ref q_seenAt, .ref q_seenSpoke, .int t_seen, .ref q_inSets, .ref q_book, .int t_written])), (q_beer, .inl (a 0, 16, .inl beer)), (q_w, .inl (a 0, 578, .inl w))]) rfl) hS rfl rfl rfl hl.1 rfl (Nat.le_of_ble_eq_true rfl) dX11_corner_51 (by decide) (fun H locs hP hD hS => ?_)
        replace hP : va_P D vwCl [(q_t, .inr (11, [.ref q_w, .ref q_isKept, .int t_all, .int t_corners, .int t_hearers, .int t_newAll, .int t_newCorners, .int t_newHearers, .ref q_beer, .ref q_cold, .ref q_stands, .ref q_pinched, .ref q_says, .ref q_text, .int t_textSize, .int t_at, .int t_first, .int t_faultOf, .int t_fault, .int t_spoke, .int t_holds, .int t_undoMany, .ref q_seenDecree, .ref q_seenAt, .ref q_seenSpoke, .int t_seen, .ref q_inSets, .ref q_book, .int t_written])), (q_beer, .inl (a 0, 16, .inl beer)), (q_w, .inl (a 0, 578, .inl w))] H := hP
        replace hD : va_D A [(q_t, .inr (11, [.ref q_w, .ref q_isKept, .int t_all, .int t_corners, .int t_hearers, .int t_newAll, .int t_newCorners, .int t_newHearers, .ref q_beer, .ref q_cold, .ref q_stands, .ref q_pinched, .ref q_says, .ref q_text, .int t_textSize, .int t_at, .int t_first, .int t_faultOf, .int t_fault, .int t_spoke, .int t_holds, .int t_undoMany, .ref q_seenDecree, .ref q_seenAt, .ref q_seenSpoke, .int t_seen, .ref q_inSets, .ref q_book, .int t_written])), (q_beer, .inl (a 0, 16, .inl beer)), (q_w, .inl (a 0, 578, .inl w))] := hD
        refine lv_goto (tgt := 59) hx hb dX11_corner_54 (by decide) ?_
        cases hf
        exact hret _ _ _ _ (vp_nar_int _) hP hD hS dX11_corner_59
      replace hf := o_ifp hf c4
      refine lv_aload_n hx hb dX11_corner_29 rfl (lv_at hl 0 rfl) ?_
      refine g_get hX hiX11 hP 0 rfl rfl 0 (by decide) hk3 rfl rfl dX11_corner_30 ?_
      refine lv_bipush (v := (11 : Int32)) hx hb dX11_corner_33 (by decide) ?_
      obtain ⟨hiv7, hf⟩ := o_ldh hf
      refine g_iald hX hP 2 rfl hiv7 dX11_corner_35 (fun v7 ev7 => ?_)
      replace hf := hf v7 ev7
      refine lv_iload_n hx hb dX11_corner_36 rfl (lv_at hl 1 rfl) ?_
      refine lv_ishr hx hb dX11_corner_37 ?_
      refine lv_iconst (v := (1 : Int32)) hx hb dX11_corner_38 (by decide) ?_
      refine lv_iand hx hb dX11_corner_39 ?_
      refine lv_goto (tgt := 59) hx hb dX11_corner_40 (by decide) ?_
      cases hf
      exact hret _ _ _ _ (vp_nar_int _) hP hD hS dX11_corner_59
    replace hf := o_ifp hf c3
    refine lv_aload_n hx hb dX11_corner_15 rfl (lv_at hl 0 rfl) ?_
    refine g_get hX hiX11 hP 0 rfl rfl 8 (by decide) hk2 rfl rfl dX11_corner_16 ?_
    refine lv_iload_n hx hb dX11_corner_19 rfl (lv_at hl 1 rfl) ?_
    obtain ⟨hiv8, hf⟩ := o_ldh hf
    refine g_iald hX hP 1 rfl hiv8 dX11_corner_20 (fun v8 ev8 => ?_)
    replace hf := hf v8 ev8
    refine lv_goto (tgt := 59) hx hb dX11_corner_21 (by decide) ?_
    cases hf
    exact hret _ _ _ _ (vp_nar_int _) hP hD hS dX11_corner_59
  replace hf := o_ifp hf c2
  refine lv_ldc (v := (-1000000001 : Int32)) hx hb hown hk1 dX11_corner_8 ?_
  cases hf
  exact hret _ _ _ _ (vp_nar_int _) hP hD hS dX11_corner_10
def f_X11_pinchedOf_41 (t_hearers : Int32) (pinched : Nat → Int32) (k_5 : Int32 → Int32 → Int32 → Int32 → Option (Int32)) (x1 : Int32) (x2 : Int32) (x4 : Int32) (s0 : Int32) (s1 : Int32) : Option (Int32) :=
  (f_X11_one s1).bind fun o1 =>
  o_nm ((s0 ||| (o1 <<< (x4 &&& 31)))) fun v2 =>
  o_nm (x4 + (1 : Int32)) fun v3 =>
  k_5 x1 x2 v2 v3
def f_X11_pinchedOf_5 (t_hearers : Int32) (pinched : Nat → Int32) : Nat → Int32 → Int32 → Int32 → Int32 → Option (Int32)
  | 0, _, _, _, _ => none
  | n_5 + 1, x1, x2, x3, x4 =>
    if t_hearers ≤ x4 then (some x3)
    else ((f_X11_has x1 x4).bind fun o5 =>
    if o5 = 0 then (f_X11_pinchedOf_41 t_hearers pinched (f_X11_pinchedOf_5 t_hearers pinched n_5) x1 x2 x4 x3 (0 : Int32))
    else ((o_ld pinched 18 x4).bind fun v7 =>
    if (v7 &&& x2) = 0 then (f_X11_pinchedOf_41 t_hearers pinched (f_X11_pinchedOf_5 t_hearers pinched n_5) x1 x2 x4 x3 (0 : Int32))
    else (f_X11_pinchedOf_41 t_hearers pinched (f_X11_pinchedOf_5 t_hearers pinched n_5) x1 x2 x4 x3 (1 : Int32))))
def f_X11_pinchedOf (t_hearers : Int32) (pinched : Nat → Int32) (x1 : Int32) (x2 : Int32) : Option (Int32) :=
  f_X11_pinchedOf_5 t_hearers pinched 1000 x1 x2 (0 : Int32) (0 : Int32)
theorem hdS_X11_pinchedOf : yX11_pinchedOf.cls ≠ "java/lang/invoke/MethodHandle" ∧ yX11_pinchedOf.cls ≠ "java/lang/invoke/VarHandle" ∧ (parseMethodDescriptor yX11_pinchedOf.desc).map (fun d => d.parameters.length) = some 2 := by decide +kernel
theorem hdV_X11_pinchedOf : yX11_pinchedOf.cls = RX11 ∧ yX11_pinchedOf.cls ≠ "java/lang/invoke/MethodHandle" ∧ yX11_pinchedOf.cls ≠ "java/lang/invoke/VarHandle" ∧ (parseMethodDescriptor yX11_pinchedOf.desc).map (fun d => d.parameters.length) = some 2 := ⟨rfl, hdS_X11_pinchedOf⟩
set_option maxHeartbeats 4000000 in
set_option maxRecDepth 100000 in
theorem c_X11_pinchedOf (l : Launch) (D : va_G) (a : Nat → ClassId) (t : Nat) (q_t : Nat) (q_w : Nat) (q_isKept : Nat) (t_all : Int32) (t_corners : Int32) (t_hearers : Int32) (t_newAll : Int32) (t_newCorners : Int32) (t_newHearers : Int32) (q_beer : Nat) (q_cold : Nat) (q_stands : Nat) (q_pinched : Nat) (q_says : Nat) (q_text : Nat) (t_textSize : Int32) (t_at : Int32) (t_first : Int32) (t_faultOf : Int32) (t_fault : Int32) (t_spoke : Int32) (t_holds : Int32) (t_undoMany : Int32) (q_seenDecree : Nat) (q_seenAt : Nat) (q_seenSpoke : Nat) (t_seen : Int32) (q_inSets : Nat) (q_book : Nat) (t_written : Int32) (pinched : Nat → Int32) (x1 : Int32) (x2 : Int32) (r : Int32) (hf : f_X11_pinchedOf t_hearers pinched x1 x2 = some r) : Ki l yX11_pinchedOf wsX11_pinchedOf 1 21 D a t [.ref q_t, .int x1, .int x2] [(q_t, .inr (11, [.ref q_w, .ref q_isKept, .int t_all, .int t_corners, .int t_hearers, .int t_newAll, .int t_newCorners, .int t_newHearers, .ref q_beer, .ref q_cold, .ref q_stands, .ref q_pinched, .ref q_says, .ref q_text, .int t_textSize, .int t_at, .int t_first, .int t_faultOf, .int t_fault, .int t_spoke, .int t_holds, .int t_undoMany, .ref q_seenDecree, .ref q_seenAt, .ref q_seenSpoke, .int t_seen, .ref q_inSets, .ref q_book, .int t_written])), (q_pinched, .inl (a 0, 18, .inl pinched))] [(q_t, .inr (11, [.ref q_w, .ref q_isKept, .int t_all, .int t_corners, .int t_hearers, .int t_newAll, .int t_newCorners, .int t_newHearers, .ref q_beer, .ref q_cold, .ref q_stands, .ref q_pinched, .ref q_says, .ref q_text, .int t_textSize, .int t_at, .int t_first, .int t_faultOf, .int t_fault, .int t_spoke, .int t_holds, .int t_undoMany, .ref q_seenDecree, .ref q_seenAt, .ref q_seenSpoke, .int t_seen, .ref q_inSets, .ref q_book, .int t_written])), (q_pinched, .inl (a 0, 18, .inl pinched))] r := by
  refine Ki.mk (cc := cX11_pinchedOf) (nL := 5) (ty := .int) (own := RX11) (by decide) rfl rfl (Nat.le_of_ble_eq_true rfl) ?_
  intro p e s m args below meth c A Q ls hX hP hD hS hl hret
  have hx := hX.1.1
  have hb := hX.1.2.1
  have hown := hX.1.2.2.2.1
  have hts := hX.1.2.2.2.2
  have hN := hX.2.2.1
  have hA := hX.2.2.2.2
  have hl : lv_has ls 5 [(0, .ref q_t), (1, .int x1), (2, .int x2)] := hl
  have hk1 := hts (.fieldLink RX11 129 "GainsaidOnceModel" "hearers" "I") (List.mem_of_getElem? (i := 1) rfl)
  have hk2 := hts (.fieldLink RX11 26 "GainsaidOnceModel" "pinched" "[I") (List.mem_of_getElem? (i := 2) rfl)
  have hiX11 : ∀ w ∈ wsX110, w ∈ wsX11_pinchedOf := (fun _ h => List.mem_cons_of_mem _ (List.mem_append_right _ h))
  have L_5 : ∀ (n_5 : Nat) (x1 : Int32) (x2 : Int32) (x3 : Int32) (x4 : Int32) (H : Heap) (locs : List Loc) (ls : Array Slot), f_X11_pinchedOf_5 t_hearers pinched n_5 x1 x2 x3 x4 = some r → va_P D vwCl [(q_t, .inr (11, [.ref q_w, .ref q_isKept, .int t_all, .int t_corners, .int t_hearers, .int t_newAll, .int t_newCorners, .int t_newHearers, .ref q_beer, .ref q_cold, .ref q_stands, .ref q_pinched, .ref q_says, .ref q_text, .int t_textSize, .int t_at, .int t_first, .int t_faultOf, .int t_fault, .int t_spoke, .int t_holds, .int t_undoMany, .ref q_seenDecree, .ref q_seenAt, .ref q_seenSpoke, .int t_seen, .ref q_inSets, .ref q_book, .int t_written])), (q_pinched, .inl (a 0, 18, .inl pinched))] H → va_D A [(q_t, .inr (11, [.ref q_w, .ref q_isKept, .int t_all, .int t_corners, .int t_hearers, .int t_newAll, .int t_newCorners, .int t_newHearers, .ref q_beer, .ref q_cold, .ref q_stands, .ref q_pinched, .ref q_says, .ref q_text, .int t_textSize, .int t_at, .int t_first, .int t_faultOf, .int t_fault, .int t_spoke, .int t_holds, .int t_undoMany, .ref q_seenDecree, .ref q_seenAt, .ref q_seenSpoke, .int t_seen, .ref q_inSets, .ref q_book, .int t_written])), (q_pinched, .inl (a 0, 18, .inl pinched))] → va_S A s.heap H locs → lv_has ls 5 [(0, .ref q_t), (1, .int x1), (2, .int x2), (3, .int x3), (4, .int x4)] → W p l e { frames := 1, cells := 0, slots := 0, locals := 21 } s m args below meth c H locs 0 0 Q (F0 m 5 ls []) := by
    intro n_5
    induction n_5 with
    | zero => intro x1 x2 x3 x4 H locs ls hf hP hD hS hl; rw [f_X11_pinchedOf_5] at hf; cases hf
    | succ n_5 ih_5 =>
      have L_41 : ∀ (x1 : Int32) (x2 : Int32) (x4 : Int32) (s0 : Int32) (s1 : Int32) (H : Heap) (locs : List Loc) (ls : Array Slot), f_X11_pinchedOf_41 t_hearers pinched (f_X11_pinchedOf_5 t_hearers pinched n_5) x1 x2 x4 s0 s1 = some r → va_P D vwCl [(q_t, .inr (11, [.ref q_w, .ref q_isKept, .int t_all, .int t_corners, .int t_hearers, .int t_newAll, .int t_newCorners, .int t_newHearers, .ref q_beer, .ref q_cold, .ref q_stands, .ref q_pinched, .ref q_says, .ref q_text, .int t_textSize, .int t_at, .int t_first, .int t_faultOf, .int t_fault, .int t_spoke, .int t_holds, .int t_undoMany, .ref q_seenDecree, .ref q_seenAt, .ref q_seenSpoke, .int t_seen, .ref q_inSets, .ref q_book, .int t_written])), (q_pinched, .inl (a 0, 18, .inl pinched))] H → va_D A [(q_t, .inr (11, [.ref q_w, .ref q_isKept, .int t_all, .int t_corners, .int t_hearers, .int t_newAll, .int t_newCorners, .int t_newHearers, .ref q_beer, .ref q_cold, .ref q_stands, .ref q_pinched, .ref q_says, .ref q_text, .int t_textSize, .int t_at, .int t_first, .int t_faultOf, .int t_fault, .int t_spoke, .int t_holds, .int t_undoMany, .ref q_seenDecree, .ref q_seenAt, .ref q_seenSpoke, .int t_seen, .ref q_inSets, .ref q_book, .int t_written])), (q_pinched, .inl (a 0, 18, .inl pinched))] → va_S A s.heap H locs → lv_has ls 5 [(0, .ref q_t), (1, .int x1), (2, .int x2), (4, .int x4)] → W p l e { frames := 1, cells := 0, slots := 0, locals := 21 } s m args below meth c H locs 0 0 Q (F0 m 41 ls [.int s1, .int s0]) := by
        intro x1 x2 x4 s0 s1 H locs ls hf hP hD hS hl
        unfold f_X11_pinchedOf_41 at hf
        obtain ⟨o1, ho1, hf⟩ := o_bd hf
        refine call_iS hX (c_X11_one l D a t s1 o1 ho1) (va_cwS 1 hts gX11_pinchedOf_X11_one rfl rfl rfl hdS_X11_one ⟨by decide, by decide⟩) (Cut.none hA hP hD hS) hS rfl hl.1 rfl (Nat.le_of_ble_eq_true rfl) dX11_pinchedOf_41 (by decide) (fun H locs hP hD hS => ?_)
        refine lv_iload hx hb dX11_pinchedOf_44 (lv_at hl 3 rfl) ?_
        refine lv_ishl hx hb dX11_pinchedOf_46 ?_
        refine lv_ior hx hb dX11_pinchedOf_47 ?_
        refine lv_topi (fun v2 ev2 => ?_)
        replace hf := o_nmh hf v2 ev2
        refine lv_istore_n (lv' := [(3, .int v2), (0, .ref q_t), (1, .int x1), (2, .int x2), (4, .int x4)]) hx hb dX11_pinchedOf_48 rfl hl (by decide) rfl (fun ls hl => ?_)
        obtain ⟨v3, ev3⟩ : ∃ y : Int32, y = x4 + (1 : Int32) := ⟨_, rfl⟩
        replace hf := o_nmh hf v3 ev3
        refine lv_iinc (v := v3) (lv' := [(4, .int v3), (3, .int v2), (0, .ref q_t), (1, .int x1), (2, .int x2)]) hx hb dX11_pinchedOf_49 hl (k := 4) rfl (by rw [ev3]; rfl) (by decide) rfl (fun ls hl => ?_)
        refine lv_goto (tgt := 5) hx hb dX11_pinchedOf_52 (by decide) ?_
        exact ih_5 x1 x2 v2 v3 _ _ _ hf hP hD hS (lv_sub hl [2, 3, 4, 1, 0] rfl)
      intro x1 x2 x3 x4 H locs ls hf hP hD hS hl
      rw [f_X11_pinchedOf_5] at hf
      refine lv_iload hx hb dX11_pinchedOf_5 (lv_at hl 4 rfl) ?_
      refine lv_aload_n hx hb dX11_pinchedOf_7 rfl (lv_at hl 0 rfl) ?_
      refine g_get hX hiX11 hP 0 rfl rfl 4 (by decide) hk1 rfl rfl dX11_pinchedOf_8 ?_
      refine lv_icmp_ge (tgt := 55) hx hb dX11_pinchedOf_11 (by decide) (fun c4 => ?_) (fun c4 => ?_)
      · replace hf := o_ifp hf c4
        refine lv_iload_n hx hb dX11_pinchedOf_55 rfl (lv_at hl 3 rfl) ?_
        cases hf
        exact hret _ _ _ _ (vp_nar_int _) hP hD hS dX11_pinchedOf_56
      replace hf := o_ifn hf c4
      refine lv_iload_n hx hb dX11_pinchedOf_14 rfl (lv_at hl 3 rfl) ?_
      refine lv_iload_n hx hb dX11_pinchedOf_15 rfl (lv_at hl 1 rfl) ?_
      refine lv_iload hx hb dX11_pinchedOf_16 (lv_at hl 4 rfl) ?_
      obtain ⟨o5, ho5, hf⟩ := o_bd hf
      refine call_iS hX (c_X11_has l D a t x1 x4 o5 ho5) (va_cwS 2 hts gX11_pinchedOf_X11_has rfl rfl rfl hdS_X11_has ⟨by decide, by decide⟩) (Cut.none hA hP hD hS) hS rfl hl.1 rfl (Nat.le_of_ble_eq_true rfl) dX11_pinchedOf_18 (by decide) (fun H locs hP hD hS => ?_)
      refine lv_if_eq (tgt := 40) hx hb dX11_pinchedOf_21 (by decide) (fun c6 => ?_) (fun c6 => ?_)
      · replace hf := o_ifp hf c6
        refine lv_iconst (v := (0 : Int32)) hx hb dX11_pinchedOf_40 (by decide) ?_
        exact L_41 x1 x2 x4 x3 (0 : Int32) _ _ _ hf hP hD hS (lv_sub hl [0, 1, 2, 4] rfl)
      replace hf := o_ifn hf c6
      refine lv_aload_n hx hb dX11_pinchedOf_24 rfl (lv_at hl 0 rfl) ?_
      refine g_get hX hiX11 hP 0 rfl rfl 11 (by decide) hk2 rfl rfl dX11_pinchedOf_25 ?_
      refine lv_iload hx hb dX11_pinchedOf_28 (lv_at hl 4 rfl) ?_
      obtain ⟨hiv7, hf⟩ := o_ldh hf
      refine g_iald hX hP 1 rfl hiv7 dX11_pinchedOf_30 (fun v7 ev7 => ?_)
      replace hf := hf v7 ev7
      refine lv_iload_n hx hb dX11_pinchedOf_31 rfl (lv_at hl 2 rfl) ?_
      refine lv_iand hx hb dX11_pinchedOf_32 ?_
      refine lv_if_eq (tgt := 40) hx hb dX11_pinchedOf_33 (by decide) (fun c8 => ?_) (fun c8 => ?_)
      · replace hf := o_ifp hf c8
        refine lv_iconst (v := (0 : Int32)) hx hb dX11_pinchedOf_40 (by decide) ?_
        exact L_41 x1 x2 x4 x3 (0 : Int32) _ _ _ hf hP hD hS (lv_sub hl [0, 1, 2, 4] rfl)
      replace hf := o_ifn hf c8
      refine lv_iconst (v := (1 : Int32)) hx hb dX11_pinchedOf_36 (by decide) ?_
      refine lv_goto (tgt := 41) hx hb dX11_pinchedOf_37 (by decide) ?_
      exact L_41 x1 x2 x4 x3 (1 : Int32) _ _ _ hf hP hD hS (lv_sub hl [0, 1, 2, 4] rfl)
  unfold f_X11_pinchedOf at hf
  refine lv_iconst (v := (0 : Int32)) hx hb dX11_pinchedOf_0 (by decide) ?_
  refine lv_istore_n (lv' := [(3, .int (0 : Int32)), (0, .ref q_t), (1, .int x1), (2, .int x2)]) hx hb dX11_pinchedOf_1 rfl hl (by decide) rfl (fun ls hl => ?_)
  refine lv_iconst (v := (0 : Int32)) hx hb dX11_pinchedOf_2 (by decide) ?_
  refine lv_istore (lv' := [(4, .int (0 : Int32)), (3, .int (0 : Int32)), (0, .ref q_t), (1, .int x1), (2, .int x2)]) hx hb dX11_pinchedOf_3 hl (by decide) rfl (fun ls hl => ?_)
  exact L_5 1000 x1 x2 (0 : Int32) (0 : Int32) _ _ _ hf hP hD hS (lv_sub hl [2, 3, 4, 1, 0] rfl)
def f_X11_speakers_76 (t_hearers : Int32) (pinched : Nat → Int32) (x3 : Int32) (x5 : Int32) (x6 : Int32) (s0 : Int32) : Option (Int32) :=
  if s0 = 0 then (some x6)
  else ((f_X11_pinchedOf t_hearers pinched x5 x3).bind fun o2 =>
  some o2)
def f_X11_speakers_55 (t_hearers : Int32) (pinched : Nat → Int32) (w : Nat → Int32) (x1 : Int32) (x2 : Int32) (x3 : Int32) (x5 : Int32) (x6 : Int32) : Option (Int32) :=
  (o_ld w 578 (x1 + (11 : Int32))).bind fun v3 =>
  (f_X11_has v3 x2).bind fun o4 =>
  if o4 = 0 then (f_X11_speakers_76 t_hearers pinched x3 x5 x6 (0 : Int32))
  else (f_X11_speakers_76 t_hearers pinched x3 x5 x6 (1 : Int32))
def f_X11_speakers (t_hearers : Int32) (pinched : Nat → Int32) (w : Nat → Int32) (x1 : Int32) (x2 : Int32) (x3 : Int32) (x4 : Int32) : Option (Int32) :=
  (f_X11_standing t_hearers w x1 x2).bind fun o6 =>
  (o_ld w 578 (x1 + (10 : Int32))).bind fun v7 =>
  o_nm ((o6 &&& (v7 ^^^ (-1 : Int32)))) fun v8 =>
  (o_ld w 578 (x1 + (9 : Int32))).bind fun v9 =>
  (f_X11_pinchedOf t_hearers pinched (v8 &&& (v9 ^^^ (-1 : Int32))) x3).bind fun o10 =>
  if o10 = 0 then (if x4 = 0 then (f_X11_speakers_55 t_hearers pinched w x1 x2 x3 v8 o10)
  else (if x3 = 0 then (f_X11_speakers_55 t_hearers pinched w x1 x2 x3 v8 o10)
  else (f_X11_speakers_76 t_hearers pinched x3 v8 o10 (0 : Int32))))
  else (f_X11_speakers_76 t_hearers pinched x3 v8 o10 (0 : Int32))
theorem hdS_X11_speakers : yX11_speakers.cls ≠ "java/lang/invoke/MethodHandle" ∧ yX11_speakers.cls ≠ "java/lang/invoke/VarHandle" ∧ (parseMethodDescriptor yX11_speakers.desc).map (fun d => d.parameters.length) = some 4 := by decide +kernel
theorem hdV_X11_speakers : yX11_speakers.cls = RX11 ∧ yX11_speakers.cls ≠ "java/lang/invoke/MethodHandle" ∧ yX11_speakers.cls ≠ "java/lang/invoke/VarHandle" ∧ (parseMethodDescriptor yX11_speakers.desc).map (fun d => d.parameters.length) = some 4 := ⟨rfl, hdS_X11_speakers⟩
set_option maxHeartbeats 4000000 in
set_option maxRecDepth 100000 in
theorem c_X11_speakers (l : Launch) (D : va_G) (a : Nat → ClassId) (t : Nat) (q_t : Nat) (q_w : Nat) (q_isKept : Nat) (t_all : Int32) (t_corners : Int32) (t_hearers : Int32) (t_newAll : Int32) (t_newCorners : Int32) (t_newHearers : Int32) (q_beer : Nat) (q_cold : Nat) (q_stands : Nat) (q_pinched : Nat) (q_says : Nat) (q_text : Nat) (t_textSize : Int32) (t_at : Int32) (t_first : Int32) (t_faultOf : Int32) (t_fault : Int32) (t_spoke : Int32) (t_holds : Int32) (t_undoMany : Int32) (q_seenDecree : Nat) (q_seenAt : Nat) (q_seenSpoke : Nat) (t_seen : Int32) (q_inSets : Nat) (q_book : Nat) (t_written : Int32) (pinched : Nat → Int32) (w : Nat → Int32) (x1 : Int32) (x2 : Int32) (x3 : Int32) (x4 : Int32) (r : Int32) (hf : f_X11_speakers t_hearers pinched w x1 x2 x3 x4 = some r) : Ki l yX11_speakers wsX11_speakers 2 45 D a t [.ref q_t, .int x1, .int x2, .int x3, .int x4] [(q_t, .inr (11, [.ref q_w, .ref q_isKept, .int t_all, .int t_corners, .int t_hearers, .int t_newAll, .int t_newCorners, .int t_newHearers, .ref q_beer, .ref q_cold, .ref q_stands, .ref q_pinched, .ref q_says, .ref q_text, .int t_textSize, .int t_at, .int t_first, .int t_faultOf, .int t_fault, .int t_spoke, .int t_holds, .int t_undoMany, .ref q_seenDecree, .ref q_seenAt, .ref q_seenSpoke, .int t_seen, .ref q_inSets, .ref q_book, .int t_written])), (q_pinched, .inl (a 0, 18, .inl pinched)), (q_w, .inl (a 0, 578, .inl w))] [(q_t, .inr (11, [.ref q_w, .ref q_isKept, .int t_all, .int t_corners, .int t_hearers, .int t_newAll, .int t_newCorners, .int t_newHearers, .ref q_beer, .ref q_cold, .ref q_stands, .ref q_pinched, .ref q_says, .ref q_text, .int t_textSize, .int t_at, .int t_first, .int t_faultOf, .int t_fault, .int t_spoke, .int t_holds, .int t_undoMany, .ref q_seenDecree, .ref q_seenAt, .ref q_seenSpoke, .int t_seen, .ref q_inSets, .ref q_book, .int t_written])), (q_pinched, .inl (a 0, 18, .inl pinched)), (q_w, .inl (a 0, 578, .inl w))] r := by
  refine Ki.mk (cc := cX11_speakers) (nL := 8) (ty := .int) (own := RX11) (by decide) rfl rfl (Nat.le_of_ble_eq_true rfl) ?_
  intro p e s m args below meth c A Q ls hX hP hD hS hl hret
  have hx := hX.1.1
  have hb := hX.1.2.1
  have hown := hX.1.2.2.2.1
  have hts := hX.1.2.2.2.2
  have hN := hX.2.2.1
  have hA := hX.2.2.2.2
  have hl : lv_has ls 8 [(0, .ref q_t), (1, .int x1), (2, .int x2), (3, .int x3), (4, .int x4)] := hl
  have hk1 := hts (.fieldLink RX11 7 "GainsaidOnceModel" "w" "[I") (List.mem_of_getElem? (i := 1) rfl)
  have hiX11 : ∀ w ∈ wsX110, w ∈ wsX11_speakers := (fun _ h => List.mem_cons_of_mem _ (List.mem_append_right _ h))
  have L_76 : ∀ (x3 : Int32) (x5 : Int32) (x6 : Int32) (s0 : Int32) (H : Heap) (locs : List Loc) (ls : Array Slot), f_X11_speakers_76 t_hearers pinched x3 x5 x6 s0 = some r → va_P D vwCl [(q_t, .inr (11, [.ref q_w, .ref q_isKept, .int t_all, .int t_corners, .int t_hearers, .int t_newAll, .int t_newCorners, .int t_newHearers, .ref q_beer, .ref q_cold, .ref q_stands, .ref q_pinched, .ref q_says, .ref q_text, .int t_textSize, .int t_at, .int t_first, .int t_faultOf, .int t_fault, .int t_spoke, .int t_holds, .int t_undoMany, .ref q_seenDecree, .ref q_seenAt, .ref q_seenSpoke, .int t_seen, .ref q_inSets, .ref q_book, .int t_written])), (q_pinched, .inl (a 0, 18, .inl pinched)), (q_w, .inl (a 0, 578, .inl w))] H → va_D A [(q_t, .inr (11, [.ref q_w, .ref q_isKept, .int t_all, .int t_corners, .int t_hearers, .int t_newAll, .int t_newCorners, .int t_newHearers, .ref q_beer, .ref q_cold, .ref q_stands, .ref q_pinched, .ref q_says, .ref q_text, .int t_textSize, .int t_at, .int t_first, .int t_faultOf, .int t_fault, .int t_spoke, .int t_holds, .int t_undoMany, .ref q_seenDecree, .ref q_seenAt, .ref q_seenSpoke, .int t_seen, .ref q_inSets, .ref q_book, .int t_written])), (q_pinched, .inl (a 0, 18, .inl pinched)), (q_w, .inl (a 0, 578, .inl w))] → va_S A s.heap H locs → lv_has ls 8 [(0, .ref q_t), (3, .int x3), (5, .int x5), (6, .int x6)] → W p l e { frames := 2, cells := 0, slots := 0, locals := 45 } s m args below meth c H locs 0 0 Q (F0 m 76 ls [.int s0]) := by
    intro x3 x5 x6 s0 H locs ls hf hP hD hS hl
    unfold f_X11_speakers_76 at hf
    refine lv_istore (lv' := [(7, .int s0), (0, .ref q_t), (3, .int x3), (5, .int x5), (6, .int x6)]) hx hb dX11_speakers_76 hl (by decide) rfl (fun ls hl => ?_)
    refine lv_iload hx hb dX11_speakers_78 (lv_at hl 0 rfl) ?_
    refine lv_if_eq (tgt := 93) hx hb dX11_speakers_80 (by decide) (fun c1 => ?_) (fun c1 => ?_)
    · replace hf := o_ifp hf c1
      refine lv_iload hx hb dX11_speakers_93 (lv_at hl 4 rfl) ?_
      cases hf
      exact hret _ _ _ _ (vp_nar_int _) hP hD hS dX11_speakers_95
    replace hf := o_ifn hf c1
    refine lv_aload_n hx hb dX11_speakers_83 rfl (lv_at hl 1 rfl) ?_
    refine lv_iload hx hb dX11_speakers_84 (lv_at hl 3 rfl) ?_
    refine lv_iload_n hx hb dX11_speakers_86 rfl (lv_at hl 2 rfl) ?_
    obtain ⟨o2, ho2, hf⟩ := o_bd hf
    refine call_iV (q0 := 0) (ci := 11) hX (c_X11_pinchedOf l D a t q_t q_w q_isKept t_all t_corners t_hearers t_newAll t_newCorners t_newHearers q_beer q_cold q_stands q_pinched q_says q_text t_textSize t_at t_first t_faultOf t_fault t_spoke t_holds t_undoMany q_seenDecree q_seenAt q_seenSpoke t_seen q_inSets q_book t_written pinched x5 x3 o2 ho2) (cwV 2 hts gX11_speakers_X11_pinchedOf rfl rfl rfl hdV_X11_pinchedOf ⟨by decide, by decide⟩) (Cut.of hA hP hD hS [0, 1] (by decide) rfl rfl (W' := [(q_t, .inr (11, [.ref q_w, .ref q_isKept, .int t_all, .int t_corners, .int t_hearers, .int t_newAll, .int t_newCorners, .int t_newHearers, .ref q_beer, .ref q_cold, .ref q_stands, .ref q_pinched, .ref q_says, .ref q_text, .int t_textSize, .int t_at, .int t_first, .int t_faultOf, .int t_fault, .int t_spoke, .int t_holds, .int t_undoMany, .ref q_seenDecree, .ref q_seenAt, .ref q_seenSpoke, .int t_seen, .ref q_inSets, .ref q_book, .int t_written])), (q_pinched, .inl (a 0, 18, .inl pinched)), (q_w, .inl (a 0, 578, .inl w))]) rfl) hS rfl rfl rfl hl.1 rfl (Nat.le_of_ble_eq_true rfl) dX11_speakers_87 (by decide) (fun H locs hP hD hS => ?_)
    replace hP : va_P D vwCl [(q_t, .inr (11, [.ref q_w, .ref q_isKept, .int t_all, .int t_corners, .int t_hearers, .int t_newAll, .int t_newCorners, .int t_newHearers, .ref q_beer, .ref q_cold, .ref q_stands, .ref q_pinched, .ref q_says, .ref q_text, .int t_textSize, .int t_at, .int t_first, .int t_faultOf, .int t_fault, .int t_spoke, .int t_holds, .int t_undoMany, .ref q_seenDecree, .ref q_seenAt, .ref q_seenSpoke, .int t_seen, .ref q_inSets, .ref q_book, .int t_written])), (q_pinched, .inl (a 0, 18, .inl pinched)), (q_w, .inl (a 0, 578, .inl w))] H := hP
    replace hD : va_D A [(q_t, .inr (11, [.ref q_w, .ref q_isKept, .int t_all, .int t_corners, .int t_hearers, .int t_newAll, .int t_newCorners, .int t_newHearers, .ref q_beer, .ref q_cold, .ref q_stands, .ref q_pinched, .ref q_says, .ref q_text, .int t_textSize, .int t_at, .int t_first, .int t_faultOf, .int t_fault, .int t_spoke, .int t_holds, .int t_undoMany, .ref q_seenDecree, .ref q_seenAt, .ref q_seenSpoke, .int t_seen, .ref q_inSets, .ref q_book, .int t_written])), (q_pinched, .inl (a 0, 18, .inl pinched)), (q_w, .inl (a 0, 578, .inl w))] := hD
    refine lv_goto (tgt := 95) hx hb dX11_speakers_90 (by decide) ?_
    cases hf
    exact hret _ _ _ _ (vp_nar_int _) hP hD hS dX11_speakers_95
  have L_55 : ∀ (x1 : Int32) (x2 : Int32) (x3 : Int32) (x5 : Int32) (x6 : Int32) (H : Heap) (locs : List Loc) (ls : Array Slot), f_X11_speakers_55 t_hearers pinched w x1 x2 x3 x5 x6 = some r → va_P D vwCl [(q_t, .inr (11, [.ref q_w, .ref q_isKept, .int t_all, .int t_corners, .int t_hearers, .int t_newAll, .int t_newCorners, .int t_newHearers, .ref q_beer, .ref q_cold, .ref q_stands, .ref q_pinched, .ref q_says, .ref q_text, .int t_textSize, .int t_at, .int t_first, .int t_faultOf, .int t_fault, .int t_spoke, .int t_holds, .int t_undoMany, .ref q_seenDecree, .ref q_seenAt, .ref q_seenSpoke, .int t_seen, .ref q_inSets, .ref q_book, .int t_written])), (q_pinched, .inl (a 0, 18, .inl pinched)), (q_w, .inl (a 0, 578, .inl w))] H → va_D A [(q_t, .inr (11, [.ref q_w, .ref q_isKept, .int t_all, .int t_corners, .int t_hearers, .int t_newAll, .int t_newCorners, .int t_newHearers, .ref q_beer, .ref q_cold, .ref q_stands, .ref q_pinched, .ref q_says, .ref q_text, .int t_textSize, .int t_at, .int t_first, .int t_faultOf, .int t_fault, .int t_spoke, .int t_holds, .int t_undoMany, .ref q_seenDecree, .ref q_seenAt, .ref q_seenSpoke, .int t_seen, .ref q_inSets, .ref q_book, .int t_written])), (q_pinched, .inl (a 0, 18, .inl pinched)), (q_w, .inl (a 0, 578, .inl w))] → va_S A s.heap H locs → lv_has ls 8 [(0, .ref q_t), (1, .int x1), (2, .int x2), (3, .int x3), (5, .int x5), (6, .int x6)] → W p l e { frames := 2, cells := 0, slots := 0, locals := 45 } s m args below meth c H locs 0 0 Q (F0 m 55 ls []) := by
    intro x1 x2 x3 x5 x6 H locs ls hf hP hD hS hl
    unfold f_X11_speakers_55 at hf
    refine lv_aload_n hx hb dX11_speakers_55 rfl (lv_at hl 0 rfl) ?_
    refine g_get hX hiX11 hP 0 rfl rfl 0 (by decide) hk1 rfl rfl dX11_speakers_56 ?_
    refine lv_iload_n hx hb dX11_speakers_59 rfl (lv_at hl 1 rfl) ?_
    refine lv_bipush (v := (11 : Int32)) hx hb dX11_speakers_60 (by decide) ?_
    refine lv_iadd hx hb dX11_speakers_62 ?_
    obtain ⟨hiv3, hf⟩ := o_ldh hf
    refine g_iald hX hP 2 rfl hiv3 dX11_speakers_63 (fun v3 ev3 => ?_)
    replace hf := hf v3 ev3
    refine lv_iload_n hx hb dX11_speakers_64 rfl (lv_at hl 2 rfl) ?_
    obtain ⟨o4, ho4, hf⟩ := o_bd hf
    refine call_iS hX (c_X11_has l D a t v3 x2 o4 ho4) (va_cwS 2 hts gX11_speakers_X11_has rfl rfl rfl hdS_X11_has ⟨by decide, by decide⟩) (Cut.none hA hP hD hS) hS rfl hl.1 rfl (Nat.le_of_ble_eq_true rfl) dX11_speakers_65 (by decide) (fun H locs hP hD hS => ?_)
    refine lv_if_eq (tgt := 75) hx hb dX11_speakers_68 (by decide) (fun c5 => ?_) (fun c5 => ?_)
    · replace hf := o_ifp hf c5
      refine lv_iconst (v := (0 : Int32)) hx hb dX11_speakers_75 (by decide) ?_
      exact L_76 x3 x5 x6 (0 : Int32) _ _ _ hf hP hD hS (lv_sub hl [0, 3, 4, 5] rfl)
    replace hf := o_ifn hf c5
    refine lv_iconst (v := (1 : Int32)) hx hb dX11_speakers_71 (by decide) ?_
    refine lv_goto (tgt := 76) hx hb dX11_speakers_72 (by decide) ?_
    exact L_76 x3 x5 x6 (1 : Int32) _ _ _ hf hP hD hS (lv_sub hl [0, 3, 4, 5] rfl)
  unfold f_X11_speakers at hf
  refine lv_aload_n hx hb dX11_speakers_0 rfl (lv_at hl 0 rfl) ?_
  refine lv_iload_n hx hb dX11_speakers_1 rfl (lv_at hl 1 rfl) ?_
  refine lv_iload_n hx hb dX11_speakers_2 rfl (lv_at hl 2 rfl) ?_
  obtain ⟨o6, ho6, hf⟩ := o_bd hf
  refine call_iV (q0 := 0) (ci := 11) hX (c_X11_standing l D a t q_t q_w q_isKept t_all t_corners t_hearers t_newAll t_newCorners t_newHearers q_beer q_cold q_stands q_pinched q_says q_text t_textSize t_at t_first t_faultOf t_fault t_spoke t_holds t_undoMany q_seenDecree q_seenAt q_seenSpoke t_seen q_inSets q_book t_written w x1 x2 o6 ho6) (cwV 2 hts gX11_speakers_X11_standing rfl rfl rfl hdV_X11_standing ⟨by decide, by decide⟩) (Cut.of hA hP hD hS [0, 2] (by decide) rfl rfl (W' := [(q_t, .inr (11, [.ref q_w, .ref q_isKept, .int t_all, .int t_corners, .int t_hearers, .int t_newAll, .int t_newCorners, .int t_newHearers, .ref q_beer, .ref q_cold, .ref q_stands, .ref q_pinched, .ref q_says, .ref q_text, .int t_textSize, .int t_at, .int t_first, .int t_faultOf, .int t_fault, .int t_spoke, .int t_holds, .int t_undoMany, .ref q_seenDecree, .ref q_seenAt, .ref q_seenSpoke, .int t_seen, .ref q_inSets, .ref q_book, .int t_written])), (q_pinched, .inl (a 0, 18, .inl pinched)), (q_w, .inl (a 0, 578, .inl w))]) rfl) hS rfl rfl rfl hl.1 rfl (Nat.le_of_ble_eq_true rfl) dX11_speakers_3 (by decide) (fun H locs hP hD hS => ?_)
  replace hP : va_P D vwCl [(q_t, .inr (11, [.ref q_w, .ref q_isKept, .int t_all, .int t_corners, .int t_hearers, .int t_newAll, .int t_newCorners, .int t_newHearers, .ref q_beer, .ref q_cold, .ref q_stands, .ref q_pinched, .ref q_says, .ref q_text, .int t_textSize, .int t_at, .int t_first, .int t_faultOf, .int t_fault, .int t_spoke, .int t_holds, .int t_undoMany, .ref q_seenDecree, .ref q_seenAt, .ref q_seenSpoke, .int t_seen, .ref q_inSets, .ref q_book, .int t_written])), (q_pinched, .inl (a 0, 18, .inl pinched)), (q_w, .inl (a 0, 578, .inl w))] H := hP
  replace hD : va_D A [(q_t, .inr (11, [.ref q_w, .ref q_isKept, .int t_all, .int t_corners, .int t_hearers, .int t_newAll, .int t_newCorners, .int t_newHearers, .ref q_beer, .ref q_cold, .ref q_stands, .ref q_pinched, .ref q_says, .ref q_text, .int t_textSize, .int t_at, .int t_first, .int t_faultOf, .int t_fault, .int t_spoke, .int t_holds, .int t_undoMany, .ref q_seenDecree, .ref q_seenAt, .ref q_seenSpoke, .int t_seen, .ref q_inSets, .ref q_book, .int t_written])), (q_pinched, .inl (a 0, 18, .inl pinched)), (q_w, .inl (a 0, 578, .inl w))] := hD
  refine lv_aload_n hx hb dX11_speakers_6 rfl (lv_at hl 0 rfl) ?_
  refine g_get hX hiX11 hP 0 rfl rfl 0 (by decide) hk1 rfl rfl dX11_speakers_7 ?_
  refine lv_iload_n hx hb dX11_speakers_10 rfl (lv_at hl 1 rfl) ?_
  refine lv_bipush (v := (10 : Int32)) hx hb dX11_speakers_11 (by decide) ?_
  refine lv_iadd hx hb dX11_speakers_13 ?_
  obtain ⟨hiv7, hf⟩ := o_ldh hf
  refine g_iald hX hP 2 rfl hiv7 dX11_speakers_14 (fun v7 ev7 => ?_)
  replace hf := hf v7 ev7
  refine lv_iconst (v := (-1 : Int32)) hx hb dX11_speakers_15 (by decide) ?_
  refine lv_ixor hx hb dX11_speakers_16 ?_
  refine lv_iand hx hb dX11_speakers_17 ?_
  refine lv_topi (fun v8 ev8 => ?_)
  replace hf := o_nmh hf v8 ev8
  refine lv_istore (lv' := [(5, .int v8), (0, .ref q_t), (1, .int x1), (2, .int x2), (3, .int x3), (4, .int x4)]) hx hb dX11_speakers_18 hl (by decide) rfl (fun ls hl => ?_)
  refine lv_aload_n hx hb dX11_speakers_20 rfl (lv_at hl 1 rfl) ?_
  refine lv_iload hx hb dX11_speakers_21 (lv_at hl 0 rfl) ?_
  refine lv_aload_n hx hb dX11_speakers_23 rfl (lv_at hl 1 rfl) ?_
  refine g_get hX hiX11 hP 0 rfl rfl 0 (by decide) hk1 rfl rfl dX11_speakers_24 ?_
  refine lv_iload_n hx hb dX11_speakers_27 rfl (lv_at hl 2 rfl) ?_
  refine lv_bipush (v := (9 : Int32)) hx hb dX11_speakers_28 (by decide) ?_
  refine lv_iadd hx hb dX11_speakers_30 ?_
  obtain ⟨hiv9, hf⟩ := o_ldh hf
  refine g_iald hX hP 2 rfl hiv9 dX11_speakers_31 (fun v9 ev9 => ?_)
  replace hf := hf v9 ev9
  refine lv_iconst (v := (-1 : Int32)) hx hb dX11_speakers_32 (by decide) ?_
  refine lv_ixor hx hb dX11_speakers_33 ?_
  refine lv_iand hx hb dX11_speakers_34 ?_
  refine lv_iload_n hx hb dX11_speakers_35 rfl (lv_at hl 4 rfl) ?_
  obtain ⟨o10, ho10, hf⟩ := o_bd hf
  refine call_iV (q0 := 0) (ci := 11) hX (c_X11_pinchedOf l D a t q_t q_w q_isKept t_all t_corners t_hearers t_newAll t_newCorners t_newHearers q_beer q_cold q_stands q_pinched q_says q_text t_textSize t_at t_first t_faultOf t_fault t_spoke t_holds t_undoMany q_seenDecree q_seenAt q_seenSpoke t_seen q_inSets q_book t_written pinched (v8 &&& (v9 ^^^ (-1 : Int32))) x3 o10 ho10) (cwV 2 hts gX11_speakers_X11_pinchedOf rfl rfl rfl hdV_X11_pinchedOf ⟨by decide, by decide⟩) (Cut.of hA hP hD hS [0, 1] (by decide) rfl rfl (W' := [(q_t, .inr (11, [.ref q_w, .ref q_isKept, .int t_all, .int t_corners, .int t_hearers, .int t_newAll, .int t_newCorners, .int t_newHearers, .ref q_beer, .ref q_cold, .ref q_stands, .ref q_pinched, .ref q_says, .ref q_text, .int t_textSize, .int t_at, .int t_first, .int t_faultOf, .int t_fault, .int t_spoke, .int t_holds, .int t_undoMany, .ref q_seenDecree, .ref q_seenAt, .ref q_seenSpoke, .int t_seen, .ref q_inSets, .ref q_book, .int t_written])), (q_pinched, .inl (a 0, 18, .inl pinched)), (q_w, .inl (a 0, 578, .inl w))]) rfl) hS rfl rfl rfl hl.1 rfl (Nat.le_of_ble_eq_true rfl) dX11_speakers_36 (by decide) (fun H locs hP hD hS => ?_)
  replace hP : va_P D vwCl [(q_t, .inr (11, [.ref q_w, .ref q_isKept, .int t_all, .int t_corners, .int t_hearers, .int t_newAll, .int t_newCorners, .int t_newHearers, .ref q_beer, .ref q_cold, .ref q_stands, .ref q_pinched, .ref q_says, .ref q_text, .int t_textSize, .int t_at, .int t_first, .int t_faultOf, .int t_fault, .int t_spoke, .int t_holds, .int t_undoMany, .ref q_seenDecree, .ref q_seenAt, .ref q_seenSpoke, .int t_seen, .ref q_inSets, .ref q_book, .int t_written])), (q_pinched, .inl (a 0, 18, .inl pinched)), (q_w, .inl (a 0, 578, .inl w))] H := hP
  replace hD : va_D A [(q_t, .inr (11, [.ref q_w, .ref q_isKept, .int t_all, .int t_corners, .int t_hearers, .int t_newAll, .int t_newCorners, .int t_newHearers, .ref q_beer, .ref q_cold, .ref q_stands, .ref q_pinched, .ref q_says, .ref q_text, .int t_textSize, .int t_at, .int t_first, .int t_faultOf, .int t_fault, .int t_spoke, .int t_holds, .int t_undoMany, .ref q_seenDecree, .ref q_seenAt, .ref q_seenSpoke, .int t_seen, .ref q_inSets, .ref q_book, .int t_written])), (q_pinched, .inl (a 0, 18, .inl pinched)), (q_w, .inl (a 0, 578, .inl w))] := hD
  refine lv_istore (lv' := [(6, .int o10), (5, .int v8), (0, .ref q_t), (1, .int x1), (2, .int x2), (3, .int x3), (4, .int x4)]) hx hb dX11_speakers_39 hl (by decide) rfl (fun ls hl => ?_)
  refine lv_iload hx hb dX11_speakers_41 (lv_at hl 0 rfl) ?_
  refine lv_if_ne (tgt := 75) hx hb dX11_speakers_43 (by decide) (fun c11 => ?_) (fun c11 => ?_)
  · replace hf := o_ifn hf c11
    refine lv_iconst (v := (0 : Int32)) hx hb dX11_speakers_75 (by decide) ?_
    exact L_76 x3 v8 o10 (0 : Int32) _ _ _ hf hP hD hS (lv_sub hl [2, 5, 1, 0] rfl)
  replace hf := o_ifp hf c11
  refine lv_iload hx hb dX11_speakers_46 (lv_at hl 6 rfl) ?_
  refine lv_if_eq (tgt := 55) hx hb dX11_speakers_48 (by decide) (fun c12 => ?_) (fun c12 => ?_)
  · replace hf := o_ifp hf c12
    exact L_55 x1 x2 x3 v8 o10 _ _ _ hf hP hD hS (lv_sub hl [2, 3, 4, 5, 1, 0] rfl)
  replace hf := o_ifn hf c12
  refine lv_iload_n hx hb dX11_speakers_51 rfl (lv_at hl 5 rfl) ?_
  refine lv_if_ne (tgt := 75) hx hb dX11_speakers_52 (by decide) (fun c13 => ?_) (fun c13 => ?_)
  · replace hf := o_ifn hf c13
    refine lv_iconst (v := (0 : Int32)) hx hb dX11_speakers_75 (by decide) ?_
    exact L_76 x3 v8 o10 (0 : Int32) _ _ _ hf hP hD hS (lv_sub hl [2, 5, 1, 0] rfl)
  replace hf := o_ifp hf c13
  exact L_55 x1 x2 x3 v8 o10 _ _ _ hf hP hD hS (lv_sub hl [2, 3, 4, 5, 1, 0] rfl)
def f_X11_cryAt_30 (t_all : Int32) (pinched : Nat → Int32) (says : Nat → Int32) (t_spoke : Int32) (t_holds : Int32) (w : (Nat → Int32)) (x1 : Int32) (x2 : Int32) (x3 : Int32) (x5 : Int32) (s0 : Int32) (s1 : Int32) : Option (Int32 × Int32 × Int32 × (Nat → Int32)) :=
  (f_X11_one s1).bind fun o1 =>
  o_nm ((s0 + o1)) fun v2 =>
  (o_ld w 578 (x1 + (9 : Int32))).bind fun v3 =>
  (o_st w 578 (x1 + (9 : Int32)) (v3 ||| x5)).bind fun w4 =>
  o_nm ((t_spoke + v2)) fun v5 =>
  if v2 = 0 then (some (x3, v5, t_holds, w4))
  else ((o_rm v2 (2 : Int32)).bind fun v7 =>
  if v7 = 0 then (some ((t_all &&& (x3 ^^^ (-1 : Int32))), v5, t_holds, w4))
  else (o_nm ((t_holds ||| ((1 : Int32) <<< (x2 &&& 31)))) fun v9 =>
  if x5 = 0 then ((f_X11_least x3).bind fun o21 =>
  some ((x3 &&& (((1 : Int32) <<< (o21 &&& 31)) ^^^ (-1 : Int32))), v5, v9, w4))
  else ((f_X11_least x5).bind fun o11 =>
  (o_ld pinched 18 o11).bind fun v12 =>
  (f_X11_least (v12 &&& x3)).bind fun o13 =>
  o_nm ((x3 &&& (((1 : Int32) <<< (o13 &&& 31)) ^^^ (-1 : Int32)))) fun v14 =>
  (o_ld says 18 o11).bind fun v15 =>
  if (8 : Int32) ≤ v15 then (some (v14, v5, v9, w4))
  else ((o_ld says 18 o11).bind fun v17 =>
  (f_X11_has t_all v17).bind fun o18 =>
  if o18 = 0 then (some (v14, v5, v9, w4))
  else ((o_ld says 18 o11).bind fun v20 =>
  some ((v14 ||| ((1 : Int32) <<< (v20 &&& 31))), v5, v9, w4))))))
def f_X11_cryAt (t_all : Int32) (t_hearers : Int32) (t_spoke : Int32) (t_holds : Int32) (pinched : Nat → Int32) (says : Nat → Int32) (w : Nat → Int32) (x1 : Int32) (x2 : Int32) (x3 : Int32) (x4 : Int32) : Option (Int32 × Int32 × Int32 × (Nat → Int32)) :=
  (f_X11_speakers t_hearers pinched w x1 x2 x3 x4).bind fun o22 =>
  (f_X11_ones o22).bind fun o23 =>
  if x4 = 0 then (f_X11_cryAt_30 t_all pinched says t_spoke t_holds w x1 x2 x3 o22 o23 (0 : Int32))
  else (if x3 = 0 then (f_X11_cryAt_30 t_all pinched says t_spoke t_holds w x1 x2 x3 o22 o23 (0 : Int32))
  else (f_X11_cryAt_30 t_all pinched says t_spoke t_holds w x1 x2 x3 o22 o23 (1 : Int32)))
theorem hdS_X11_cryAt : yX11_cryAt.cls ≠ "java/lang/invoke/MethodHandle" ∧ yX11_cryAt.cls ≠ "java/lang/invoke/VarHandle" ∧ (parseMethodDescriptor yX11_cryAt.desc).map (fun d => d.parameters.length) = some 4 := by decide +kernel
theorem hdV_X11_cryAt : yX11_cryAt.cls = RX11 ∧ yX11_cryAt.cls ≠ "java/lang/invoke/MethodHandle" ∧ yX11_cryAt.cls ≠ "java/lang/invoke/VarHandle" ∧ (parseMethodDescriptor yX11_cryAt.desc).map (fun d => d.parameters.length) = some 4 := ⟨rfl, hdS_X11_cryAt⟩
set_option maxHeartbeats 4000000 in
set_option maxRecDepth 100000 in
theorem c_X11_cryAt (l : Launch) (D : va_G) (a : Nat → ClassId) (t : Nat) (q_t : Nat) (q_w : Nat) (q_isKept : Nat) (t_all : Int32) (t_corners : Int32) (t_hearers : Int32) (t_newAll : Int32) (t_newCorners : Int32) (t_newHearers : Int32) (q_beer : Nat) (q_cold : Nat) (q_stands : Nat) (q_pinched : Nat) (q_says : Nat) (q_text : Nat) (t_textSize : Int32) (t_at : Int32) (t_first : Int32) (t_faultOf : Int32) (t_fault : Int32) (t_spoke : Int32) (t_holds : Int32) (t_undoMany : Int32) (q_seenDecree : Nat) (q_seenAt : Nat) (q_seenSpoke : Nat) (t_seen : Int32) (q_inSets : Nat) (q_book : Nat) (t_written : Int32) (pinched : Nat → Int32) (says : Nat → Int32) (w : Nat → Int32) (x1 : Int32) (x2 : Int32) (x3 : Int32) (x4 : Int32) (r : Int32) (o_t_spoke : Int32) (o_t_holds : Int32) (o_w : Nat → Int32) (hf : f_X11_cryAt t_all t_hearers t_spoke t_holds pinched says w x1 x2 x3 x4 = some (r, o_t_spoke, o_t_holds, o_w)) : Ki l yX11_cryAt wsX11_cryAt 3 72 D a t [.ref q_t, .int x1, .int x2, .int x3, .int x4] [(q_t, .inr (11, [.ref q_w, .ref q_isKept, .int t_all, .int t_corners, .int t_hearers, .int t_newAll, .int t_newCorners, .int t_newHearers, .ref q_beer, .ref q_cold, .ref q_stands, .ref q_pinched, .ref q_says, .ref q_text, .int t_textSize, .int t_at, .int t_first, .int t_faultOf, .int t_fault, .int t_spoke, .int t_holds, .int t_undoMany, .ref q_seenDecree, .ref q_seenAt, .ref q_seenSpoke, .int t_seen, .ref q_inSets, .ref q_book, .int t_written])), (q_pinched, .inl (a 0, 18, .inl pinched)), (q_says, .inl (a 0, 18, .inl says)), (q_w, .inl (a 0, 578, .inl w))] [(q_t, .inr (11, [.ref q_w, .ref q_isKept, .int t_all, .int t_corners, .int t_hearers, .int t_newAll, .int t_newCorners, .int t_newHearers, .ref q_beer, .ref q_cold, .ref q_stands, .ref q_pinched, .ref q_says, .ref q_text, .int t_textSize, .int t_at, .int t_first, .int t_faultOf, .int t_fault, .int o_t_spoke, .int o_t_holds, .int t_undoMany, .ref q_seenDecree, .ref q_seenAt, .ref q_seenSpoke, .int t_seen, .ref q_inSets, .ref q_book, .int t_written])), (q_pinched, .inl (a 0, 18, .inl pinched)), (q_says, .inl (a 0, 18, .inl says)), (q_w, .inl (a 0, 578, .inl o_w))] r := by
  refine Ki.mk (cc := cX11_cryAt) (nL := 9) (ty := .int) (own := RX11) (by decide) rfl rfl (Nat.le_of_ble_eq_true rfl) ?_
  intro p e s m args below meth c A Q ls hX hP hD hS hl hret
  have hx := hX.1.1
  have hb := hX.1.2.1
  have hown := hX.1.2.2.2.1
  have hts := hX.1.2.2.2.2
  have hN := hX.2.2.1
  have hA := hX.2.2.2.2
  have hl : lv_has ls 9 [(0, .ref q_t), (1, .int x1), (2, .int x2), (3, .int x3), (4, .int x4)] := hl
  have hk1 := hts (.fieldLink RX11 7 "GainsaidOnceModel" "w" "[I") (List.mem_of_getElem? (i := 1) rfl)
  have hk2 := hts (.fieldLink RX11 167 "GainsaidOnceModel" "spoke" "I") (List.mem_of_getElem? (i := 2) rfl)
  have hk3 := hts (.fieldLink RX11 126 "GainsaidOnceModel" "all" "I") (List.mem_of_getElem? (i := 3) rfl)
  have hk4 := hts (.fieldLink RX11 170 "GainsaidOnceModel" "holds" "I") (List.mem_of_getElem? (i := 4) rfl)
  have hk5 := hts (.fieldLink RX11 26 "GainsaidOnceModel" "pinched" "[I") (List.mem_of_getElem? (i := 5) rfl)
  have hk6 := hts (.fieldLink RX11 29 "GainsaidOnceModel" "says" "[I") (List.mem_of_getElem? (i := 6) rfl)
  have hiX11 : ∀ w ∈ wsX110, w ∈ wsX11_cryAt := (fun _ h => List.mem_cons_of_mem _ (List.mem_append_right _ h))
  have L_30 : ∀ (t_spoke : Int32) (t_holds : Int32) (w : (Nat → Int32)) (x1 : Int32) (x2 : Int32) (x3 : Int32) (x5 : Int32) (s0 : Int32) (s1 : Int32) (H : Heap) (locs : List Loc) (ls : Array Slot), f_X11_cryAt_30 t_all pinched says t_spoke t_holds w x1 x2 x3 x5 s0 s1 = some (r, o_t_spoke, o_t_holds, o_w) → va_P D vwCl [(q_t, .inr (11, [.ref q_w, .ref q_isKept, .int t_all, .int t_corners, .int t_hearers, .int t_newAll, .int t_newCorners, .int t_newHearers, .ref q_beer, .ref q_cold, .ref q_stands, .ref q_pinched, .ref q_says, .ref q_text, .int t_textSize, .int t_at, .int t_first, .int t_faultOf, .int t_fault, .int t_spoke, .int t_holds, .int t_undoMany, .ref q_seenDecree, .ref q_seenAt, .ref q_seenSpoke, .int t_seen, .ref q_inSets, .ref q_book, .int t_written])), (q_pinched, .inl (a 0, 18, .inl pinched)), (q_says, .inl (a 0, 18, .inl says)), (q_w, .inl (a 0, 578, .inl w))] H → va_D A [(q_t, .inr (11, [.ref q_w, .ref q_isKept, .int t_all, .int t_corners, .int t_hearers, .int t_newAll, .int t_newCorners, .int t_newHearers, .ref q_beer, .ref q_cold, .ref q_stands, .ref q_pinched, .ref q_says, .ref q_text, .int t_textSize, .int t_at, .int t_first, .int t_faultOf, .int t_fault, .int t_spoke, .int t_holds, .int t_undoMany, .ref q_seenDecree, .ref q_seenAt, .ref q_seenSpoke, .int t_seen, .ref q_inSets, .ref q_book, .int t_written])), (q_pinched, .inl (a 0, 18, .inl pinched)), (q_says, .inl (a 0, 18, .inl says)), (q_w, .inl (a 0, 578, .inl w))] → va_S A s.heap H locs → lv_has ls 9 [(0, .ref q_t), (1, .int x1), (2, .int x2), (3, .int x3), (5, .int x5)] → W p l e { frames := 3, cells := 0, slots := 0, locals := 72 } s m args below meth c H locs 0 0 Q (F0 m 30 ls [.int s1, .int s0]) := by
    intro t_spoke t_holds w x1 x2 x3 x5 s0 s1 H locs ls hf hP hD hS hl
    unfold f_X11_cryAt_30 at hf
    obtain ⟨o1, ho1, hf⟩ := o_bd hf
    refine call_iS hX (c_X11_one l D a t s1 o1 ho1) (va_cwS 1 hts gX11_cryAt_X11_one rfl rfl rfl hdS_X11_one ⟨by decide, by decide⟩) (Cut.none hA hP hD hS) hS rfl hl.1 rfl (Nat.le_of_ble_eq_true rfl) dX11_cryAt_30 (by decide) (fun H locs hP hD hS => ?_)
    refine lv_iadd hx hb dX11_cryAt_33 ?_
    refine lv_topi (fun v2 ev2 => ?_)
    replace hf := o_nmh hf v2 ev2
    refine lv_istore (lv' := [(6, .int v2), (0, .ref q_t), (1, .int x1), (2, .int x2), (3, .int x3), (5, .int x5)]) hx hb dX11_cryAt_34 hl (by decide) rfl (fun ls hl => ?_)
    refine lv_aload_n hx hb dX11_cryAt_36 rfl (lv_at hl 1 rfl) ?_
    refine g_get hX hiX11 hP 0 rfl rfl 0 (by decide) hk1 rfl rfl dX11_cryAt_37 ?_
    refine lv_iload_n hx hb dX11_cryAt_40 rfl (lv_at hl 2 rfl) ?_
    refine lv_bipush (v := (9 : Int32)) hx hb dX11_cryAt_41 (by decide) ?_
    refine lv_iadd hx hb dX11_cryAt_43 ?_
    refine lv_dup2_11 hx hb dX11_cryAt_44 rfl rfl ?_
    obtain ⟨hiv3, hf⟩ := o_ldh hf
    refine g_iald hX hP 3 rfl hiv3 dX11_cryAt_45 (fun v3 ev3 => ?_)
    replace hf := hf v3 ev3
    refine lv_iload hx hb dX11_cryAt_46 (lv_at hl 5 rfl) ?_
    refine lv_ior hx hb dX11_cryAt_48 ?_
    obtain ⟨hiw4, hf⟩ := o_sth hf
    refine g_iast hX hP hD hS 3 rfl hiw4 dX11_cryAt_49 (fun w4 ew4 H locs hP hD hS => ?_)
    replace hf := hf w4 ew4
    replace hP : va_P D vwCl [(q_t, .inr (11, [.ref q_w, .ref q_isKept, .int t_all, .int t_corners, .int t_hearers, .int t_newAll, .int t_newCorners, .int t_newHearers, .ref q_beer, .ref q_cold, .ref q_stands, .ref q_pinched, .ref q_says, .ref q_text, .int t_textSize, .int t_at, .int t_first, .int t_faultOf, .int t_fault, .int t_spoke, .int t_holds, .int t_undoMany, .ref q_seenDecree, .ref q_seenAt, .ref q_seenSpoke, .int t_seen, .ref q_inSets, .ref q_book, .int t_written])), (q_pinched, .inl (a 0, 18, .inl pinched)), (q_says, .inl (a 0, 18, .inl says)), (q_w, .inl (a 0, 578, .inl w4))] H := hP
    replace hD : va_D A [(q_t, .inr (11, [.ref q_w, .ref q_isKept, .int t_all, .int t_corners, .int t_hearers, .int t_newAll, .int t_newCorners, .int t_newHearers, .ref q_beer, .ref q_cold, .ref q_stands, .ref q_pinched, .ref q_says, .ref q_text, .int t_textSize, .int t_at, .int t_first, .int t_faultOf, .int t_fault, .int t_spoke, .int t_holds, .int t_undoMany, .ref q_seenDecree, .ref q_seenAt, .ref q_seenSpoke, .int t_seen, .ref q_inSets, .ref q_book, .int t_written])), (q_pinched, .inl (a 0, 18, .inl pinched)), (q_says, .inl (a 0, 18, .inl says)), (q_w, .inl (a 0, 578, .inl w4))] := hD
    refine lv_aload_n hx hb dX11_cryAt_50 rfl (lv_at hl 1 rfl) ?_
    refine lv_dup hx hb dX11_cryAt_51 rfl ?_
    refine g_get hX hiX11 hP 0 rfl rfl 19 (by decide) hk2 rfl rfl dX11_cryAt_52 ?_
    refine lv_iload hx hb dX11_cryAt_55 (lv_at hl 0 rfl) ?_
    refine lv_iadd hx hb dX11_cryAt_57 ?_
    refine lv_topi (fun v5 ev5 => ?_)
    replace hf := o_nmh hf v5 ev5
    refine g_put hX hiX11 tyX11 tyX11_ok nmX11 hP hD hS 0 rfl rfl 19 (by decide) hk2 rfl rfl rfl rfl (Nat.le_of_ble_eq_true rfl) dX11_cryAt_58 (fun H locs hP hD hS => ?_)
    replace hP : va_P D vwCl [(q_t, .inr (11, [.ref q_w, .ref q_isKept, .int t_all, .int t_corners, .int t_hearers, .int t_newAll, .int t_newCorners, .int t_newHearers, .ref q_beer, .ref q_cold, .ref q_stands, .ref q_pinched, .ref q_says, .ref q_text, .int t_textSize, .int t_at, .int t_first, .int t_faultOf, .int t_fault, .int v5, .int t_holds, .int t_undoMany, .ref q_seenDecree, .ref q_seenAt, .ref q_seenSpoke, .int t_seen, .ref q_inSets, .ref q_book, .int t_written])), (q_pinched, .inl (a 0, 18, .inl pinched)), (q_says, .inl (a 0, 18, .inl says)), (q_w, .inl (a 0, 578, .inl w4))] H := hP
    replace hD : va_D A [(q_t, .inr (11, [.ref q_w, .ref q_isKept, .int t_all, .int t_corners, .int t_hearers, .int t_newAll, .int t_newCorners, .int t_newHearers, .ref q_beer, .ref q_cold, .ref q_stands, .ref q_pinched, .ref q_says, .ref q_text, .int t_textSize, .int t_at, .int t_first, .int t_faultOf, .int t_fault, .int v5, .int t_holds, .int t_undoMany, .ref q_seenDecree, .ref q_seenAt, .ref q_seenSpoke, .int t_seen, .ref q_inSets, .ref q_book, .int t_written])), (q_pinched, .inl (a 0, 18, .inl pinched)), (q_says, .inl (a 0, 18, .inl says)), (q_w, .inl (a 0, 578, .inl w4))] := hD
    refine lv_iload hx hb dX11_cryAt_61 (lv_at hl 0 rfl) ?_
    refine lv_if_ne (tgt := 68) hx hb dX11_cryAt_63 (by decide) (fun c6 => ?_) (fun c6 => ?_)
    · replace hf := o_ifn hf c6
      refine lv_iload hx hb dX11_cryAt_68 (lv_at hl 0 rfl) ?_
      refine lv_iconst (v := (2 : Int32)) hx hb dX11_cryAt_70 (by decide) ?_
      obtain ⟨hzv7, hf⟩ := o_rmh hf
      refine lv_irem hx hb dX11_cryAt_71 hzv7 ?_
      refine lv_topi (fun v7 ev7 => ?_)
      replace hf := hf v7 ev7
      refine lv_if_ne (tgt := 84) hx hb dX11_cryAt_72 (by decide) (fun c8 => ?_) (fun c8 => ?_)
      · replace hf := o_ifn hf c8
        refine lv_aload_n hx hb dX11_cryAt_84 rfl (lv_at hl 1 rfl) ?_
        refine lv_dup hx hb dX11_cryAt_85 rfl ?_
        refine g_get hX hiX11 hP 0 rfl rfl 20 (by decide) hk4 rfl rfl dX11_cryAt_86 ?_
        refine lv_iconst (v := (1 : Int32)) hx hb dX11_cryAt_89 (by decide) ?_
        refine lv_iload_n hx hb dX11_cryAt_90 rfl (lv_at hl 3 rfl) ?_
        refine lv_ishl hx hb dX11_cryAt_91 ?_
        refine lv_ior hx hb dX11_cryAt_92 ?_
        refine lv_topi (fun v9 ev9 => ?_)
        replace hf := o_nmh hf v9 ev9
        refine g_put hX hiX11 tyX11 tyX11_ok nmX11 hP hD hS 0 rfl rfl 20 (by decide) hk4 rfl rfl rfl rfl (Nat.le_of_ble_eq_true rfl) dX11_cryAt_93 (fun H locs hP hD hS => ?_)
        replace hP : va_P D vwCl [(q_t, .inr (11, [.ref q_w, .ref q_isKept, .int t_all, .int t_corners, .int t_hearers, .int t_newAll, .int t_newCorners, .int t_newHearers, .ref q_beer, .ref q_cold, .ref q_stands, .ref q_pinched, .ref q_says, .ref q_text, .int t_textSize, .int t_at, .int t_first, .int t_faultOf, .int t_fault, .int v5, .int v9, .int t_undoMany, .ref q_seenDecree, .ref q_seenAt, .ref q_seenSpoke, .int t_seen, .ref q_inSets, .ref q_book, .int t_written])), (q_pinched, .inl (a 0, 18, .inl pinched)), (q_says, .inl (a 0, 18, .inl says)), (q_w, .inl (a 0, 578, .inl w4))] H := hP
        replace hD : va_D A [(q_t, .inr (11, [.ref q_w, .ref q_isKept, .int t_all, .int t_corners, .int t_hearers, .int t_newAll, .int t_newCorners, .int t_newHearers, .ref q_beer, .ref q_cold, .ref q_stands, .ref q_pinched, .ref q_says, .ref q_text, .int t_textSize, .int t_at, .int t_first, .int t_faultOf, .int t_fault, .int v5, .int v9, .int t_undoMany, .ref q_seenDecree, .ref q_seenAt, .ref q_seenSpoke, .int t_seen, .ref q_inSets, .ref q_book, .int t_written])), (q_pinched, .inl (a 0, 18, .inl pinched)), (q_says, .inl (a 0, 18, .inl says)), (q_w, .inl (a 0, 578, .inl w4))] := hD
        refine lv_iload hx hb dX11_cryAt_96 (lv_at hl 5 rfl) ?_
        refine lv_if_ne (tgt := 112) hx hb dX11_cryAt_98 (by decide) (fun c10 => ?_) (fun c10 => ?_)
        · replace hf := o_ifn hf c10
          refine lv_iload hx hb dX11_cryAt_112 (lv_at hl 5 rfl) ?_
          obtain ⟨o11, ho11, hf⟩ := o_bd hf
          refine call_iS hX (c_X11_least l D a t x5 o11 ho11) (va_cwS 1 hts gX11_cryAt_X11_least rfl rfl rfl hdS_X11_least ⟨by decide, by decide⟩) (Cut.none hA hP hD hS) hS rfl hl.1 rfl (Nat.le_of_ble_eq_true rfl) dX11_cryAt_114 (by decide) (fun H locs hP hD hS => ?_)
          refine lv_istore (lv' := [(7, .int o11), (6, .int v2), (0, .ref q_t), (1, .int x1), (2, .int x2), (3, .int x3), (5, .int x5)]) hx hb dX11_cryAt_117 hl (by decide) rfl (fun ls hl => ?_)
          refine lv_iload_n hx hb dX11_cryAt_119 rfl (lv_at hl 5 rfl) ?_
          refine lv_iconst (v := (1 : Int32)) hx hb dX11_cryAt_120 (by decide) ?_
          refine lv_aload_n hx hb dX11_cryAt_121 rfl (lv_at hl 2 rfl) ?_
          refine g_get hX hiX11 hP 0 rfl rfl 11 (by decide) hk5 rfl rfl dX11_cryAt_122 ?_
          refine lv_iload hx hb dX11_cryAt_125 (lv_at hl 0 rfl) ?_
          obtain ⟨hiv12, hf⟩ := o_ldh hf
          refine g_iald hX hP 1 rfl hiv12 dX11_cryAt_127 (fun v12 ev12 => ?_)
          replace hf := hf v12 ev12
          refine lv_iload_n hx hb dX11_cryAt_128 rfl (lv_at hl 5 rfl) ?_
          refine lv_iand hx hb dX11_cryAt_129 ?_
          obtain ⟨o13, ho13, hf⟩ := o_bd hf
          refine call_iS hX (c_X11_least l D a t (v12 &&& x3) o13 ho13) (va_cwS 1 hts gX11_cryAt_X11_least rfl rfl rfl hdS_X11_least ⟨by decide, by decide⟩) (Cut.none hA hP hD hS) hS rfl hl.1 rfl (Nat.le_of_ble_eq_true rfl) dX11_cryAt_130 (by decide) (fun H locs hP hD hS => ?_)
          refine lv_ishl hx hb dX11_cryAt_133 ?_
          refine lv_iconst (v := (-1 : Int32)) hx hb dX11_cryAt_134 (by decide) ?_
          refine lv_ixor hx hb dX11_cryAt_135 ?_
          refine lv_iand hx hb dX11_cryAt_136 ?_
          refine lv_topi (fun v14 ev14 => ?_)
          replace hf := o_nmh hf v14 ev14
          refine lv_istore (lv' := [(8, .int v14), (7, .int o11), (6, .int v2), (0, .ref q_t), (1, .int x1), (2, .int x2), (3, .int x3), (5, .int x5)]) hx hb dX11_cryAt_137 hl (by decide) rfl (fun ls hl => ?_)
          refine lv_aload_n hx hb dX11_cryAt_139 rfl (lv_at hl 3 rfl) ?_
          refine g_get hX hiX11 hP 0 rfl rfl 12 (by decide) hk6 rfl rfl dX11_cryAt_140 ?_
          refine lv_iload hx hb dX11_cryAt_143 (lv_at hl 1 rfl) ?_
          obtain ⟨hiv15, hf⟩ := o_ldh hf
          refine g_iald hX hP 2 rfl hiv15 dX11_cryAt_145 (fun v15 ev15 => ?_)
          replace hf := hf v15 ev15
          refine lv_bipush (v := (8 : Int32)) hx hb dX11_cryAt_146 (by decide) ?_
          refine lv_icmp_ge (tgt := 183) hx hb dX11_cryAt_148 (by decide) (fun c16 => ?_) (fun c16 => ?_)
          · replace hf := o_ifp hf c16
            refine lv_iload hx hb dX11_cryAt_183 (lv_at hl 0 rfl) ?_
            cases hf
            exact hret _ _ _ _ (vp_nar_int _) hP hD hS dX11_cryAt_185
          replace hf := o_ifn hf c16
          refine lv_aload_n hx hb dX11_cryAt_151 rfl (lv_at hl 3 rfl) ?_
          refine g_get hX hiX11 hP 0 rfl rfl 2 (by decide) hk3 rfl rfl dX11_cryAt_152 ?_
          refine lv_aload_n hx hb dX11_cryAt_155 rfl (lv_at hl 3 rfl) ?_
          refine g_get hX hiX11 hP 0 rfl rfl 12 (by decide) hk6 rfl rfl dX11_cryAt_156 ?_
          refine lv_iload hx hb dX11_cryAt_159 (lv_at hl 1 rfl) ?_
          obtain ⟨hiv17, hf⟩ := o_ldh hf
          refine g_iald hX hP 2 rfl hiv17 dX11_cryAt_161 (fun v17 ev17 => ?_)
          replace hf := hf v17 ev17
          obtain ⟨o18, ho18, hf⟩ := o_bd hf
          refine call_iS hX (c_X11_has l D a t t_all v17 o18 ho18) (va_cwS 2 hts gX11_cryAt_X11_has rfl rfl rfl hdS_X11_has ⟨by decide, by decide⟩) (Cut.none hA hP hD hS) hS rfl hl.1 rfl (Nat.le_of_ble_eq_true rfl) dX11_cryAt_162 (by decide) (fun H locs hP hD hS => ?_)
          refine lv_if_eq (tgt := 183) hx hb dX11_cryAt_165 (by decide) (fun c19 => ?_) (fun c19 => ?_)
          · replace hf := o_ifp hf c19
            refine lv_iload hx hb dX11_cryAt_183 (lv_at hl 0 rfl) ?_
            cases hf
            exact hret _ _ _ _ (vp_nar_int _) hP hD hS dX11_cryAt_185
          replace hf := o_ifn hf c19
          refine lv_iload hx hb dX11_cryAt_168 (lv_at hl 0 rfl) ?_
          refine lv_iconst (v := (1 : Int32)) hx hb dX11_cryAt_170 (by decide) ?_
          refine lv_aload_n hx hb dX11_cryAt_171 rfl (lv_at hl 3 rfl) ?_
          refine g_get hX hiX11 hP 0 rfl rfl 12 (by decide) hk6 rfl rfl dX11_cryAt_172 ?_
          refine lv_iload hx hb dX11_cryAt_175 (lv_at hl 1 rfl) ?_
          obtain ⟨hiv20, hf⟩ := o_ldh hf
          refine g_iald hX hP 2 rfl hiv20 dX11_cryAt_177 (fun v20 ev20 => ?_)
          replace hf := hf v20 ev20
          refine lv_ishl hx hb dX11_cryAt_178 ?_
          refine lv_ior hx hb dX11_cryAt_179 ?_
          refine lv_goto (tgt := 185) hx hb dX11_cryAt_180 (by decide) ?_
          cases hf
          exact hret _ _ _ _ (vp_nar_int _) hP hD hS dX11_cryAt_185
        replace hf := o_ifp hf c10
        refine lv_iload_n hx hb dX11_cryAt_101 rfl (lv_at hl 4 rfl) ?_
        refine lv_iconst (v := (1 : Int32)) hx hb dX11_cryAt_102 (by decide) ?_
        refine lv_iload_n hx hb dX11_cryAt_103 rfl (lv_at hl 4 rfl) ?_
        obtain ⟨o21, ho21, hf⟩ := o_bd hf
        refine call_iS hX (c_X11_least l D a t x3 o21 ho21) (va_cwS 1 hts gX11_cryAt_X11_least rfl rfl rfl hdS_X11_least ⟨by decide, by decide⟩) (Cut.none hA hP hD hS) hS rfl hl.1 rfl (Nat.le_of_ble_eq_true rfl) dX11_cryAt_104 (by decide) (fun H locs hP hD hS => ?_)
        refine lv_ishl hx hb dX11_cryAt_107 ?_
        refine lv_iconst (v := (-1 : Int32)) hx hb dX11_cryAt_108 (by decide) ?_
        refine lv_ixor hx hb dX11_cryAt_109 ?_
        refine lv_iand hx hb dX11_cryAt_110 ?_
        cases hf
        exact hret _ _ _ _ (vp_nar_int _) hP hD hS dX11_cryAt_111
      replace hf := o_ifp hf c8
      refine lv_aload_n hx hb dX11_cryAt_75 rfl (lv_at hl 1 rfl) ?_
      refine g_get hX hiX11 hP 0 rfl rfl 2 (by decide) hk3 rfl rfl dX11_cryAt_76 ?_
      refine lv_iload_n hx hb dX11_cryAt_79 rfl (lv_at hl 4 rfl) ?_
      refine lv_iconst (v := (-1 : Int32)) hx hb dX11_cryAt_80 (by decide) ?_
      refine lv_ixor hx hb dX11_cryAt_81 ?_
      refine lv_iand hx hb dX11_cryAt_82 ?_
      cases hf
      exact hret _ _ _ _ (vp_nar_int _) hP hD hS dX11_cryAt_83
    replace hf := o_ifp hf c6
    refine lv_iload_n hx hb dX11_cryAt_66 rfl (lv_at hl 4 rfl) ?_
    cases hf
    exact hret _ _ _ _ (vp_nar_int _) hP hD hS dX11_cryAt_67
  unfold f_X11_cryAt at hf
  refine lv_aload_n hx hb dX11_cryAt_0 rfl (lv_at hl 0 rfl) ?_
  refine lv_iload_n hx hb dX11_cryAt_1 rfl (lv_at hl 1 rfl) ?_
  refine lv_iload_n hx hb dX11_cryAt_2 rfl (lv_at hl 2 rfl) ?_
  refine lv_iload_n hx hb dX11_cryAt_3 rfl (lv_at hl 3 rfl) ?_
  refine lv_iload hx hb dX11_cryAt_4 (lv_at hl 4 rfl) ?_
  obtain ⟨o22, ho22, hf⟩ := o_bd hf
  refine call_iV (q0 := 0) (ci := 11) hX (c_X11_speakers l D a t q_t q_w q_isKept t_all t_corners t_hearers t_newAll t_newCorners t_newHearers q_beer q_cold q_stands q_pinched q_says q_text t_textSize t_at t_first t_faultOf t_fault t_spoke t_holds t_undoMany q_seenDecree q_seenAt q_seenSpoke t_seen q_inSets q_book t_written pinched w x1 x2 x3 x4 o22 ho22) (cwV 4 hts gX11_cryAt_X11_speakers rfl rfl rfl hdV_X11_speakers ⟨by decide, by decide⟩) (Cut.of hA hP hD hS [0, 1, 3] (by decide) rfl rfl (W' := [(q_t, .inr (11, [.ref q_w, .ref q_isKept, .int t_all, .int t_corners, .int t_hearers, .int t_newAll, .int t_newCorners, .int t_newHearers, .ref q_beer, .ref q_cold, .ref q_stands, .ref q_pinched, .ref q_says, .ref q_text, .int t_textSize, .int t_at, .int t_first, .int t_faultOf, .int t_fault, .int t_spoke, .int t_holds, .int t_undoMany, .ref q_seenDecree, .ref q_seenAt, .ref q_seenSpoke, .int t_seen, .ref q_inSets, .ref q_book, .int t_written])), (q_pinched, .inl (a 0, 18, .inl pinched)), (q_says, .inl (a 0, 18, .inl says)), (q_w, .inl (a 0, 578, .inl w))]) rfl) hS rfl rfl rfl hl.1 rfl (Nat.le_of_ble_eq_true rfl) dX11_cryAt_6 (by decide) (fun H locs hP hD hS => ?_)
  replace hP : va_P D vwCl [(q_t, .inr (11, [.ref q_w, .ref q_isKept, .int t_all, .int t_corners, .int t_hearers, .int t_newAll, .int t_newCorners, .int t_newHearers, .ref q_beer, .ref q_cold, .ref q_stands, .ref q_pinched, .ref q_says, .ref q_text, .int t_textSize, .int t_at, .int t_first, .int t_faultOf, .int t_fault, .int t_spoke, .int t_holds, .int t_undoMany, .ref q_seenDecree, .ref q_seenAt, .ref q_seenSpoke, .int t_seen, .ref q_inSets, .ref q_book, .int t_written])), (q_pinched, .inl (a 0, 18, .inl pinched)), (q_says, .inl (a 0, 18, .inl says)), (q_w, .inl (a 0, 578, .inl w))] H := hP
  replace hD : va_D A [(q_t, .inr (11, [.ref q_w, .ref q_isKept, .int t_all, .int t_corners, .int t_hearers, .int t_newAll, .int t_newCorners, .int t_newHearers, .ref q_beer, .ref q_cold, .ref q_stands, .ref q_pinched, .ref q_says, .ref q_text, .int t_textSize, .int t_at, .int t_first, .int t_faultOf, .int t_fault, .int t_spoke, .int t_holds, .int t_undoMany, .ref q_seenDecree, .ref q_seenAt, .ref q_seenSpoke, .int t_seen, .ref q_inSets, .ref q_book, .int t_written])), (q_pinched, .inl (a 0, 18, .inl pinched)), (q_says, .inl (a 0, 18, .inl says)), (q_w, .inl (a 0, 578, .inl w))] := hD
  refine lv_istore (lv' := [(5, .int o22), (0, .ref q_t), (1, .int x1), (2, .int x2), (3, .int x3), (4, .int x4)]) hx hb dX11_cryAt_9 hl (by decide) rfl (fun ls hl => ?_)
  refine lv_iload hx hb dX11_cryAt_11 (lv_at hl 0 rfl) ?_
  obtain ⟨o23, ho23, hf⟩ := o_bd hf
  refine call_iS hX (c_X11_ones l D a t o22 o23 ho23) (va_cwS 1 hts gX11_cryAt_X11_ones rfl rfl rfl hdS_X11_ones ⟨by decide, by decide⟩) (Cut.none hA hP hD hS) hS rfl hl.1 rfl (Nat.le_of_ble_eq_true rfl) dX11_cryAt_13 (by decide) (fun H locs hP hD hS => ?_)
  refine lv_iload hx hb dX11_cryAt_16 (lv_at hl 5 rfl) ?_
  refine lv_if_eq (tgt := 29) hx hb dX11_cryAt_18 (by decide) (fun c24 => ?_) (fun c24 => ?_)
  · replace hf := o_ifp hf c24
    refine lv_iconst (v := (0 : Int32)) hx hb dX11_cryAt_29 (by decide) ?_
    exact L_30 t_spoke t_holds w x1 x2 x3 o22 o23 (0 : Int32) _ _ _ hf hP hD hS (lv_sub hl [1, 2, 3, 4, 0] rfl)
  replace hf := o_ifn hf c24
  refine lv_iload_n hx hb dX11_cryAt_21 rfl (lv_at hl 4 rfl) ?_
  refine lv_if_eq (tgt := 29) hx hb dX11_cryAt_22 (by decide) (fun c25 => ?_) (fun c25 => ?_)
  · replace hf := o_ifp hf c25
    refine lv_iconst (v := (0 : Int32)) hx hb dX11_cryAt_29 (by decide) ?_
    exact L_30 t_spoke t_holds w x1 x2 x3 o22 o23 (0 : Int32) _ _ _ hf hP hD hS (lv_sub hl [1, 2, 3, 4, 0] rfl)
  replace hf := o_ifn hf c25
  refine lv_iconst (v := (1 : Int32)) hx hb dX11_cryAt_25 (by decide) ?_
  refine lv_goto (tgt := 30) hx hb dX11_cryAt_26 (by decide) ?_
  exact L_30 t_spoke t_holds w x1 x2 x3 o22 o23 (1 : Int32) _ _ _ hf hP hD hS (lv_sub hl [1, 2, 3, 4, 0] rfl)
def f_X11_roundIn_57 (t_all : Int32) (t_corners : Int32) (t_hearers : Int32) (pinched : Nat → Int32) (says : Nat → Int32) (k_16 : Int32 → Int32 → (Nat → Int32) → Int32 → Int32 → Int32 → Int32 → Int32 → Int32 → Option (Int32 × Int32 × Int32 × (Nat → Int32))) (t_spoke : Int32) (t_holds : Int32) (w : (Nat → Int32)) (x1 : Int32) (x3 : Int32) (x4 : Int32) (x5 : Int32) (x6 : Int32) (x7 : Int32) (s0 : Int32) : Option (Int32 × Int32 × Int32 × (Nat → Int32)) :=
  (f_X11_has x5 s0).bind fun o1 =>
  (f_X11_cryAt t_all t_hearers t_spoke t_holds pinched says w x1 s0 x6 o1).bind fun o2 =>
  o_nm (x7 + (1 : Int32)) fun v3 =>
  k_16 o2.2.1 o2.2.2.1 o2.2.2.2 x1 x3 x4 x5 o2.1 v3
def f_X11_roundIn_16 (t_all : Int32) (t_corners : Int32) (t_hearers : Int32) (pinched : Nat → Int32) (says : Nat → Int32) : Nat → Int32 → Int32 → (Nat → Int32) → Int32 → Int32 → Int32 → Int32 → Int32 → Int32 → Option (Int32 × Int32 × Int32 × (Nat → Int32))
  | 0, _, _, _, _, _, _, _, _, _ => none
  | n_16 + 1, t_spoke, t_holds, w, x1, x3, x4, x5, x6, x7 =>
    if t_corners ≤ x7 then (some (x6, t_spoke, t_holds, w))
    else (if x4 = (1 : Int32) then ((o_rm (x3 + x7) t_corners).bind fun v7 =>
    f_X11_roundIn_57 t_all t_corners t_hearers pinched says (f_X11_roundIn_16 t_all t_corners t_hearers pinched says n_16) t_spoke t_holds w x1 x3 x4 x5 x6 x7 v7)
    else ((o_rm ((x3 - x7) + t_corners) t_corners).bind fun v6 =>
    f_X11_roundIn_57 t_all t_corners t_hearers pinched says (f_X11_roundIn_16 t_all t_corners t_hearers pinched says n_16) t_spoke t_holds w x1 x3 x4 x5 x6 x7 v6))
def f_X11_roundIn (t_all : Int32) (t_corners : Int32) (t_hearers : Int32) (t_spoke : Int32) (t_holds : Int32) (pinched : Nat → Int32) (says : Nat → Int32) (w : Nat → Int32) (x1 : Int32) (x2 : Int32) (x3 : Int32) (x4 : Int32) (x5 : Int32) : Option (Int32 × Int32 × Int32 × (Nat → Int32)) :=
  f_X11_roundIn_16 t_all t_corners t_hearers pinched says 1000 (0 : Int32) (0 : Int32) w x1 x3 x4 x5 x2 (0 : Int32)
theorem hdS_X11_roundIn : yX11_roundIn.cls ≠ "java/lang/invoke/MethodHandle" ∧ yX11_roundIn.cls ≠ "java/lang/invoke/VarHandle" ∧ (parseMethodDescriptor yX11_roundIn.desc).map (fun d => d.parameters.length) = some 5 := by decide +kernel
theorem hdV_X11_roundIn : yX11_roundIn.cls = RX11 ∧ yX11_roundIn.cls ≠ "java/lang/invoke/MethodHandle" ∧ yX11_roundIn.cls ≠ "java/lang/invoke/VarHandle" ∧ (parseMethodDescriptor yX11_roundIn.desc).map (fun d => d.parameters.length) = some 5 := ⟨rfl, hdS_X11_roundIn⟩
set_option maxHeartbeats 4000000 in
set_option maxRecDepth 100000 in
theorem c_X11_roundIn (l : Launch) (D : va_G) (a : Nat → ClassId) (t : Nat) (q_t : Nat) (q_w : Nat) (q_isKept : Nat) (t_all : Int32) (t_corners : Int32) (t_hearers : Int32) (t_newAll : Int32) (t_newCorners : Int32) (t_newHearers : Int32) (q_beer : Nat) (q_cold : Nat) (q_stands : Nat) (q_pinched : Nat) (q_says : Nat) (q_text : Nat) (t_textSize : Int32) (t_at : Int32) (t_first : Int32) (t_faultOf : Int32) (t_fault : Int32) (t_spoke : Int32) (t_holds : Int32) (t_undoMany : Int32) (q_seenDecree : Nat) (q_seenAt : Nat) (q_seenSpoke : Nat) (t_seen : Int32) (q_inSets : Nat) (q_book : Nat) (t_written : Int32) (pinched : Nat → Int32) (says : Nat → Int32) (w : Nat → Int32) (x1 : Int32) (x2 : Int32) (x3 : Int32) (x4 : Int32) (x5 : Int32) (r : Int32) (o_t_spoke : Int32) (o_t_holds : Int32) (o_w : Nat → Int32) (hf : f_X11_roundIn t_all t_corners t_hearers t_spoke t_holds pinched says w x1 x2 x3 x4 x5 = some (r, o_t_spoke, o_t_holds, o_w)) : Ki l yX11_roundIn wsX11_roundIn 4 100 D a t [.ref q_t, .int x1, .int x2, .int x3, .int x4, .int x5] [(q_t, .inr (11, [.ref q_w, .ref q_isKept, .int t_all, .int t_corners, .int t_hearers, .int t_newAll, .int t_newCorners, .int t_newHearers, .ref q_beer, .ref q_cold, .ref q_stands, .ref q_pinched, .ref q_says, .ref q_text, .int t_textSize, .int t_at, .int t_first, .int t_faultOf, .int t_fault, .int t_spoke, .int t_holds, .int t_undoMany, .ref q_seenDecree, .ref q_seenAt, .ref q_seenSpoke, .int t_seen, .ref q_inSets, .ref q_book, .int t_written])), (q_pinched, .inl (a 0, 18, .inl pinched)), (q_says, .inl (a 0, 18, .inl says)), (q_w, .inl (a 0, 578, .inl w))] [(q_t, .inr (11, [.ref q_w, .ref q_isKept, .int t_all, .int t_corners, .int t_hearers, .int t_newAll, .int t_newCorners, .int t_newHearers, .ref q_beer, .ref q_cold, .ref q_stands, .ref q_pinched, .ref q_says, .ref q_text, .int t_textSize, .int t_at, .int t_first, .int t_faultOf, .int t_fault, .int o_t_spoke, .int o_t_holds, .int t_undoMany, .ref q_seenDecree, .ref q_seenAt, .ref q_seenSpoke, .int t_seen, .ref q_inSets, .ref q_book, .int t_written])), (q_pinched, .inl (a 0, 18, .inl pinched)), (q_says, .inl (a 0, 18, .inl says)), (q_w, .inl (a 0, 578, .inl o_w))] r := by
  refine Ki.mk (cc := cX11_roundIn) (nL := 9) (ty := .int) (own := RX11) (by decide) rfl rfl (Nat.le_of_ble_eq_true rfl) ?_
  intro p e s m args below meth c A Q ls hX hP hD hS hl hret
  have hx := hX.1.1
  have hb := hX.1.2.1
  have hown := hX.1.2.2.2.1
  have hts := hX.1.2.2.2.2
  have hN := hX.2.2.1
  have hA := hX.2.2.2.2
  have hl : lv_has ls 9 [(0, .ref q_t), (1, .int x1), (2, .int x2), (3, .int x3), (4, .int x4), (5, .int x5)] := hl
  have hk1 := hts (.fieldLink RX11 167 "GainsaidOnceModel" "spoke" "I") (List.mem_of_getElem? (i := 1) rfl)
  have hk2 := hts (.fieldLink RX11 170 "GainsaidOnceModel" "holds" "I") (List.mem_of_getElem? (i := 2) rfl)
  have hk3 := hts (.fieldLink RX11 123 "GainsaidOnceModel" "corners" "I") (List.mem_of_getElem? (i := 3) rfl)
  have hiX11 : ∀ w ∈ wsX110, w ∈ wsX11_roundIn := (fun _ h => List.mem_cons_of_mem _ (List.mem_append_right _ h))
  have L_16 : ∀ (n_16 : Nat) (t_spoke : Int32) (t_holds : Int32) (w : (Nat → Int32)) (x1 : Int32) (x3 : Int32) (x4 : Int32) (x5 : Int32) (x6 : Int32) (x7 : Int32) (H : Heap) (locs : List Loc) (ls : Array Slot), f_X11_roundIn_16 t_all t_corners t_hearers pinched says n_16 t_spoke t_holds w x1 x3 x4 x5 x6 x7 = some (r, o_t_spoke, o_t_holds, o_w) → va_P D vwCl [(q_t, .inr (11, [.ref q_w, .ref q_isKept, .int t_all, .int t_corners, .int t_hearers, .int t_newAll, .int t_newCorners, .int t_newHearers, .ref q_beer, .ref q_cold, .ref q_stands, .ref q_pinched, .ref q_says, .ref q_text, .int t_textSize, .int t_at, .int t_first, .int t_faultOf, .int t_fault, .int t_spoke, .int t_holds, .int t_undoMany, .ref q_seenDecree, .ref q_seenAt, .ref q_seenSpoke, .int t_seen, .ref q_inSets, .ref q_book, .int t_written])), (q_pinched, .inl (a 0, 18, .inl pinched)), (q_says, .inl (a 0, 18, .inl says)), (q_w, .inl (a 0, 578, .inl w))] H → va_D A [(q_t, .inr (11, [.ref q_w, .ref q_isKept, .int t_all, .int t_corners, .int t_hearers, .int t_newAll, .int t_newCorners, .int t_newHearers, .ref q_beer, .ref q_cold, .ref q_stands, .ref q_pinched, .ref q_says, .ref q_text, .int t_textSize, .int t_at, .int t_first, .int t_faultOf, .int t_fault, .int t_spoke, .int t_holds, .int t_undoMany, .ref q_seenDecree, .ref q_seenAt, .ref q_seenSpoke, .int t_seen, .ref q_inSets, .ref q_book, .int t_written])), (q_pinched, .inl (a 0, 18, .inl pinched)), (q_says, .inl (a 0, 18, .inl says)), (q_w, .inl (a 0, 578, .inl w))] → va_S A s.heap H locs → lv_has ls 9 [(0, .ref q_t), (1, .int x1), (3, .int x3), (4, .int x4), (5, .int x5), (6, .int x6), (7, .int x7)] → W p l e { frames := 4, cells := 0, slots := 0, locals := 100 } s m args below meth c H locs 0 0 Q (F0 m 16 ls []) := by
    intro n_16
    induction n_16 with
    | zero => intro t_spoke t_holds w x1 x3 x4 x5 x6 x7 H locs ls hf hP hD hS hl; rw [f_X11_roundIn_16] at hf; cases hf
    | succ n_16 ih_16 =>
      have L_57 : ∀ (t_spoke : Int32) (t_holds : Int32) (w : (Nat → Int32)) (x1 : Int32) (x3 : Int32) (x4 : Int32) (x5 : Int32) (x6 : Int32) (x7 : Int32) (s0 : Int32) (H : Heap) (locs : List Loc) (ls : Array Slot), f_X11_roundIn_57 t_all t_corners t_hearers pinched says (f_X11_roundIn_16 t_all t_corners t_hearers pinched says n_16) t_spoke t_holds w x1 x3 x4 x5 x6 x7 s0 = some (r, o_t_spoke, o_t_holds, o_w) → va_P D vwCl [(q_t, .inr (11, [.ref q_w, .ref q_isKept, .int t_all, .int t_corners, .int t_hearers, .int t_newAll, .int t_newCorners, .int t_newHearers, .ref q_beer, .ref q_cold, .ref q_stands, .ref q_pinched, .ref q_says, .ref q_text, .int t_textSize, .int t_at, .int t_first, .int t_faultOf, .int t_fault, .int t_spoke, .int t_holds, .int t_undoMany, .ref q_seenDecree, .ref q_seenAt, .ref q_seenSpoke, .int t_seen, .ref q_inSets, .ref q_book, .int t_written])), (q_pinched, .inl (a 0, 18, .inl pinched)), (q_says, .inl (a 0, 18, .inl says)), (q_w, .inl (a 0, 578, .inl w))] H → va_D A [(q_t, .inr (11, [.ref q_w, .ref q_isKept, .int t_all, .int t_corners, .int t_hearers, .int t_newAll, .int t_newCorners, .int t_newHearers, .ref q_beer, .ref q_cold, .ref q_stands, .ref q_pinched, .ref q_says, .ref q_text, .int t_textSize, .int t_at, .int t_first, .int t_faultOf, .int t_fault, .int t_spoke, .int t_holds, .int t_undoMany, .ref q_seenDecree, .ref q_seenAt, .ref q_seenSpoke, .int t_seen, .ref q_inSets, .ref q_book, .int t_written])), (q_pinched, .inl (a 0, 18, .inl pinched)), (q_says, .inl (a 0, 18, .inl says)), (q_w, .inl (a 0, 578, .inl w))] → va_S A s.heap H locs → lv_has ls 9 [(0, .ref q_t), (1, .int x1), (3, .int x3), (4, .int x4), (5, .int x5), (6, .int x6), (7, .int x7)] → W p l e { frames := 4, cells := 0, slots := 0, locals := 100 } s m args below meth c H locs 0 0 Q (F0 m 57 ls [.int s0]) := by
        intro t_spoke t_holds w x1 x3 x4 x5 x6 x7 s0 H locs ls hf hP hD hS hl
        unfold f_X11_roundIn_57 at hf
        refine lv_istore (lv' := [(8, .int s0), (0, .ref q_t), (1, .int x1), (3, .int x3), (4, .int x4), (5, .int x5), (6, .int x6), (7, .int x7)]) hx hb dX11_roundIn_57 hl (by decide) rfl (fun ls hl => ?_)
        refine lv_aload_n hx hb dX11_roundIn_59 rfl (lv_at hl 1 rfl) ?_
        refine lv_iload_n hx hb dX11_roundIn_60 rfl (lv_at hl 2 rfl) ?_
        refine lv_iload hx hb dX11_roundIn_61 (lv_at hl 0 rfl) ?_
        refine lv_iload hx hb dX11_roundIn_63 (lv_at hl 6 rfl) ?_
        refine lv_iload hx hb dX11_roundIn_65 (lv_at hl 5 rfl) ?_
        refine lv_iload hx hb dX11_roundIn_67 (lv_at hl 0 rfl) ?_
        obtain ⟨o1, ho1, hf⟩ := o_bd hf
        refine call_iS hX (c_X11_has l D a t x5 s0 o1 ho1) (va_cwS 2 hts gX11_roundIn_X11_has rfl rfl rfl hdS_X11_has ⟨by decide, by decide⟩) (Cut.none hA hP hD hS) hS rfl hl.1 rfl (Nat.le_of_ble_eq_true rfl) dX11_roundIn_69 (by decide) (fun H locs hP hD hS => ?_)
        obtain ⟨o2, ho2, hf⟩ := o_bd hf
        refine call_iV (q0 := 0) (ci := 11) hX (c_X11_cryAt l D a t q_t q_w q_isKept t_all t_corners t_hearers t_newAll t_newCorners t_newHearers q_beer q_cold q_stands q_pinched q_says q_text t_textSize t_at t_first t_faultOf t_fault t_spoke t_holds t_undoMany q_seenDecree q_seenAt q_seenSpoke t_seen q_inSets q_book t_written pinched says w x1 s0 x6 o1 o2.1 o2.2.1 o2.2.2.1 o2.2.2.2 ho2) (cwV 4 hts gX11_roundIn_X11_cryAt rfl rfl rfl hdV_X11_cryAt ⟨by decide, by decide⟩) (Cut.of hA hP hD hS [0, 1, 2, 3] (by decide) rfl rfl (W' := [(q_t, .inr (11, [.ref q_w, .ref q_isKept, .int t_all, .int t_corners, .int t_hearers, .int t_newAll, .int t_newCorners, .int t_newHearers, .ref q_beer, .ref q_cold, .ref q_stands, .ref q_pinched, .ref q_says, .ref q_text, .int t_textSize, .int t_at, .int t_first, .int t_faultOf, .int t_fault, .int o2.2.1, .int o2.2.2.1, .int t_undoMany, .ref q_seenDecree, .ref q_seenAt, .ref q_seenSpoke, .int t_seen, .ref q_inSets, .ref q_book, .int t_written])), (q_pinched, .inl (a 0, 18, .inl pinched)), (q_says, .inl (a 0, 18, .inl says)), (q_w, .inl (a 0, 578, .inl o2.2.2.2))]) rfl) hS rfl rfl rfl hl.1 rfl (Nat.le_of_ble_eq_true rfl) dX11_roundIn_72 (by decide) (fun H locs hP hD hS => ?_)
        replace hP : va_P D vwCl [(q_t, .inr (11, [.ref q_w, .ref q_isKept, .int t_all, .int t_corners, .int t_hearers, .int t_newAll, .int t_newCorners, .int t_newHearers, .ref q_beer, .ref q_cold, .ref q_stands, .ref q_pinched, .ref q_says, .ref q_text, .int t_textSize, .int t_at, .int t_first, .int t_faultOf, .int t_fault, .int o2.2.1, .int o2.2.2.1, .int t_undoMany, .ref q_seenDecree, .ref q_seenAt, .ref q_seenSpoke, .int t_seen, .ref q_inSets, .ref q_book, .int t_written])), (q_pinched, .inl (a 0, 18, .inl pinched)), (q_says, .inl (a 0, 18, .inl says)), (q_w, .inl (a 0, 578, .inl o2.2.2.2))] H := hP
        replace hD : va_D A [(q_t, .inr (11, [.ref q_w, .ref q_isKept, .int t_all, .int t_corners, .int t_hearers, .int t_newAll, .int t_newCorners, .int t_newHearers, .ref q_beer, .ref q_cold, .ref q_stands, .ref q_pinched, .ref q_says, .ref q_text, .int t_textSize, .int t_at, .int t_first, .int t_faultOf, .int t_fault, .int o2.2.1, .int o2.2.2.1, .int t_undoMany, .ref q_seenDecree, .ref q_seenAt, .ref q_seenSpoke, .int t_seen, .ref q_inSets, .ref q_book, .int t_written])), (q_pinched, .inl (a 0, 18, .inl pinched)), (q_says, .inl (a 0, 18, .inl says)), (q_w, .inl (a 0, 578, .inl o2.2.2.2))] := hD
        refine lv_istore (lv' := [(6, .int o2.1), (8, .int s0), (0, .ref q_t), (1, .int x1), (3, .int x3), (4, .int x4), (5, .int x5), (7, .int x7)]) hx hb dX11_roundIn_75 hl (by decide) rfl (fun ls hl => ?_)
        obtain ⟨v3, ev3⟩ : ∃ y : Int32, y = x7 + (1 : Int32) := ⟨_, rfl⟩
        replace hf := o_nmh hf v3 ev3
        refine lv_iinc (v := v3) (lv' := [(7, .int v3), (6, .int o2.1), (8, .int s0), (0, .ref q_t), (1, .int x1), (3, .int x3), (4, .int x4), (5, .int x5)]) hx hb dX11_roundIn_77 hl (k := 7) rfl (by rw [ev3]; rfl) (by decide) rfl (fun ls hl => ?_)
        refine lv_goto (tgt := 16) hx hb dX11_roundIn_80 (by decide) ?_
        exact ih_16 o2.2.1 o2.2.2.1 o2.2.2.2 x1 x3 x4 x5 o2.1 v3 _ _ _ hf hP hD hS (lv_sub hl [3, 4, 5, 6, 7, 1, 0] rfl)
      intro t_spoke t_holds w x1 x3 x4 x5 x6 x7 H locs ls hf hP hD hS hl
      rw [f_X11_roundIn_16] at hf
      refine lv_iload hx hb dX11_roundIn_16 (lv_at hl 6 rfl) ?_
      refine lv_aload_n hx hb dX11_roundIn_18 rfl (lv_at hl 0 rfl) ?_
      refine g_get hX hiX11 hP 0 rfl rfl 3 (by decide) hk3 rfl rfl dX11_roundIn_19 ?_
      refine lv_icmp_ge (tgt := 83) hx hb dX11_roundIn_22 (by decide) (fun c4 => ?_) (fun c4 => ?_)
      · replace hf := o_ifp hf c4
        refine lv_iload hx hb dX11_roundIn_83 (lv_at hl 5 rfl) ?_
        cases hf
        exact hret _ _ _ _ (vp_nar_int _) hP hD hS dX11_roundIn_85
      replace hf := o_ifn hf c4
      refine lv_iload hx hb dX11_roundIn_25 (lv_at hl 3 rfl) ?_
      refine lv_iconst (v := (1 : Int32)) hx hb dX11_roundIn_27 (by decide) ?_
      refine lv_icmp_ne (tgt := 43) hx hb dX11_roundIn_28 (by decide) (fun c5 => ?_) (fun c5 => ?_)
      · replace hf := o_ifn hf c5
        refine lv_iload_n hx hb dX11_roundIn_43 rfl (lv_at hl 2 rfl) ?_
        refine lv_iload hx hb dX11_roundIn_44 (lv_at hl 6 rfl) ?_
        refine lv_isub hx hb dX11_roundIn_46 ?_
        refine lv_aload_n hx hb dX11_roundIn_47 rfl (lv_at hl 0 rfl) ?_
        refine g_get hX hiX11 hP 0 rfl rfl 3 (by decide) hk3 rfl rfl dX11_roundIn_48 ?_
        refine lv_iadd hx hb dX11_roundIn_51 ?_
        refine lv_aload_n hx hb dX11_roundIn_52 rfl (lv_at hl 0 rfl) ?_
        refine g_get hX hiX11 hP 0 rfl rfl 3 (by decide) hk3 rfl rfl dX11_roundIn_53 ?_
        obtain ⟨hzv6, hf⟩ := o_rmh hf
        refine lv_irem hx hb dX11_roundIn_56 hzv6 ?_
        refine lv_topi (fun v6 ev6 => ?_)
        replace hf := hf v6 ev6
        exact L_57 t_spoke t_holds w x1 x3 x4 x5 x6 x7 v6 _ _ _ hf hP hD hS (lv_sub hl [0, 1, 2, 3, 4, 5, 6] rfl)
      replace hf := o_ifp hf c5
      refine lv_iload_n hx hb dX11_roundIn_31 rfl (lv_at hl 2 rfl) ?_
      refine lv_iload hx hb dX11_roundIn_32 (lv_at hl 6 rfl) ?_
      refine lv_iadd hx hb dX11_roundIn_34 ?_
      refine lv_aload_n hx hb dX11_roundIn_35 rfl (lv_at hl 0 rfl) ?_
      refine g_get hX hiX11 hP 0 rfl rfl 3 (by decide) hk3 rfl rfl dX11_roundIn_36 ?_
      obtain ⟨hzv7, hf⟩ := o_rmh hf
      refine lv_irem hx hb dX11_roundIn_39 hzv7 ?_
      refine lv_topi (fun v7 ev7 => ?_)
      replace hf := hf v7 ev7
      refine lv_goto (tgt := 57) hx hb dX11_roundIn_40 (by decide) ?_
      exact L_57 t_spoke t_holds w x1 x3 x4 x5 x6 x7 v7 _ _ _ hf hP hD hS (lv_sub hl [0, 1, 2, 3, 4, 5, 6] rfl)
  unfold f_X11_roundIn at hf
  refine lv_aload_n hx hb dX11_roundIn_0 rfl (lv_at hl 0 rfl) ?_
  refine lv_iconst (v := (0 : Int32)) hx hb dX11_roundIn_1 (by decide) ?_
  refine g_put hX hiX11 tyX11 tyX11_ok nmX11 hP hD hS 0 rfl rfl 19 (by decide) hk1 rfl rfl rfl rfl (Nat.le_of_ble_eq_true rfl) dX11_roundIn_2 (fun H locs hP hD hS => ?_)
  replace hP : va_P D vwCl [(q_t, .inr (11, [.ref q_w, .ref q_isKept, .int t_all, .int t_corners, .int t_hearers, .int t_newAll, .int t_newCorners, .int t_newHearers, .ref q_beer, .ref q_cold, .ref q_stands, .ref q_pinched, .ref q_says, .ref q_text, .int t_textSize, .int t_at, .int t_first, .int t_faultOf, .int t_fault, .int (0 : Int32), .int t_holds, .int t_undoMany, .ref q_seenDecree, .ref q_seenAt, .ref q_seenSpoke, .int t_seen, .ref q_inSets, .ref q_book, .int t_written])), (q_pinched, .inl (a 0, 18, .inl pinched)), (q_says, .inl (a 0, 18, .inl says)), (q_w, .inl (a 0, 578, .inl w))] H := hP
  replace hD : va_D A [(q_t, .inr (11, [.ref q_w, .ref q_isKept, .int t_all, .int t_corners, .int t_hearers, .int t_newAll, .int t_newCorners, .int t_newHearers, .ref q_beer, .ref q_cold, .ref q_stands, .ref q_pinched, .ref q_says, .ref q_text, .int t_textSize, .int t_at, .int t_first, .int t_faultOf, .int t_fault, .int (0 : Int32), .int t_holds, .int t_undoMany, .ref q_seenDecree, .ref q_seenAt, .ref q_seenSpoke, .int t_seen, .ref q_inSets, .ref q_book, .int t_written])), (q_pinched, .inl (a 0, 18, .inl pinched)), (q_says, .inl (a 0, 18, .inl says)), (q_w, .inl (a 0, 578, .inl w))] := hD
  refine lv_aload_n hx hb dX11_roundIn_5 rfl (lv_at hl 0 rfl) ?_
  refine lv_iconst (v := (0 : Int32)) hx hb dX11_roundIn_6 (by decide) ?_
  refine g_put hX hiX11 tyX11 tyX11_ok nmX11 hP hD hS 0 rfl rfl 20 (by decide) hk2 rfl rfl rfl rfl (Nat.le_of_ble_eq_true rfl) dX11_roundIn_7 (fun H locs hP hD hS => ?_)
  replace hP : va_P D vwCl [(q_t, .inr (11, [.ref q_w, .ref q_isKept, .int t_all, .int t_corners, .int t_hearers, .int t_newAll, .int t_newCorners, .int t_newHearers, .ref q_beer, .ref q_cold, .ref q_stands, .ref q_pinched, .ref q_says, .ref q_text, .int t_textSize, .int t_at, .int t_first, .int t_faultOf, .int t_fault, .int (0 : Int32), .int (0 : Int32), .int t_undoMany, .ref q_seenDecree, .ref q_seenAt, .ref q_seenSpoke, .int t_seen, .ref q_inSets, .ref q_book, .int t_written])), (q_pinched, .inl (a 0, 18, .inl pinched)), (q_says, .inl (a 0, 18, .inl says)), (q_w, .inl (a 0, 578, .inl w))] H := hP
  replace hD : va_D A [(q_t, .inr (11, [.ref q_w, .ref q_isKept, .int t_all, .int t_corners, .int t_hearers, .int t_newAll, .int t_newCorners, .int t_newHearers, .ref q_beer, .ref q_cold, .ref q_stands, .ref q_pinched, .ref q_says, .ref q_text, .int t_textSize, .int t_at, .int t_first, .int t_faultOf, .int t_fault, .int (0 : Int32), .int (0 : Int32), .int t_undoMany, .ref q_seenDecree, .ref q_seenAt, .ref q_seenSpoke, .int t_seen, .ref q_inSets, .ref q_book, .int t_written])), (q_pinched, .inl (a 0, 18, .inl pinched)), (q_says, .inl (a 0, 18, .inl says)), (q_w, .inl (a 0, 578, .inl w))] := hD
  refine lv_iload_n hx hb dX11_roundIn_10 rfl (lv_at hl 2 rfl) ?_
  refine lv_istore (lv' := [(6, .int x2), (0, .ref q_t), (1, .int x1), (2, .int x2), (3, .int x3), (4, .int x4), (5, .int x5)]) hx hb dX11_roundIn_11 hl (by decide) rfl (fun ls hl => ?_)
  refine lv_iconst (v := (0 : Int32)) hx hb dX11_roundIn_13 (by decide) ?_
  refine lv_istore (lv' := [(7, .int (0 : Int32)), (6, .int x2), (0, .ref q_t), (1, .int x1), (2, .int x2), (3, .int x3), (4, .int x4), (5, .int x5)]) hx hb dX11_roundIn_14 hl (by decide) rfl (fun ls hl => ?_)
  exact L_16 1000 (0 : Int32) (0 : Int32) w x1 x3 x4 x5 x2 (0 : Int32) _ _ _ hf hP hD hS (lv_sub hl [2, 3, 5, 6, 7, 1, 0] rfl)
def f_X11_roundNow (t_all : Int32) (t_corners : Int32) (t_hearers : Int32) (t_spoke : Int32) (t_holds : Int32) (pinched : Nat → Int32) (says : Nat → Int32) (w : Nat → Int32) (x1 : Int32) (x2 : Int32) (x3 : Int32) : Option (Int32 × Int32 × (Nat → Int32)) :=
  (f_X11_roundIn t_all t_corners t_hearers t_spoke t_holds pinched says w (0 : Int32) x1 x2 x3 (0 : Int32)).bind fun o1 =>
  (o_st o1.2.2.2 578 (14 : Int32) o1.1).bind fun w2 =>
  (o_st w2 578 (15 : Int32) o1.2.2.1).bind fun w3 =>
  (o_ld w3 578 (12 : Int32)).bind fun v4 =>
  (o_st w3 578 (12 : Int32) (v4 + (1 : Int32))).bind fun w5 =>
  some (o1.2.1, o1.2.2.1, w5)
theorem hdS_X11_roundNow : yX11_roundNow.cls ≠ "java/lang/invoke/MethodHandle" ∧ yX11_roundNow.cls ≠ "java/lang/invoke/VarHandle" ∧ (parseMethodDescriptor yX11_roundNow.desc).map (fun d => d.parameters.length) = some 3 := by decide +kernel
theorem hdV_X11_roundNow : yX11_roundNow.cls = RX11 ∧ yX11_roundNow.cls ≠ "java/lang/invoke/MethodHandle" ∧ yX11_roundNow.cls ≠ "java/lang/invoke/VarHandle" ∧ (parseMethodDescriptor yX11_roundNow.desc).map (fun d => d.parameters.length) = some 3 := ⟨rfl, hdS_X11_roundNow⟩
set_option maxHeartbeats 4000000 in
set_option maxRecDepth 100000 in
theorem c_X11_roundNow (l : Launch) (D : va_G) (a : Nat → ClassId) (t : Nat) (q_t : Nat) (q_w : Nat) (q_isKept : Nat) (t_all : Int32) (t_corners : Int32) (t_hearers : Int32) (t_newAll : Int32) (t_newCorners : Int32) (t_newHearers : Int32) (q_beer : Nat) (q_cold : Nat) (q_stands : Nat) (q_pinched : Nat) (q_says : Nat) (q_text : Nat) (t_textSize : Int32) (t_at : Int32) (t_first : Int32) (t_faultOf : Int32) (t_fault : Int32) (t_spoke : Int32) (t_holds : Int32) (t_undoMany : Int32) (q_seenDecree : Nat) (q_seenAt : Nat) (q_seenSpoke : Nat) (t_seen : Int32) (q_inSets : Nat) (q_book : Nat) (t_written : Int32) (pinched : Nat → Int32) (says : Nat → Int32) (w : Nat → Int32) (x1 : Int32) (x2 : Int32) (x3 : Int32) (o_t_spoke : Int32) (o_t_holds : Int32) (o_w : Nat → Int32) (hf : f_X11_roundNow t_all t_corners t_hearers t_spoke t_holds pinched says w x1 x2 x3 = some (o_t_spoke, o_t_holds, o_w)) : Kv l yX11_roundNow wsX11_roundNow 5 128 D a t [.ref q_t, .int x1, .int x2, .int x3] [(q_t, .inr (11, [.ref q_w, .ref q_isKept, .int t_all, .int t_corners, .int t_hearers, .int t_newAll, .int t_newCorners, .int t_newHearers, .ref q_beer, .ref q_cold, .ref q_stands, .ref q_pinched, .ref q_says, .ref q_text, .int t_textSize, .int t_at, .int t_first, .int t_faultOf, .int t_fault, .int t_spoke, .int t_holds, .int t_undoMany, .ref q_seenDecree, .ref q_seenAt, .ref q_seenSpoke, .int t_seen, .ref q_inSets, .ref q_book, .int t_written])), (q_pinched, .inl (a 0, 18, .inl pinched)), (q_says, .inl (a 0, 18, .inl says)), (q_w, .inl (a 0, 578, .inl w))] [(q_t, .inr (11, [.ref q_w, .ref q_isKept, .int t_all, .int t_corners, .int t_hearers, .int t_newAll, .int t_newCorners, .int t_newHearers, .ref q_beer, .ref q_cold, .ref q_stands, .ref q_pinched, .ref q_says, .ref q_text, .int t_textSize, .int t_at, .int t_first, .int t_faultOf, .int t_fault, .int o_t_spoke, .int o_t_holds, .int t_undoMany, .ref q_seenDecree, .ref q_seenAt, .ref q_seenSpoke, .int t_seen, .ref q_inSets, .ref q_book, .int t_written])), (q_pinched, .inl (a 0, 18, .inl pinched)), (q_says, .inl (a 0, 18, .inl says)), (q_w, .inl (a 0, 578, .inl o_w))] := by
  refine Kv.mk (cc := cX11_roundNow) (nL := 5) (own := RX11) (by decide) rfl rfl (Nat.le_of_ble_eq_true rfl) ?_
  intro p e s m args below meth c A Q ls hX hP hD hS hl hret
  have hx := hX.1.1
  have hb := hX.1.2.1
  have hown := hX.1.2.2.2.1
  have hts := hX.1.2.2.2.2
  have hN := hX.2.2.1
  have hA := hX.2.2.2.2
  have hl : lv_has ls 5 [(0, .ref q_t), (1, .int x1), (2, .int x2), (3, .int x3)] := hl
  have hk1 := hts (.fieldLink RX11 7 "GainsaidOnceModel" "w" "[I") (List.mem_of_getElem? (i := 1) rfl)
  have hk2 := hts (.fieldLink RX11 170 "GainsaidOnceModel" "holds" "I") (List.mem_of_getElem? (i := 2) rfl)
  have hiX11 : ∀ w ∈ wsX110, w ∈ wsX11_roundNow := (fun _ h => List.mem_cons_of_mem _ (List.mem_append_right _ h))
  unfold f_X11_roundNow at hf
  refine lv_aload_n hx hb dX11_roundNow_0 rfl (lv_at hl 0 rfl) ?_
  refine lv_iconst (v := (0 : Int32)) hx hb dX11_roundNow_1 (by decide) ?_
  refine lv_iload_n hx hb dX11_roundNow_2 rfl (lv_at hl 1 rfl) ?_
  refine lv_iload_n hx hb dX11_roundNow_3 rfl (lv_at hl 2 rfl) ?_
  refine lv_iload_n hx hb dX11_roundNow_4 rfl (lv_at hl 3 rfl) ?_
  refine lv_iconst (v := (0 : Int32)) hx hb dX11_roundNow_5 (by decide) ?_
  obtain ⟨o1, ho1, hf⟩ := o_bd hf
  refine call_iV (q0 := 0) (ci := 11) hX (c_X11_roundIn l D a t q_t q_w q_isKept t_all t_corners t_hearers t_newAll t_newCorners t_newHearers q_beer q_cold q_stands q_pinched q_says q_text t_textSize t_at t_first t_faultOf t_fault t_spoke t_holds t_undoMany q_seenDecree q_seenAt q_seenSpoke t_seen q_inSets q_book t_written pinched says w (0 : Int32) x1 x2 x3 (0 : Int32) o1.1 o1.2.1 o1.2.2.1 o1.2.2.2 ho1) (cwV 5 hts gX11_roundNow_X11_roundIn rfl rfl rfl hdV_X11_roundIn ⟨by decide, by decide⟩) (Cut.of hA hP hD hS [0, 1, 2, 3] (by decide) rfl rfl (W' := [(q_t, .inr (11, [.ref q_w, .ref q_isKept, .int t_all, .int t_corners, .int t_hearers, .int t_newAll, .int t_newCorners, .int t_newHearers, .ref q_beer, .ref q_cold, .ref q_stands, .ref q_pinched, .ref q_says, .ref q_text, .int t_textSize, .int t_at, .int t_first, .int t_faultOf, .int t_fault, .int o1.2.1, .int o1.2.2.1, .int t_undoMany, .ref q_seenDecree, .ref q_seenAt, .ref q_seenSpoke, .int t_seen, .ref q_inSets, .ref q_book, .int t_written])), (q_pinched, .inl (a 0, 18, .inl pinched)), (q_says, .inl (a 0, 18, .inl says)), (q_w, .inl (a 0, 578, .inl o1.2.2.2))]) rfl) hS rfl rfl rfl hl.1 rfl (Nat.le_of_ble_eq_true rfl) dX11_roundNow_6 (by decide) (fun H locs hP hD hS => ?_)
  replace hP : va_P D vwCl [(q_t, .inr (11, [.ref q_w, .ref q_isKept, .int t_all, .int t_corners, .int t_hearers, .int t_newAll, .int t_newCorners, .int t_newHearers, .ref q_beer, .ref q_cold, .ref q_stands, .ref q_pinched, .ref q_says, .ref q_text, .int t_textSize, .int t_at, .int t_first, .int t_faultOf, .int t_fault, .int o1.2.1, .int o1.2.2.1, .int t_undoMany, .ref q_seenDecree, .ref q_seenAt, .ref q_seenSpoke, .int t_seen, .ref q_inSets, .ref q_book, .int t_written])), (q_pinched, .inl (a 0, 18, .inl pinched)), (q_says, .inl (a 0, 18, .inl says)), (q_w, .inl (a 0, 578, .inl o1.2.2.2))] H := hP
  replace hD : va_D A [(q_t, .inr (11, [.ref q_w, .ref q_isKept, .int t_all, .int t_corners, .int t_hearers, .int t_newAll, .int t_newCorners, .int t_newHearers, .ref q_beer, .ref q_cold, .ref q_stands, .ref q_pinched, .ref q_says, .ref q_text, .int t_textSize, .int t_at, .int t_first, .int t_faultOf, .int t_fault, .int o1.2.1, .int o1.2.2.1, .int t_undoMany, .ref q_seenDecree, .ref q_seenAt, .ref q_seenSpoke, .int t_seen, .ref q_inSets, .ref q_book, .int t_written])), (q_pinched, .inl (a 0, 18, .inl pinched)), (q_says, .inl (a 0, 18, .inl says)), (q_w, .inl (a 0, 578, .inl o1.2.2.2))] := hD
  refine lv_istore (lv' := [(4, .int o1.1), (0, .ref q_t), (1, .int x1), (2, .int x2), (3, .int x3)]) hx hb dX11_roundNow_9 hl (by decide) rfl (fun ls hl => ?_)
  refine lv_aload_n hx hb dX11_roundNow_11 rfl (lv_at hl 1 rfl) ?_
  refine g_get hX hiX11 hP 0 rfl rfl 0 (by decide) hk1 rfl rfl dX11_roundNow_12 ?_
  refine lv_bipush (v := (14 : Int32)) hx hb dX11_roundNow_15 (by decide) ?_
  refine lv_iload hx hb dX11_roundNow_17 (lv_at hl 0 rfl) ?_
  obtain ⟨hiw2, hf⟩ := o_sth hf
  refine g_iast hX hP hD hS 3 rfl hiw2 dX11_roundNow_19 (fun w2 ew2 H locs hP hD hS => ?_)
  replace hf := hf w2 ew2
  replace hP : va_P D vwCl [(q_t, .inr (11, [.ref q_w, .ref q_isKept, .int t_all, .int t_corners, .int t_hearers, .int t_newAll, .int t_newCorners, .int t_newHearers, .ref q_beer, .ref q_cold, .ref q_stands, .ref q_pinched, .ref q_says, .ref q_text, .int t_textSize, .int t_at, .int t_first, .int t_faultOf, .int t_fault, .int o1.2.1, .int o1.2.2.1, .int t_undoMany, .ref q_seenDecree, .ref q_seenAt, .ref q_seenSpoke, .int t_seen, .ref q_inSets, .ref q_book, .int t_written])), (q_pinched, .inl (a 0, 18, .inl pinched)), (q_says, .inl (a 0, 18, .inl says)), (q_w, .inl (a 0, 578, .inl w2))] H := hP
  replace hD : va_D A [(q_t, .inr (11, [.ref q_w, .ref q_isKept, .int t_all, .int t_corners, .int t_hearers, .int t_newAll, .int t_newCorners, .int t_newHearers, .ref q_beer, .ref q_cold, .ref q_stands, .ref q_pinched, .ref q_says, .ref q_text, .int t_textSize, .int t_at, .int t_first, .int t_faultOf, .int t_fault, .int o1.2.1, .int o1.2.2.1, .int t_undoMany, .ref q_seenDecree, .ref q_seenAt, .ref q_seenSpoke, .int t_seen, .ref q_inSets, .ref q_book, .int t_written])), (q_pinched, .inl (a 0, 18, .inl pinched)), (q_says, .inl (a 0, 18, .inl says)), (q_w, .inl (a 0, 578, .inl w2))] := hD
  refine lv_aload_n hx hb dX11_roundNow_20 rfl (lv_at hl 1 rfl) ?_
  refine g_get hX hiX11 hP 0 rfl rfl 0 (by decide) hk1 rfl rfl dX11_roundNow_21 ?_
  refine lv_bipush (v := (15 : Int32)) hx hb dX11_roundNow_24 (by decide) ?_
  refine lv_aload_n hx hb dX11_roundNow_26 rfl (lv_at hl 1 rfl) ?_
  refine g_get hX hiX11 hP 0 rfl rfl 20 (by decide) hk2 rfl rfl dX11_roundNow_27 ?_
  obtain ⟨hiw3, hf⟩ := o_sth hf
  refine g_iast hX hP hD hS 3 rfl hiw3 dX11_roundNow_30 (fun w3 ew3 H locs hP hD hS => ?_)
  replace hf := hf w3 ew3
  replace hP : va_P D vwCl [(q_t, .inr (11, [.ref q_w, .ref q_isKept, .int t_all, .int t_corners, .int t_hearers, .int t_newAll, .int t_newCorners, .int t_newHearers, .ref q_beer, .ref q_cold, .ref q_stands, .ref q_pinched, .ref q_says, .ref q_text, .int t_textSize, .int t_at, .int t_first, .int t_faultOf, .int t_fault, .int o1.2.1, .int o1.2.2.1, .int t_undoMany, .ref q_seenDecree, .ref q_seenAt, .ref q_seenSpoke, .int t_seen, .ref q_inSets, .ref q_book, .int t_written])), (q_pinched, .inl (a 0, 18, .inl pinched)), (q_says, .inl (a 0, 18, .inl says)), (q_w, .inl (a 0, 578, .inl w3))] H := hP
  replace hD : va_D A [(q_t, .inr (11, [.ref q_w, .ref q_isKept, .int t_all, .int t_corners, .int t_hearers, .int t_newAll, .int t_newCorners, .int t_newHearers, .ref q_beer, .ref q_cold, .ref q_stands, .ref q_pinched, .ref q_says, .ref q_text, .int t_textSize, .int t_at, .int t_first, .int t_faultOf, .int t_fault, .int o1.2.1, .int o1.2.2.1, .int t_undoMany, .ref q_seenDecree, .ref q_seenAt, .ref q_seenSpoke, .int t_seen, .ref q_inSets, .ref q_book, .int t_written])), (q_pinched, .inl (a 0, 18, .inl pinched)), (q_says, .inl (a 0, 18, .inl says)), (q_w, .inl (a 0, 578, .inl w3))] := hD
  refine lv_aload_n hx hb dX11_roundNow_31 rfl (lv_at hl 1 rfl) ?_
  refine g_get hX hiX11 hP 0 rfl rfl 0 (by decide) hk1 rfl rfl dX11_roundNow_32 ?_
  refine lv_bipush (v := (12 : Int32)) hx hb dX11_roundNow_35 (by decide) ?_
  refine lv_dup2_11 hx hb dX11_roundNow_37 rfl rfl ?_
  obtain ⟨hiv4, hf⟩ := o_ldh hf
  refine g_iald hX hP 3 rfl hiv4 dX11_roundNow_38 (fun v4 ev4 => ?_)
  replace hf := hf v4 ev4
  refine lv_iconst (v := (1 : Int32)) hx hb dX11_roundNow_39 (by decide) ?_
  refine lv_iadd hx hb dX11_roundNow_40 ?_
  obtain ⟨hiw5, hf⟩ := o_sth hf
  refine g_iast hX hP hD hS 3 rfl hiw5 dX11_roundNow_41 (fun w5 ew5 H locs hP hD hS => ?_)
  replace hf := hf w5 ew5
  replace hP : va_P D vwCl [(q_t, .inr (11, [.ref q_w, .ref q_isKept, .int t_all, .int t_corners, .int t_hearers, .int t_newAll, .int t_newCorners, .int t_newHearers, .ref q_beer, .ref q_cold, .ref q_stands, .ref q_pinched, .ref q_says, .ref q_text, .int t_textSize, .int t_at, .int t_first, .int t_faultOf, .int t_fault, .int o1.2.1, .int o1.2.2.1, .int t_undoMany, .ref q_seenDecree, .ref q_seenAt, .ref q_seenSpoke, .int t_seen, .ref q_inSets, .ref q_book, .int t_written])), (q_pinched, .inl (a 0, 18, .inl pinched)), (q_says, .inl (a 0, 18, .inl says)), (q_w, .inl (a 0, 578, .inl w5))] H := hP
  replace hD : va_D A [(q_t, .inr (11, [.ref q_w, .ref q_isKept, .int t_all, .int t_corners, .int t_hearers, .int t_newAll, .int t_newCorners, .int t_newHearers, .ref q_beer, .ref q_cold, .ref q_stands, .ref q_pinched, .ref q_says, .ref q_text, .int t_textSize, .int t_at, .int t_first, .int t_faultOf, .int t_fault, .int o1.2.1, .int o1.2.2.1, .int t_undoMany, .ref q_seenDecree, .ref q_seenAt, .ref q_seenSpoke, .int t_seen, .ref q_inSets, .ref q_book, .int t_written])), (q_pinched, .inl (a 0, 18, .inl pinched)), (q_says, .inl (a 0, 18, .inl says)), (q_w, .inl (a 0, 578, .inl w5))] := hD
  cases hf
  exact hret _ _ _ _ hP hD hS dX11_roundNow_42
def f_X11_copy_2  : Nat → (Nat → Int32) → Int32 → Int32 → Int32 → Option ((Nat → Int32))
  | 0, _, _, _, _ => none
  | n_2 + 1, w, x1, x2, x3 =>
    if (17 : Int32) ≤ x3 then (some w)
    else ((o_ld w 578 (x1 + x3)).bind fun v2 =>
    (o_st w 578 (x2 + x3) v2).bind fun w3 =>
    o_nm (x3 + (1 : Int32)) fun v4 =>
    f_X11_copy_2  n_2 w3 x1 x2 v4)
def f_X11_copy (w : Nat → Int32) (x1 : Int32) (x2 : Int32) : Option ((Nat → Int32)) :=
  f_X11_copy_2 1000 w x1 x2 (0 : Int32)
theorem hdS_X11_copy : yX11_copy.cls ≠ "java/lang/invoke/MethodHandle" ∧ yX11_copy.cls ≠ "java/lang/invoke/VarHandle" ∧ (parseMethodDescriptor yX11_copy.desc).map (fun d => d.parameters.length) = some 2 := by decide +kernel
theorem hdV_X11_copy : yX11_copy.cls = RX11 ∧ yX11_copy.cls ≠ "java/lang/invoke/MethodHandle" ∧ yX11_copy.cls ≠ "java/lang/invoke/VarHandle" ∧ (parseMethodDescriptor yX11_copy.desc).map (fun d => d.parameters.length) = some 2 := ⟨rfl, hdS_X11_copy⟩
set_option maxHeartbeats 4000000 in
set_option maxRecDepth 100000 in
theorem c_X11_copy (l : Launch) (D : va_G) (a : Nat → ClassId) (t : Nat) (q_t : Nat) (q_w : Nat) (q_isKept : Nat) (t_all : Int32) (t_corners : Int32) (t_hearers : Int32) (t_newAll : Int32) (t_newCorners : Int32) (t_newHearers : Int32) (q_beer : Nat) (q_cold : Nat) (q_stands : Nat) (q_pinched : Nat) (q_says : Nat) (q_text : Nat) (t_textSize : Int32) (t_at : Int32) (t_first : Int32) (t_faultOf : Int32) (t_fault : Int32) (t_spoke : Int32) (t_holds : Int32) (t_undoMany : Int32) (q_seenDecree : Nat) (q_seenAt : Nat) (q_seenSpoke : Nat) (t_seen : Int32) (q_inSets : Nat) (q_book : Nat) (t_written : Int32) (w : Nat → Int32) (x1 : Int32) (x2 : Int32) (o_w : Nat → Int32) (hf : f_X11_copy w x1 x2 = some o_w) : Kv l yX11_copy wsX11_copy 0 0 D a t [.ref q_t, .int x1, .int x2] [(q_t, .inr (11, [.ref q_w, .ref q_isKept, .int t_all, .int t_corners, .int t_hearers, .int t_newAll, .int t_newCorners, .int t_newHearers, .ref q_beer, .ref q_cold, .ref q_stands, .ref q_pinched, .ref q_says, .ref q_text, .int t_textSize, .int t_at, .int t_first, .int t_faultOf, .int t_fault, .int t_spoke, .int t_holds, .int t_undoMany, .ref q_seenDecree, .ref q_seenAt, .ref q_seenSpoke, .int t_seen, .ref q_inSets, .ref q_book, .int t_written])), (q_w, .inl (a 0, 578, .inl w))] [(q_t, .inr (11, [.ref q_w, .ref q_isKept, .int t_all, .int t_corners, .int t_hearers, .int t_newAll, .int t_newCorners, .int t_newHearers, .ref q_beer, .ref q_cold, .ref q_stands, .ref q_pinched, .ref q_says, .ref q_text, .int t_textSize, .int t_at, .int t_first, .int t_faultOf, .int t_fault, .int t_spoke, .int t_holds, .int t_undoMany, .ref q_seenDecree, .ref q_seenAt, .ref q_seenSpoke, .int t_seen, .ref q_inSets, .ref q_book, .int t_written])), (q_w, .inl (a 0, 578, .inl o_w))] := by
  refine Kv.mk (cc := cX11_copy) (nL := 4) (own := RX11) (by decide) rfl rfl (Nat.le_of_ble_eq_true rfl) ?_
  intro p e s m args below meth c A Q ls hX hP hD hS hl hret
  have hx := hX.1.1
  have hb := hX.1.2.1
  have hown := hX.1.2.2.2.1
  have hts := hX.1.2.2.2.2
  have hN := hX.2.2.1
  have hA := hX.2.2.2.2
  have hl : lv_has ls 4 [(0, .ref q_t), (1, .int x1), (2, .int x2)] := hl
  have hk1 := hts (.fieldLink RX11 7 "GainsaidOnceModel" "w" "[I") (List.mem_of_getElem? (i := 1) rfl)
  have hiX11 : ∀ w ∈ wsX110, w ∈ wsX11_copy := (fun _ h => List.mem_cons_of_mem _ (List.mem_append_right _ h))
  have L_2 : ∀ (n_2 : Nat) (w : (Nat → Int32)) (x1 : Int32) (x2 : Int32) (x3 : Int32) (H : Heap) (locs : List Loc) (ls : Array Slot), f_X11_copy_2 n_2 w x1 x2 x3 = some o_w → va_P D vwCl [(q_t, .inr (11, [.ref q_w, .ref q_isKept, .int t_all, .int t_corners, .int t_hearers, .int t_newAll, .int t_newCorners, .int t_newHearers, .ref q_beer, .ref q_cold, .ref q_stands, .ref q_pinched, .ref q_says, .ref q_text, .int t_textSize, .int t_at, .int t_first, .int t_faultOf, .int t_fault, .int t_spoke, .int t_holds, .int t_undoMany, .ref q_seenDecree, .ref q_seenAt, .ref q_seenSpoke, .int t_seen, .ref q_inSets, .ref q_book, .int t_written])), (q_w, .inl (a 0, 578, .inl w))] H → va_D A [(q_t, .inr (11, [.ref q_w, .ref q_isKept, .int t_all, .int t_corners, .int t_hearers, .int t_newAll, .int t_newCorners, .int t_newHearers, .ref q_beer, .ref q_cold, .ref q_stands, .ref q_pinched, .ref q_says, .ref q_text, .int t_textSize, .int t_at, .int t_first, .int t_faultOf, .int t_fault, .int t_spoke, .int t_holds, .int t_undoMany, .ref q_seenDecree, .ref q_seenAt, .ref q_seenSpoke, .int t_seen, .ref q_inSets, .ref q_book, .int t_written])), (q_w, .inl (a 0, 578, .inl w))] → va_S A s.heap H locs → lv_has ls 4 [(0, .ref q_t), (1, .int x1), (2, .int x2), (3, .int x3)] → W p l e { frames := 0, cells := 0, slots := 0, locals := 0 } s m args below meth c H locs 0 0 Q (F0 m 2 ls []) := by
    intro n_2
    induction n_2 with
    | zero => intro w x1 x2 x3 H locs ls hf hP hD hS hl; rw [f_X11_copy_2] at hf; cases hf
    | succ n_2 ih_2 =>
      intro w x1 x2 x3 H locs ls hf hP hD hS hl
      rw [f_X11_copy_2] at hf
      refine lv_iload_n hx hb dX11_copy_2 rfl (lv_at hl 3 rfl) ?_
      refine lv_bipush (v := (17 : Int32)) hx hb dX11_copy_3 (by decide) ?_
      refine lv_icmp_ge (tgt := 30) hx hb dX11_copy_5 (by decide) (fun c1 => ?_) (fun c1 => ?_)
      · replace hf := o_ifp hf c1
        cases hf
        exact hret _ _ _ _ hP hD hS dX11_copy_30
      replace hf := o_ifn hf c1
      refine lv_aload_n hx hb dX11_copy_8 rfl (lv_at hl 0 rfl) ?_
      refine g_get hX hiX11 hP 0 rfl rfl 0 (by decide) hk1 rfl rfl dX11_copy_9 ?_
      refine lv_iload_n hx hb dX11_copy_12 rfl (lv_at hl 2 rfl) ?_
      refine lv_iload_n hx hb dX11_copy_13 rfl (lv_at hl 3 rfl) ?_
      refine lv_iadd hx hb dX11_copy_14 ?_
      refine lv_aload_n hx hb dX11_copy_15 rfl (lv_at hl 0 rfl) ?_
      refine g_get hX hiX11 hP 0 rfl rfl 0 (by decide) hk1 rfl rfl dX11_copy_16 ?_
      refine lv_iload_n hx hb dX11_copy_19 rfl (lv_at hl 1 rfl) ?_
      refine lv_iload_n hx hb dX11_copy_20 rfl (lv_at hl 3 rfl) ?_
      refine lv_iadd hx hb dX11_copy_21 ?_
      obtain ⟨hiv2, hf⟩ := o_ldh hf
      refine g_iald hX hP 1 rfl hiv2 dX11_copy_22 (fun v2 ev2 => ?_)
      replace hf := hf v2 ev2
      obtain ⟨hiw3, hf⟩ := o_sth hf
      refine g_iast hX hP hD hS 1 rfl hiw3 dX11_copy_23 (fun w3 ew3 H locs hP hD hS => ?_)
      replace hf := hf w3 ew3
      replace hP : va_P D vwCl [(q_t, .inr (11, [.ref q_w, .ref q_isKept, .int t_all, .int t_corners, .int t_hearers, .int t_newAll, .int t_newCorners, .int t_newHearers, .ref q_beer, .ref q_cold, .ref q_stands, .ref q_pinched, .ref q_says, .ref q_text, .int t_textSize, .int t_at, .int t_first, .int t_faultOf, .int t_fault, .int t_spoke, .int t_holds, .int t_undoMany, .ref q_seenDecree, .ref q_seenAt, .ref q_seenSpoke, .int t_seen, .ref q_inSets, .ref q_book, .int t_written])), (q_w, .inl (a 0, 578, .inl w3))] H := hP
      replace hD : va_D A [(q_t, .inr (11, [.ref q_w, .ref q_isKept, .int t_all, .int t_corners, .int t_hearers, .int t_newAll, .int t_newCorners, .int t_newHearers, .ref q_beer, .ref q_cold, .ref q_stands, .ref q_pinched, .ref q_says, .ref q_text, .int t_textSize, .int t_at, .int t_first, .int t_faultOf, .int t_fault, .int t_spoke, .int t_holds, .int t_undoMany, .ref q_seenDecree, .ref q_seenAt, .ref q_seenSpoke, .int t_seen, .ref q_inSets, .ref q_book, .int t_written])), (q_w, .inl (a 0, 578, .inl w3))] := hD
      obtain ⟨v4, ev4⟩ : ∃ y : Int32, y = x3 + (1 : Int32) := ⟨_, rfl⟩
      replace hf := o_nmh hf v4 ev4
      refine lv_iinc (v := v4) (lv' := [(3, .int v4), (0, .ref q_t), (1, .int x1), (2, .int x2)]) hx hb dX11_copy_24 hl (k := 3) rfl (by rw [ev4]; rfl) (by decide) rfl (fun ls hl => ?_)
      refine lv_goto (tgt := 2) hx hb dX11_copy_27 (by decide) ?_
      exact ih_2 w3 x1 x2 v4 _ _ _ hf hP hD hS (lv_sub hl [1, 2, 3, 0] rfl)
  unfold f_X11_copy at hf
  refine lv_iconst (v := (0 : Int32)) hx hb dX11_copy_0 (by decide) ?_
  refine lv_istore_n (lv' := [(3, .int (0 : Int32)), (0, .ref q_t), (1, .int x1), (2, .int x2)]) hx hb dX11_copy_1 rfl hl (by decide) rfl (fun ls hl => ?_)
  exact L_2 1000 w x1 x2 (0 : Int32) _ _ _ hf hP hD hS (lv_sub hl [1, 2, 3, 0] rfl)
def f_X11_tryRound (t_all : Int32) (t_corners : Int32) (t_hearers : Int32) (t_spoke : Int32) (t_holds : Int32) (pinched : Nat → Int32) (says : Nat → Int32) (w : Nat → Int32) (x1 : Int32) (x2 : Int32) (x3 : Int32) (x4 : Int32) (x5 : Int32) : Option (Int32 × Int32 × Int32 × (Nat → Int32)) :=
  (f_X11_copy w (0 : Int32) (17 : Int32)).bind fun o1 =>
  (o_ld o1 578 (27 : Int32)).bind fun v2 =>
  (o_st o1 578 (27 : Int32) (v2 ||| x5)).bind fun w3 =>
  (f_X11_roundIn t_all t_corners t_hearers t_spoke t_holds pinched says w3 (17 : Int32) x1 x2 x3 x4).bind fun o4 =>
  some (o4.1, o4.2.1, o4.2.2.1, o4.2.2.2)
theorem hdS_X11_tryRound : yX11_tryRound.cls ≠ "java/lang/invoke/MethodHandle" ∧ yX11_tryRound.cls ≠ "java/lang/invoke/VarHandle" ∧ (parseMethodDescriptor yX11_tryRound.desc).map (fun d => d.parameters.length) = some 5 := by decide +kernel
theorem hdV_X11_tryRound : yX11_tryRound.cls = RX11 ∧ yX11_tryRound.cls ≠ "java/lang/invoke/MethodHandle" ∧ yX11_tryRound.cls ≠ "java/lang/invoke/VarHandle" ∧ (parseMethodDescriptor yX11_tryRound.desc).map (fun d => d.parameters.length) = some 5 := ⟨rfl, hdS_X11_tryRound⟩
set_option maxHeartbeats 4000000 in
set_option maxRecDepth 100000 in
theorem c_X11_tryRound (l : Launch) (D : va_G) (a : Nat → ClassId) (t : Nat) (q_t : Nat) (q_w : Nat) (q_isKept : Nat) (t_all : Int32) (t_corners : Int32) (t_hearers : Int32) (t_newAll : Int32) (t_newCorners : Int32) (t_newHearers : Int32) (q_beer : Nat) (q_cold : Nat) (q_stands : Nat) (q_pinched : Nat) (q_says : Nat) (q_text : Nat) (t_textSize : Int32) (t_at : Int32) (t_first : Int32) (t_faultOf : Int32) (t_fault : Int32) (t_spoke : Int32) (t_holds : Int32) (t_undoMany : Int32) (q_seenDecree : Nat) (q_seenAt : Nat) (q_seenSpoke : Nat) (t_seen : Int32) (q_inSets : Nat) (q_book : Nat) (t_written : Int32) (pinched : Nat → Int32) (says : Nat → Int32) (w : Nat → Int32) (x1 : Int32) (x2 : Int32) (x3 : Int32) (x4 : Int32) (x5 : Int32) (r : Int32) (o_t_spoke : Int32) (o_t_holds : Int32) (o_w : Nat → Int32) (hf : f_X11_tryRound t_all t_corners t_hearers t_spoke t_holds pinched says w x1 x2 x3 x4 x5 = some (r, o_t_spoke, o_t_holds, o_w)) : Ki l yX11_tryRound wsX11_tryRound 5 128 D a t [.ref q_t, .int x1, .int x2, .int x3, .int x4, .int x5] [(q_t, .inr (11, [.ref q_w, .ref q_isKept, .int t_all, .int t_corners, .int t_hearers, .int t_newAll, .int t_newCorners, .int t_newHearers, .ref q_beer, .ref q_cold, .ref q_stands, .ref q_pinched, .ref q_says, .ref q_text, .int t_textSize, .int t_at, .int t_first, .int t_faultOf, .int t_fault, .int t_spoke, .int t_holds, .int t_undoMany, .ref q_seenDecree, .ref q_seenAt, .ref q_seenSpoke, .int t_seen, .ref q_inSets, .ref q_book, .int t_written])), (q_pinched, .inl (a 0, 18, .inl pinched)), (q_says, .inl (a 0, 18, .inl says)), (q_w, .inl (a 0, 578, .inl w))] [(q_t, .inr (11, [.ref q_w, .ref q_isKept, .int t_all, .int t_corners, .int t_hearers, .int t_newAll, .int t_newCorners, .int t_newHearers, .ref q_beer, .ref q_cold, .ref q_stands, .ref q_pinched, .ref q_says, .ref q_text, .int t_textSize, .int t_at, .int t_first, .int t_faultOf, .int t_fault, .int o_t_spoke, .int o_t_holds, .int t_undoMany, .ref q_seenDecree, .ref q_seenAt, .ref q_seenSpoke, .int t_seen, .ref q_inSets, .ref q_book, .int t_written])), (q_pinched, .inl (a 0, 18, .inl pinched)), (q_says, .inl (a 0, 18, .inl says)), (q_w, .inl (a 0, 578, .inl o_w))] r := by
  refine Ki.mk (cc := cX11_tryRound) (nL := 6) (ty := .int) (own := RX11) (by decide) rfl rfl (Nat.le_of_ble_eq_true rfl) ?_
  intro p e s m args below meth c A Q ls hX hP hD hS hl hret
  have hx := hX.1.1
  have hb := hX.1.2.1
  have hown := hX.1.2.2.2.1
  have hts := hX.1.2.2.2.2
  have hN := hX.2.2.1
  have hA := hX.2.2.2.2
  have hl : lv_has ls 6 [(0, .ref q_t), (1, .int x1), (2, .int x2), (3, .int x3), (4, .int x4), (5, .int x5)] := hl
  have hk1 := hts (.fieldLink RX11 7 "GainsaidOnceModel" "w" "[I") (List.mem_of_getElem? (i := 1) rfl)
  have hiX11 : ∀ w ∈ wsX110, w ∈ wsX11_tryRound := (fun _ h => List.mem_cons_of_mem _ (List.mem_append_right _ h))
  unfold f_X11_tryRound at hf
  refine lv_aload_n hx hb dX11_tryRound_0 rfl (lv_at hl 0 rfl) ?_
  refine lv_iconst (v := (0 : Int32)) hx hb dX11_tryRound_1 (by decide) ?_
  refine lv_bipush (v := (17 : Int32)) hx hb dX11_tryRound_2 (by decide) ?_
  obtain ⟨o1, ho1, hf⟩ := o_bd hf
  refine call_vV (q0 := 0) (ci := 11) hX (c_X11_copy l D a t q_t q_w q_isKept t_all t_corners t_hearers t_newAll t_newCorners t_newHearers q_beer q_cold q_stands q_pinched q_says q_text t_textSize t_at t_first t_faultOf t_fault t_spoke t_holds t_undoMany q_seenDecree q_seenAt q_seenSpoke t_seen q_inSets q_book t_written w (0 : Int32) (17 : Int32) o1 ho1) (cwV 2 hts gX11_tryRound_X11_copy rfl rfl rfl hdV_X11_copy ⟨by decide, by decide⟩) (Cut.of hA hP hD hS [0, 3] (by decide) rfl rfl (W' := [(q_t, .inr (11, [.ref q_w, .ref q_isKept, .int t_all, .int t_corners, .int t_hearers, .int t_newAll, .int t_newCorners, .int t_newHearers, .ref q_beer, .ref q_cold, .ref q_stands, .ref q_pinched, .ref q_says, .ref q_text, .int t_textSize, .int t_at, .int t_first, .int t_faultOf, .int t_fault, .int t_spoke, .int t_holds, .int t_undoMany, .ref q_seenDecree, .ref q_seenAt, .ref q_seenSpoke, .int t_seen, .ref q_inSets, .ref q_book, .int t_written])), (q_pinched, .inl (a 0, 18, .inl pinched)), (q_says, .inl (a 0, 18, .inl says)), (q_w, .inl (a 0, 578, .inl o1))]) rfl) hS rfl rfl rfl hl.1 rfl (Nat.le_of_ble_eq_true rfl) dX11_tryRound_4 (by decide) (fun H locs hP hD hS => ?_)
  replace hP : va_P D vwCl [(q_t, .inr (11, [.ref q_w, .ref q_isKept, .int t_all, .int t_corners, .int t_hearers, .int t_newAll, .int t_newCorners, .int t_newHearers, .ref q_beer, .ref q_cold, .ref q_stands, .ref q_pinched, .ref q_says, .ref q_text, .int t_textSize, .int t_at, .int t_first, .int t_faultOf, .int t_fault, .int t_spoke, .int t_holds, .int t_undoMany, .ref q_seenDecree, .ref q_seenAt, .ref q_seenSpoke, .int t_seen, .ref q_inSets, .ref q_book, .int t_written])), (q_pinched, .inl (a 0, 18, .inl pinched)), (q_says, .inl (a 0, 18, .inl says)), (q_w, .inl (a 0, 578, .inl o1))] H := hP
  replace hD : va_D A [(q_t, .inr (11, [.ref q_w, .ref q_isKept, .int t_all, .int t_corners, .int t_hearers, .int t_newAll, .int t_newCorners, .int t_newHearers, .ref q_beer, .ref q_cold, .ref q_stands, .ref q_pinched, .ref q_says, .ref q_text, .int t_textSize, .int t_at, .int t_first, .int t_faultOf, .int t_fault, .int t_spoke, .int t_holds, .int t_undoMany, .ref q_seenDecree, .ref q_seenAt, .ref q_seenSpoke, .int t_seen, .ref q_inSets, .ref q_book, .int t_written])), (q_pinched, .inl (a 0, 18, .inl pinched)), (q_says, .inl (a 0, 18, .inl says)), (q_w, .inl (a 0, 578, .inl o1))] := hD
  refine lv_aload_n hx hb dX11_tryRound_7 rfl (lv_at hl 0 rfl) ?_
  refine g_get hX hiX11 hP 0 rfl rfl 0 (by decide) hk1 rfl rfl dX11_tryRound_8 ?_
  refine lv_bipush (v := (27 : Int32)) hx hb dX11_tryRound_11 (by decide) ?_
  refine lv_dup2_11 hx hb dX11_tryRound_13 rfl rfl ?_
  obtain ⟨hiv2, hf⟩ := o_ldh hf
  refine g_iald hX hP 3 rfl hiv2 dX11_tryRound_14 (fun v2 ev2 => ?_)
  replace hf := hf v2 ev2
  refine lv_iload hx hb dX11_tryRound_15 (lv_at hl 5 rfl) ?_
  refine lv_ior hx hb dX11_tryRound_17 ?_
  obtain ⟨hiw3, hf⟩ := o_sth hf
  refine g_iast hX hP hD hS 3 rfl hiw3 dX11_tryRound_18 (fun w3 ew3 H locs hP hD hS => ?_)
  replace hf := hf w3 ew3
  replace hP : va_P D vwCl [(q_t, .inr (11, [.ref q_w, .ref q_isKept, .int t_all, .int t_corners, .int t_hearers, .int t_newAll, .int t_newCorners, .int t_newHearers, .ref q_beer, .ref q_cold, .ref q_stands, .ref q_pinched, .ref q_says, .ref q_text, .int t_textSize, .int t_at, .int t_first, .int t_faultOf, .int t_fault, .int t_spoke, .int t_holds, .int t_undoMany, .ref q_seenDecree, .ref q_seenAt, .ref q_seenSpoke, .int t_seen, .ref q_inSets, .ref q_book, .int t_written])), (q_pinched, .inl (a 0, 18, .inl pinched)), (q_says, .inl (a 0, 18, .inl says)), (q_w, .inl (a 0, 578, .inl w3))] H := hP
  replace hD : va_D A [(q_t, .inr (11, [.ref q_w, .ref q_isKept, .int t_all, .int t_corners, .int t_hearers, .int t_newAll, .int t_newCorners, .int t_newHearers, .ref q_beer, .ref q_cold, .ref q_stands, .ref q_pinched, .ref q_says, .ref q_text, .int t_textSize, .int t_at, .int t_first, .int t_faultOf, .int t_fault, .int t_spoke, .int t_holds, .int t_undoMany, .ref q_seenDecree, .ref q_seenAt, .ref q_seenSpoke, .int t_seen, .ref q_inSets, .ref q_book, .int t_written])), (q_pinched, .inl (a 0, 18, .inl pinched)), (q_says, .inl (a 0, 18, .inl says)), (q_w, .inl (a 0, 578, .inl w3))] := hD
  refine lv_aload_n hx hb dX11_tryRound_19 rfl (lv_at hl 0 rfl) ?_
  refine lv_bipush (v := (17 : Int32)) hx hb dX11_tryRound_20 (by decide) ?_
  refine lv_iload_n hx hb dX11_tryRound_22 rfl (lv_at hl 1 rfl) ?_
  refine lv_iload_n hx hb dX11_tryRound_23 rfl (lv_at hl 2 rfl) ?_
  refine lv_iload_n hx hb dX11_tryRound_24 rfl (lv_at hl 3 rfl) ?_
  refine lv_iload hx hb dX11_tryRound_25 (lv_at hl 4 rfl) ?_
  obtain ⟨o4, ho4, hf⟩ := o_bd hf
  refine call_iV (q0 := 0) (ci := 11) hX (c_X11_roundIn l D a t q_t q_w q_isKept t_all t_corners t_hearers t_newAll t_newCorners t_newHearers q_beer q_cold q_stands q_pinched q_says q_text t_textSize t_at t_first t_faultOf t_fault t_spoke t_holds t_undoMany q_seenDecree q_seenAt q_seenSpoke t_seen q_inSets q_book t_written pinched says w3 (17 : Int32) x1 x2 x3 x4 o4.1 o4.2.1 o4.2.2.1 o4.2.2.2 ho4) (cwV 5 hts gX11_tryRound_X11_roundIn rfl rfl rfl hdV_X11_roundIn ⟨by decide, by decide⟩) (Cut.of hA hP hD hS [0, 1, 2, 3] (by decide) rfl rfl (W' := [(q_t, .inr (11, [.ref q_w, .ref q_isKept, .int t_all, .int t_corners, .int t_hearers, .int t_newAll, .int t_newCorners, .int t_newHearers, .ref q_beer, .ref q_cold, .ref q_stands, .ref q_pinched, .ref q_says, .ref q_text, .int t_textSize, .int t_at, .int t_first, .int t_faultOf, .int t_fault, .int o4.2.1, .int o4.2.2.1, .int t_undoMany, .ref q_seenDecree, .ref q_seenAt, .ref q_seenSpoke, .int t_seen, .ref q_inSets, .ref q_book, .int t_written])), (q_pinched, .inl (a 0, 18, .inl pinched)), (q_says, .inl (a 0, 18, .inl says)), (q_w, .inl (a 0, 578, .inl o4.2.2.2))]) rfl) hS rfl rfl rfl hl.1 rfl (Nat.le_of_ble_eq_true rfl) dX11_tryRound_27 (by decide) (fun H locs hP hD hS => ?_)
  replace hP : va_P D vwCl [(q_t, .inr (11, [.ref q_w, .ref q_isKept, .int t_all, .int t_corners, .int t_hearers, .int t_newAll, .int t_newCorners, .int t_newHearers, .ref q_beer, .ref q_cold, .ref q_stands, .ref q_pinched, .ref q_says, .ref q_text, .int t_textSize, .int t_at, .int t_first, .int t_faultOf, .int t_fault, .int o4.2.1, .int o4.2.2.1, .int t_undoMany, .ref q_seenDecree, .ref q_seenAt, .ref q_seenSpoke, .int t_seen, .ref q_inSets, .ref q_book, .int t_written])), (q_pinched, .inl (a 0, 18, .inl pinched)), (q_says, .inl (a 0, 18, .inl says)), (q_w, .inl (a 0, 578, .inl o4.2.2.2))] H := hP
  replace hD : va_D A [(q_t, .inr (11, [.ref q_w, .ref q_isKept, .int t_all, .int t_corners, .int t_hearers, .int t_newAll, .int t_newCorners, .int t_newHearers, .ref q_beer, .ref q_cold, .ref q_stands, .ref q_pinched, .ref q_says, .ref q_text, .int t_textSize, .int t_at, .int t_first, .int t_faultOf, .int t_fault, .int o4.2.1, .int o4.2.2.1, .int t_undoMany, .ref q_seenDecree, .ref q_seenAt, .ref q_seenSpoke, .int t_seen, .ref q_inSets, .ref q_book, .int t_written])), (q_pinched, .inl (a 0, 18, .inl pinched)), (q_says, .inl (a 0, 18, .inl says)), (q_w, .inl (a 0, 578, .inl o4.2.2.2))] := hD
  cases hf
  exact hret _ _ _ _ (vp_nar_int _) hP hD hS dX11_tryRound_30
