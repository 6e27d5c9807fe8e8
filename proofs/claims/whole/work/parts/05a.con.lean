def f_X0_start (t_silenced : Int32) (t_liars : Int32) (t_decree : Int32) (t_holds : Int32) (t_spoke : Int32) (t_hoarse : Int32) (now_hoarse : Int32) (now_keptIn : Int32) (x1 : Int32) (x2 : Int32) (x3 : Int32) : Option (Int32 × Int32 × Int32 × Int32 × Int32 × Int32) :=
  o_nm ((now_keptIn ||| x2)) fun v1 =>
  some (v1, x3, x1, (0 : Int32), (0 : Int32), now_hoarse)
theorem hdS_X0_start : yX0_start.cls ≠ "java/lang/invoke/MethodHandle" ∧ yX0_start.cls ≠ "java/lang/invoke/VarHandle" ∧ (parseMethodDescriptor yX0_start.desc).map (fun d => d.parameters.length) = some 3 := by decide +kernel
theorem hdV_X0_start : yX0_start.cls = RX0 ∧ yX0_start.cls ≠ "java/lang/invoke/MethodHandle" ∧ yX0_start.cls ≠ "java/lang/invoke/VarHandle" ∧ (parseMethodDescriptor yX0_start.desc).map (fun d => d.parameters.length) = some 3 := ⟨rfl, hdS_X0_start⟩
set_option maxHeartbeats 4000000 in
set_option maxRecDepth 100000 in
theorem c_X0_start (l : Launch) (D : va_G) (a : Nat → ClassId) (t : Nat) (q_t : Nat) (q_ring : Nat) (q_now : Nat) (t_silenced : Int32) (t_liars : Int32) (t_decree : Int32) (t_holds : Int32) (t_spoke : Int32) (t_hoarse : Int32) (now_rounds : Int32) (now_months : Int32) (now_law : Int32) (now_holds : Int32) (now_hoarse : Int32) (now_keptIn : Int32) (now_colds : Int32) (q_now_places : Nat) (x1 : Int32) (x2 : Int32) (x3 : Int32) (o_t_silenced : Int32) (o_t_liars : Int32) (o_t_decree : Int32) (o_t_holds : Int32) (o_t_spoke : Int32) (o_t_hoarse : Int32) (hf : f_X0_start t_silenced t_liars t_decree t_holds t_spoke t_hoarse now_hoarse now_keptIn x1 x2 x3 = some (o_t_silenced, o_t_liars, o_t_decree, o_t_holds, o_t_spoke, o_t_hoarse)) : Kv l yX0_start wsX0_start 0 0 D a t [.ref q_t, .int x1, .int x2, .int x3] [(q_t, .inr (0, [.ref q_ring, .ref q_now, .int t_silenced, .int t_liars, .int t_decree, .int t_holds, .int t_spoke, .int t_hoarse])), (q_now, .inr (6, [.int now_rounds, .int now_months, .int now_law, .int now_holds, .int now_hoarse, .int now_keptIn, .int now_colds, .ref q_now_places]))] [(q_t, .inr (0, [.ref q_ring, .ref q_now, .int o_t_silenced, .int o_t_liars, .int o_t_decree, .int o_t_holds, .int o_t_spoke, .int o_t_hoarse])), (q_now, .inr (6, [.int now_rounds, .int now_months, .int now_law, .int now_holds, .int now_hoarse, .int now_keptIn, .int now_colds, .ref q_now_places]))] := by
  refine Kv.mk (cc := cX0_start) (nL := 4) (own := RX0) (by decide) rfl rfl (Nat.le_of_ble_eq_true rfl) ?_
  intro p e s m args below meth c A Q ls hX hP hD hS hl hret
  have hx := hX.1.1
  have hb := hX.1.2.1
  have hown := hX.1.2.2.2.1
  have hts := hX.1.2.2.2.2
  have hN := hX.2.2.1
  have hA := hX.2.2.2.2
  have hl : lv_has ls 4 [(0, .ref q_t), (1, .int x1), (2, .int x2), (3, .int x3)] := hl
  have hk1 := hts (.fieldLink RX0 17 "GainsaidOnce$Crier" "decree" "I") (List.mem_of_getElem? (i := 1) rfl)
  have hk2 := hts (.fieldLink RX0 13 "GainsaidOnce$Crier" "now" "LGainsaidOnce$State;") (List.mem_of_getElem? (i := 2) rfl)
  have hk3 := hts (.fieldLink RX0 26 "GainsaidOnce$Crier" "silenced" "I") (List.mem_of_getElem? (i := 3) rfl)
  have hk4 := hts (.fieldLink RX0 29 "GainsaidOnce$Crier" "liars" "I") (List.mem_of_getElem? (i := 4) rfl)
  have hk5 := hts (.fieldLink RX0 32 "GainsaidOnce$Crier" "holds" "I") (List.mem_of_getElem? (i := 5) rfl)
  have hk6 := hts (.fieldLink RX0 35 "GainsaidOnce$Crier" "spoke" "I") (List.mem_of_getElem? (i := 6) rfl)
  have hk7 := hts (.fieldLink RX0 41 "GainsaidOnce$Crier" "hoarse" "I") (List.mem_of_getElem? (i := 7) rfl)
  have hiX0 : ∀ w ∈ wsX00, w ∈ wsX0_start := (fun _ h => List.mem_cons_of_mem _ (List.mem_append_left _ (List.mem_append_right _ h)))
  have hiX6 : ∀ w ∈ wsX60, w ∈ wsX0_start := (fun _ h => List.mem_cons_of_mem _ (List.mem_append_right _ h))
  unfold f_X0_start at hf
  refine lv_aload_n hx hb dX0_start_0 rfl (lv_at hl 0 rfl) ?_
  refine lv_iload_n hx hb dX0_start_1 rfl (lv_at hl 1 rfl) ?_
  refine g_put hX hiX0 tyX0 tyX0_ok nmX0 hP hD hS 0 rfl rfl 4 (by decide) hk1 rfl rfl rfl rfl (Nat.le_of_ble_eq_true rfl) dX0_start_2 (fun H locs hP hD hS => ?_)
  have hP : va_P D vwCl [(q_t, .inr (0, [.ref q_ring, .ref q_now, .int t_silenced, .int t_liars, .int x1, .int t_holds, .int t_spoke, .int t_hoarse])), (q_now, .inr (6, [.int now_rounds, .int now_months, .int now_law, .int now_holds, .int now_hoarse, .int now_keptIn, .int now_colds, .ref q_now_places]))] H := hP
  have hD : va_D A [(q_t, .inr (0, [.ref q_ring, .ref q_now, .int t_silenced, .int t_liars, .int x1, .int t_holds, .int t_spoke, .int t_hoarse])), (q_now, .inr (6, [.int now_rounds, .int now_months, .int now_law, .int now_holds, .int now_hoarse, .int now_keptIn, .int now_colds, .ref q_now_places]))] := hD
  refine lv_aload_n hx hb dX0_start_5 rfl (lv_at hl 0 rfl) ?_
  refine lv_aload_n hx hb dX0_start_6 rfl (lv_at hl 0 rfl) ?_
  refine g_get hX hiX0 hP 0 rfl rfl 1 (by decide) hk2 rfl rfl dX0_start_7 ?_
  refine g_getN hX hiX6 hP 1 rfl rfl 5 (by decide) (nw_32 hN) rfl rfl dX0_start_10 ?_
  refine lv_iload_n hx hb dX0_start_13 rfl (lv_at hl 2 rfl) ?_
  refine lv_ior hx hb dX0_start_14 ?_
  refine lv_topi (fun v1 ev1 => ?_)
  have hf := o_nmh hf v1 ev1
  refine g_put hX hiX0 tyX0 tyX0_ok nmX0 hP hD hS 0 rfl rfl 2 (by decide) hk3 rfl rfl rfl rfl (Nat.le_of_ble_eq_true rfl) dX0_start_15 (fun H locs hP hD hS => ?_)
  have hP : va_P D vwCl [(q_t, .inr (0, [.ref q_ring, .ref q_now, .int v1, .int t_liars, .int x1, .int t_holds, .int t_spoke, .int t_hoarse])), (q_now, .inr (6, [.int now_rounds, .int now_months, .int now_law, .int now_holds, .int now_hoarse, .int now_keptIn, .int now_colds, .ref q_now_places]))] H := hP
  have hD : va_D A [(q_t, .inr (0, [.ref q_ring, .ref q_now, .int v1, .int t_liars, .int x1, .int t_holds, .int t_spoke, .int t_hoarse])), (q_now, .inr (6, [.int now_rounds, .int now_months, .int now_law, .int now_holds, .int now_hoarse, .int now_keptIn, .int now_colds, .ref q_now_places]))] := hD
  refine lv_aload_n hx hb dX0_start_18 rfl (lv_at hl 0 rfl) ?_
  refine lv_iload_n hx hb dX0_start_19 rfl (lv_at hl 3 rfl) ?_
  refine g_put hX hiX0 tyX0 tyX0_ok nmX0 hP hD hS 0 rfl rfl 3 (by decide) hk4 rfl rfl rfl rfl (Nat.le_of_ble_eq_true rfl) dX0_start_20 (fun H locs hP hD hS => ?_)
  have hP : va_P D vwCl [(q_t, .inr (0, [.ref q_ring, .ref q_now, .int v1, .int x3, .int x1, .int t_holds, .int t_spoke, .int t_hoarse])), (q_now, .inr (6, [.int now_rounds, .int now_months, .int now_law, .int now_holds, .int now_hoarse, .int now_keptIn, .int now_colds, .ref q_now_places]))] H := hP
  have hD : va_D A [(q_t, .inr (0, [.ref q_ring, .ref q_now, .int v1, .int x3, .int x1, .int t_holds, .int t_spoke, .int t_hoarse])), (q_now, .inr (6, [.int now_rounds, .int now_months, .int now_law, .int now_holds, .int now_hoarse, .int now_keptIn, .int now_colds, .ref q_now_places]))] := hD
  refine lv_aload_n hx hb dX0_start_23 rfl (lv_at hl 0 rfl) ?_
  refine lv_iconst (v := (0 : Int32)) hx hb dX0_start_24 (by decide) ?_
  refine g_put hX hiX0 tyX0 tyX0_ok nmX0 hP hD hS 0 rfl rfl 5 (by decide) hk5 rfl rfl rfl rfl (Nat.le_of_ble_eq_true rfl) dX0_start_25 (fun H locs hP hD hS => ?_)
  have hP : va_P D vwCl [(q_t, .inr (0, [.ref q_ring, .ref q_now, .int v1, .int x3, .int x1, .int (0 : Int32), .int t_spoke, .int t_hoarse])), (q_now, .inr (6, [.int now_rounds, .int now_months, .int now_law, .int now_holds, .int now_hoarse, .int now_keptIn, .int now_colds, .ref q_now_places]))] H := hP
  have hD : va_D A [(q_t, .inr (0, [.ref q_ring, .ref q_now, .int v1, .int x3, .int x1, .int (0 : Int32), .int t_spoke, .int t_hoarse])), (q_now, .inr (6, [.int now_rounds, .int now_months, .int now_law, .int now_holds, .int now_hoarse, .int now_keptIn, .int now_colds, .ref q_now_places]))] := hD
  refine lv_aload_n hx hb dX0_start_28 rfl (lv_at hl 0 rfl) ?_
  refine lv_iconst (v := (0 : Int32)) hx hb dX0_start_29 (by decide) ?_
  refine g_put hX hiX0 tyX0 tyX0_ok nmX0 hP hD hS 0 rfl rfl 6 (by decide) hk6 rfl rfl rfl rfl (Nat.le_of_ble_eq_true rfl) dX0_start_30 (fun H locs hP hD hS => ?_)
  have hP : va_P D vwCl [(q_t, .inr (0, [.ref q_ring, .ref q_now, .int v1, .int x3, .int x1, .int (0 : Int32), .int (0 : Int32), .int t_hoarse])), (q_now, .inr (6, [.int now_rounds, .int now_months, .int now_law, .int now_holds, .int now_hoarse, .int now_keptIn, .int now_colds, .ref q_now_places]))] H := hP
  have hD : va_D A [(q_t, .inr (0, [.ref q_ring, .ref q_now, .int v1, .int x3, .int x1, .int (0 : Int32), .int (0 : Int32), .int t_hoarse])), (q_now, .inr (6, [.int now_rounds, .int now_months, .int now_law, .int now_holds, .int now_hoarse, .int now_keptIn, .int now_colds, .ref q_now_places]))] := hD
  refine lv_aload_n hx hb dX0_start_33 rfl (lv_at hl 0 rfl) ?_
  refine lv_aload_n hx hb dX0_start_34 rfl (lv_at hl 0 rfl) ?_
  refine g_get hX hiX0 hP 0 rfl rfl 1 (by decide) hk2 rfl rfl dX0_start_35 ?_
  refine g_getN hX hiX6 hP 1 rfl rfl 4 (by decide) (nw_30 hN) rfl rfl dX0_start_38 ?_
  refine g_put hX hiX0 tyX0 tyX0_ok nmX0 hP hD hS 0 rfl rfl 7 (by decide) hk7 rfl rfl rfl rfl (Nat.le_of_ble_eq_true rfl) dX0_start_41 (fun H locs hP hD hS => ?_)
  have hP : va_P D vwCl [(q_t, .inr (0, [.ref q_ring, .ref q_now, .int v1, .int x3, .int x1, .int (0 : Int32), .int (0 : Int32), .int now_hoarse])), (q_now, .inr (6, [.int now_rounds, .int now_months, .int now_law, .int now_holds, .int now_hoarse, .int now_keptIn, .int now_colds, .ref q_now_places]))] H := hP
  have hD : va_D A [(q_t, .inr (0, [.ref q_ring, .ref q_now, .int v1, .int x3, .int x1, .int (0 : Int32), .int (0 : Int32), .int now_hoarse])), (q_now, .inr (6, [.int now_rounds, .int now_months, .int now_law, .int now_holds, .int now_hoarse, .int now_keptIn, .int now_colds, .ref q_now_places]))] := hD
  cases hf
  exact hret _ _ _ _ hP hD hS dX0_start_44
def f_X0_cornerOf_14 (ring_corners : Int32) (s0 : Int32) : Option (Int32) :=
  if s0 < ring_corners then (if 0 ≤ s0 then (some s0)
  else (some (s0 + ring_corners)))
  else (some (s0 - ring_corners))
def f_X0_cornerOf (ring_corners : Int32) (x1 : Int32) (x2 : Int32) (x3 : Int32) : Option (Int32) :=
  if x2 = (1 : Int32) then (f_X0_cornerOf_14 ring_corners ((x1 + x3)))
  else (f_X0_cornerOf_14 ring_corners ((x1 - x3)))
theorem hdS_X0_cornerOf : yX0_cornerOf.cls ≠ "java/lang/invoke/MethodHandle" ∧ yX0_cornerOf.cls ≠ "java/lang/invoke/VarHandle" ∧ (parseMethodDescriptor yX0_cornerOf.desc).map (fun d => d.parameters.length) = some 3 := by decide +kernel
theorem hdV_X0_cornerOf : yX0_cornerOf.cls = RX0 ∧ yX0_cornerOf.cls ≠ "java/lang/invoke/MethodHandle" ∧ yX0_cornerOf.cls ≠ "java/lang/invoke/VarHandle" ∧ (parseMethodDescriptor yX0_cornerOf.desc).map (fun d => d.parameters.length) = some 3 := ⟨rfl, hdS_X0_cornerOf⟩
set_option maxHeartbeats 4000000 in
set_option maxRecDepth 100000 in
theorem c_X0_cornerOf (l : Launch) (D : va_G) (a : Nat → ClassId) (t : Nat) (q_t : Nat) (q_ring : Nat) (q_now : Nat) (t_silenced : Int32) (t_liars : Int32) (t_decree : Int32) (t_holds : Int32) (t_spoke : Int32) (t_hoarse : Int32) (ring_clauses : Int32) (ring_corners : Int32) (ring_hearers : Int32) (ring_firstColds : Int32) (q_ring_beers : Nat) (q_ring_firstPlaces : Nat) (q_ring_pinches : Nat) (q_ring_sayings : Nat) (x1 : Int32) (x2 : Int32) (x3 : Int32) (r : Int32) (hf : f_X0_cornerOf ring_corners x1 x2 x3 = some r) : Ki l yX0_cornerOf wsX0_cornerOf 0 0 D a t [.ref q_t, .int x1, .int x2, .int x3] [(q_t, .inr (0, [.ref q_ring, .ref q_now, .int t_silenced, .int t_liars, .int t_decree, .int t_holds, .int t_spoke, .int t_hoarse])), (q_ring, .inr (7, [.int ring_clauses, .int ring_corners, .int ring_hearers, .int ring_firstColds, .ref q_ring_beers, .ref q_ring_firstPlaces, .ref q_ring_pinches, .ref q_ring_sayings]))] [(q_t, .inr (0, [.ref q_ring, .ref q_now, .int t_silenced, .int t_liars, .int t_decree, .int t_holds, .int t_spoke, .int t_hoarse])), (q_ring, .inr (7, [.int ring_clauses, .int ring_corners, .int ring_hearers, .int ring_firstColds, .ref q_ring_beers, .ref q_ring_firstPlaces, .ref q_ring_pinches, .ref q_ring_sayings]))] r := by
  refine Ki.mk (cc := cX0_cornerOf) (nL := 5) (ty := .int) (own := RX0) (by decide) rfl rfl (Nat.le_of_ble_eq_true rfl) ?_
  intro p e s m args below meth c A Q ls hX hP hD hS hl hret
  have hx := hX.1.1
  have hb := hX.1.2.1
  have hown := hX.1.2.2.2.1
  have hts := hX.1.2.2.2.2
  have hN := hX.2.2.1
  have hA := hX.2.2.2.2
  have hl : lv_has ls 5 [(0, .ref q_t), (1, .int x1), (2, .int x2), (3, .int x3)] := hl
  have hk1 := hts (.fieldLink RX0 7 "GainsaidOnce$Crier" "ring" "LGainsaidOnce$Town;") (List.mem_of_getElem? (i := 1) rfl)
  have hiX0 : ∀ w ∈ wsX00, w ∈ wsX0_cornerOf := (fun _ h => List.mem_cons_of_mem _ (List.mem_append_left _ (List.mem_append_right _ h)))
  have hiX7 : ∀ w ∈ wsX70, w ∈ wsX0_cornerOf := (fun _ h => List.mem_cons_of_mem _ (List.mem_append_right _ h))
  have L_14 : ∀ (s0 : Int32) (H : Heap) (locs : List Loc) (ls : Array Slot), f_X0_cornerOf_14 ring_corners s0 = some r → va_P D vwCl [(q_t, .inr (0, [.ref q_ring, .ref q_now, .int t_silenced, .int t_liars, .int t_decree, .int t_holds, .int t_spoke, .int t_hoarse])), (q_ring, .inr (7, [.int ring_clauses, .int ring_corners, .int ring_hearers, .int ring_firstColds, .ref q_ring_beers, .ref q_ring_firstPlaces, .ref q_ring_pinches, .ref q_ring_sayings]))] H → va_D A [(q_t, .inr (0, [.ref q_ring, .ref q_now, .int t_silenced, .int t_liars, .int t_decree, .int t_holds, .int t_spoke, .int t_hoarse])), (q_ring, .inr (7, [.int ring_clauses, .int ring_corners, .int ring_hearers, .int ring_firstColds, .ref q_ring_beers, .ref q_ring_firstPlaces, .ref q_ring_pinches, .ref q_ring_sayings]))] → va_S A s.heap H locs → lv_has ls 5 [(0, .ref q_t)] → W p l e { frames := 0, cells := 0, slots := 0, locals := 0 } s m args below meth c H locs 0 0 Q (F0 m 14 ls [.int s0]) := by
    intro s0 H locs ls hf hP hD hS hl
    unfold f_X0_cornerOf_14 at hf
    refine lv_istore (lv' := [(4, .int s0), (0, .ref q_t)]) hx hb dX0_cornerOf_14 hl (by decide) rfl (fun ls hl => ?_)
    refine lv_iload hx hb dX0_cornerOf_16 (lv_at hl 0 rfl) ?_
    refine lv_aload_n hx hb dX0_cornerOf_18 rfl (lv_at hl 1 rfl) ?_
    refine g_get hX hiX0 hP 0 rfl rfl 0 (by decide) hk1 rfl rfl dX0_cornerOf_19 ?_
    refine g_getN hX hiX7 hP 1 rfl rfl 1 (by decide) (nw_10 hN) rfl rfl dX0_cornerOf_22 ?_
    refine lv_icmp_lt (tgt := 39) hx hb dX0_cornerOf_25 (by decide) (fun c1 => ?_) (fun c1 => ?_)
    · have hf := o_ifp hf c1
      refine lv_iload hx hb dX0_cornerOf_39 (lv_at hl 0 rfl) ?_
      refine lv_if_ge (tgt := 57) hx hb dX0_cornerOf_41 (by decide) (fun c2 => ?_) (fun c2 => ?_)
      · have hf := o_ifp hf c2
        refine lv_iload hx hb dX0_cornerOf_57 (lv_at hl 0 rfl) ?_
        cases hf
        exact hret _ _ _ _ (vp_nar_int _) hP hD hS dX0_cornerOf_59
      have hf := o_ifn hf c2
      refine lv_iload hx hb dX0_cornerOf_44 (lv_at hl 0 rfl) ?_
      refine lv_aload_n hx hb dX0_cornerOf_46 rfl (lv_at hl 1 rfl) ?_
      refine g_get hX hiX0 hP 0 rfl rfl 0 (by decide) hk1 rfl rfl dX0_cornerOf_47 ?_
      refine g_getN hX hiX7 hP 1 rfl rfl 1 (by decide) (nw_10 hN) rfl rfl dX0_cornerOf_50 ?_
      refine lv_iadd hx hb dX0_cornerOf_53 ?_
      refine lv_goto (tgt := 59) hx hb dX0_cornerOf_54 (by decide) ?_
      cases hf
      exact hret _ _ _ _ (vp_nar_int _) hP hD hS dX0_cornerOf_59
    have hf := o_ifn hf c1
    refine lv_iload hx hb dX0_cornerOf_28 (lv_at hl 0 rfl) ?_
    refine lv_aload_n hx hb dX0_cornerOf_30 rfl (lv_at hl 1 rfl) ?_
    refine g_get hX hiX0 hP 0 rfl rfl 0 (by decide) hk1 rfl rfl dX0_cornerOf_31 ?_
    refine g_getN hX hiX7 hP 1 rfl rfl 1 (by decide) (nw_10 hN) rfl rfl dX0_cornerOf_34 ?_
    refine lv_isub hx hb dX0_cornerOf_37 ?_
    cases hf
    exact hret _ _ _ _ (vp_nar_int _) hP hD hS dX0_cornerOf_38
  unfold f_X0_cornerOf at hf
  refine lv_iload_n hx hb dX0_cornerOf_0 rfl (lv_at hl 2 rfl) ?_
  refine lv_iconst (v := (1 : Int32)) hx hb dX0_cornerOf_1 (by decide) ?_
  refine lv_icmp_ne (tgt := 11) hx hb dX0_cornerOf_2 (by decide) (fun c3 => ?_) (fun c3 => ?_)
  · have hf := o_ifn hf c3
    refine lv_iload_n hx hb dX0_cornerOf_11 rfl (lv_at hl 1 rfl) ?_
    refine lv_iload_n hx hb dX0_cornerOf_12 rfl (lv_at hl 3 rfl) ?_
    refine lv_isub hx hb dX0_cornerOf_13 ?_
    exact L_14 ((x1 - x3)) _ _ _ hf hP hD hS (lv_sub hl [0] rfl)
  have hf := o_ifp hf c3
  refine lv_iload_n hx hb dX0_cornerOf_5 rfl (lv_at hl 1 rfl) ?_
  refine lv_iload_n hx hb dX0_cornerOf_6 rfl (lv_at hl 3 rfl) ?_
  refine lv_iadd hx hb dX0_cornerOf_7 ?_
  refine lv_goto (tgt := 14) hx hb dX0_cornerOf_8 (by decide) ?_
  exact L_14 ((x1 + x3)) _ _ _ hf hP hD hS (lv_sub hl [0] rfl)
def f_X10_at (n_p0 : Nat) (p0_a : Nat → Int32) (x1 : Int32) : Option (Int32) :=
  if x1 < 0 then (some (0 : Int32))
  else (if (Int32.ofNat n_p0) ≤ x1 then (some (0 : Int32))
  else ((o_ld p0_a n_p0 x1).bind fun v3 =>
  some v3))
theorem hdS_X10_at : yX10_at.cls ≠ "java/lang/invoke/MethodHandle" ∧ yX10_at.cls ≠ "java/lang/invoke/VarHandle" ∧ (parseMethodDescriptor yX10_at.desc).map (fun d => d.parameters.length) = some 2 := by decide +kernel
theorem hdV_X10_at : yX10_at.cls = RX10 ∧ yX10_at.cls ≠ "java/lang/invoke/MethodHandle" ∧ yX10_at.cls ≠ "java/lang/invoke/VarHandle" ∧ (parseMethodDescriptor yX10_at.desc).map (fun d => d.parameters.length) = some 2 := ⟨rfl, hdS_X10_at⟩
set_option maxHeartbeats 4000000 in
set_option maxRecDepth 100000 in
theorem c_X10_at (l : Launch) (D : va_G) (a : Nat → ClassId) (t : Nat) (q_p0 : Nat) (p0_a : Nat → Int32) (n_p0 : Nat) (x1 : Int32) (r : Int32) (hf : f_X10_at n_p0 p0_a x1 = some r) : Ki l yX10_at wsX10_at 0 0 D a t [.ref q_p0, .int x1] [(q_p0, .inl (a 0, n_p0, .inl p0_a))] [(q_p0, .inl (a 0, n_p0, .inl p0_a))] r := by
  refine Ki.mk (cc := cX10_at) (nL := 2) (ty := .int) (own := RX10) (by decide) rfl rfl (Nat.le_of_ble_eq_true rfl) ?_
  intro p e s m args below meth c A Q ls hX hP hD hS hl hret
  have hx := hX.1.1
  have hb := hX.1.2.1
  have hown := hX.1.2.2.2.1
  have hts := hX.1.2.2.2.2
  have hN := hX.2.2.1
  have hA := hX.2.2.2.2
  have hl : lv_has ls 2 [(0, .ref q_p0), (1, .int x1)] := hl
  unfold f_X10_at at hf
  refine lv_iload_n hx hb dX10_at_0 rfl (lv_at hl 1 rfl) ?_
  refine lv_if_lt (tgt := 16) hx hb dX10_at_1 (by decide) (fun c1 => ?_) (fun c1 => ?_)
  · have hf := o_ifp hf c1
    refine lv_iconst (v := (0 : Int32)) hx hb dX10_at_16 (by decide) ?_
    cases hf
    exact hret _ _ _ _ (vp_nar_int _) hP hD hS dX10_at_17
  have hf := o_ifn hf c1
  refine lv_iload_n hx hb dX10_at_4 rfl (lv_at hl 1 rfl) ?_
  refine lv_aload_n hx hb dX10_at_5 rfl (lv_at hl 0 rfl) ?_
  refine g_alen hX hP 0 0 rfl rfl dX10_at_6 ?_
  refine lv_icmp_ge (tgt := 16) hx hb dX10_at_7 (by decide) (fun c2 => ?_) (fun c2 => ?_)
  · have hf := o_ifp hf c2
    refine lv_iconst (v := (0 : Int32)) hx hb dX10_at_16 (by decide) ?_
    cases hf
    exact hret _ _ _ _ (vp_nar_int _) hP hD hS dX10_at_17
  have hf := o_ifn hf c2
  refine lv_aload_n hx hb dX10_at_10 rfl (lv_at hl 0 rfl) ?_
  refine lv_iload_n hx hb dX10_at_11 rfl (lv_at hl 1 rfl) ?_
  obtain ⟨hiv3, hf⟩ := o_ldh hf
  refine g_iald hX hP 0 rfl hiv3 dX10_at_12 (fun v3 ev3 => ?_)
  have hf := hf v3 ev3
  refine lv_goto (tgt := 17) hx hb dX10_at_13 (by decide) ?_
  cases hf
  exact hret _ _ _ _ (vp_nar_int _) hP hD hS dX10_at_17
def f_X10_has (x0 : Int32) (x1 : Int32) : Option (Int32) :=
  if ((x0 >>> (x1 &&& 31)) &&& (1 : Int32)) = (1 : Int32) then (some (1 : Int32))
  else (some (0 : Int32))
theorem hdS_X10_has : yX10_has.cls ≠ "java/lang/invoke/MethodHandle" ∧ yX10_has.cls ≠ "java/lang/invoke/VarHandle" ∧ (parseMethodDescriptor yX10_has.desc).map (fun d => d.parameters.length) = some 2 := by decide +kernel
theorem hdV_X10_has : yX10_has.cls = RX10 ∧ yX10_has.cls ≠ "java/lang/invoke/MethodHandle" ∧ yX10_has.cls ≠ "java/lang/invoke/VarHandle" ∧ (parseMethodDescriptor yX10_has.desc).map (fun d => d.parameters.length) = some 2 := ⟨rfl, hdS_X10_has⟩
set_option maxHeartbeats 4000000 in
set_option maxRecDepth 100000 in
theorem c_X10_has (l : Launch) (D : va_G) (a : Nat → ClassId) (t : Nat) (x0 : Int32) (x1 : Int32) (r : Int32) (hf : f_X10_has x0 x1 = some r) : Ki l yX10_has wsX10_has 0 0 D a t [.int x0, .int x1] [] [] r := by
  refine Ki.mk (cc := cX10_has) (nL := 2) (ty := .boolean) (own := RX10) (by decide) rfl rfl (Nat.le_of_ble_eq_true rfl) ?_
  intro p e s m args below meth c A Q ls hX hP hD hS hl hret
  have hx := hX.1.1
  have hb := hX.1.2.1
  have hown := hX.1.2.2.2.1
  have hts := hX.1.2.2.2.2
  have hN := hX.2.2.1
  have hA := hX.2.2.2.2
  have hl : lv_has ls 2 [(0, .int x0), (1, .int x1)] := hl
  unfold f_X10_has at hf
  refine lv_iload_n hx hb dX10_has_0 rfl (lv_at hl 0 rfl) ?_
  refine lv_iload_n hx hb dX10_has_1 rfl (lv_at hl 1 rfl) ?_
  refine lv_ishr hx hb dX10_has_2 ?_
  refine lv_iconst (v := (1 : Int32)) hx hb dX10_has_3 (by decide) ?_
  refine lv_iand hx hb dX10_has_4 ?_
  refine lv_iconst (v := (1 : Int32)) hx hb dX10_has_5 (by decide) ?_
  refine lv_icmp_ne (tgt := 13) hx hb dX10_has_6 (by decide) (fun c1 => ?_) (fun c1 => ?_)
  · have hf := o_ifn hf c1
    refine lv_iconst (v := (0 : Int32)) hx hb dX10_has_13 (by decide) ?_
    cases hf
    exact hret _ _ _ _ narrow_b0 hP hD hS dX10_has_14
  have hf := o_ifp hf c1
  refine lv_iconst (v := (1 : Int32)) hx hb dX10_has_9 (by decide) ?_
  refine lv_goto (tgt := 14) hx hb dX10_has_10 (by decide) ?_
  cases hf
  exact hret _ _ _ _ narrow_b1 hP hD hS dX10_has_14
def f_X0_speakersAt_5 (t_decree : Int32) (ring_hearers : Int32) (now_places : Nat → Int32) (ring_pinches : Nat → Int32) : Nat → Int32 → Int32 → Int32 → Int32 → Option (Int32)
  | 0, _, _, _, _ => none
  | n_5 + 1, x1, x2, x3, x4 =>
    if ring_hearers ≤ x4 then (some x3)
    else ((f_X10_at 9 now_places x4).bind fun o2 =>
    if o2 = x1 then ((f_X10_has x2 x4).bind fun o5 =>
    if o5 = 0 then ((f_X10_at 9 ring_pinches x4).bind fun o8 =>
    if (o8 &&& t_decree) = 0 then (o_nm (x4 + (1 : Int32)) fun v10 =>
    f_X0_speakersAt_5 t_decree ring_hearers now_places ring_pinches n_5 x1 x2 x3 v10)
    else (o_nm ((x3 ||| ((1 : Int32) <<< (x4 &&& 31)))) fun v11 =>
    o_nm (x4 + (1 : Int32)) fun v12 =>
    f_X0_speakersAt_5 t_decree ring_hearers now_places ring_pinches n_5 x1 x2 v11 v12))
    else (o_nm (x4 + (1 : Int32)) fun v7 =>
    f_X0_speakersAt_5 t_decree ring_hearers now_places ring_pinches n_5 x1 x2 x3 v7))
    else (o_nm (x4 + (1 : Int32)) fun v4 =>
    f_X0_speakersAt_5 t_decree ring_hearers now_places ring_pinches n_5 x1 x2 x3 v4))
def f_X0_speakersAt (t_decree : Int32) (ring_hearers : Int32) (now_places : Nat → Int32) (ring_pinches : Nat → Int32) (x1 : Int32) (x2 : Int32) : Option (Int32) :=
  f_X0_speakersAt_5 t_decree ring_hearers now_places ring_pinches 1000 x1 x2 (0 : Int32) (0 : Int32)
theorem hdS_X0_speakersAt : yX0_speakersAt.cls ≠ "java/lang/invoke/MethodHandle" ∧ yX0_speakersAt.cls ≠ "java/lang/invoke/VarHandle" ∧ (parseMethodDescriptor yX0_speakersAt.desc).map (fun d => d.parameters.length) = some 2 := by decide +kernel
theorem hdV_X0_speakersAt : yX0_speakersAt.cls = RX0 ∧ yX0_speakersAt.cls ≠ "java/lang/invoke/MethodHandle" ∧ yX0_speakersAt.cls ≠ "java/lang/invoke/VarHandle" ∧ (parseMethodDescriptor yX0_speakersAt.desc).map (fun d => d.parameters.length) = some 2 := ⟨rfl, hdS_X0_speakersAt⟩
set_option maxHeartbeats 4000000 in
set_option maxRecDepth 100000 in
theorem c_X0_speakersAt (l : Launch) (D : va_G) (a : Nat → ClassId) (t : Nat) (q_t : Nat) (q_ring : Nat) (q_now : Nat) (t_silenced : Int32) (t_liars : Int32) (t_decree : Int32) (t_holds : Int32) (t_spoke : Int32) (t_hoarse : Int32) (now_rounds : Int32) (now_months : Int32) (now_law : Int32) (now_holds : Int32) (now_hoarse : Int32) (now_keptIn : Int32) (now_colds : Int32) (q_now_places : Nat) (ring_clauses : Int32) (ring_corners : Int32) (ring_hearers : Int32) (ring_firstColds : Int32) (q_ring_beers : Nat) (q_ring_firstPlaces : Nat) (q_ring_pinches : Nat) (q_ring_sayings : Nat) (now_places : Nat → Int32) (ring_pinches : Nat → Int32) (x1 : Int32) (x2 : Int32) (r : Int32) (hf : f_X0_speakersAt t_decree ring_hearers now_places ring_pinches x1 x2 = some r) : Ki l yX0_speakersAt wsX0_speakersAt 1 21 D a t [.ref q_t, .int x1, .int x2] [(q_t, .inr (0, [.ref q_ring, .ref q_now, .int t_silenced, .int t_liars, .int t_decree, .int t_holds, .int t_spoke, .int t_hoarse])), (q_now, .inr (6, [.int now_rounds, .int now_months, .int now_law, .int now_holds, .int now_hoarse, .int now_keptIn, .int now_colds, .ref q_now_places])), (q_ring, .inr (7, [.int ring_clauses, .int ring_corners, .int ring_hearers, .int ring_firstColds, .ref q_ring_beers, .ref q_ring_firstPlaces, .ref q_ring_pinches, .ref q_ring_sayings])), (q_now_places, .inl (a 0, 9, .inl now_places)), (q_ring_pinches, .inl (a 0, 9, .inl ring_pinches))] [(q_t, .inr (0, [.ref q_ring, .ref q_now, .int t_silenced, .int t_liars, .int t_decree, .int t_holds, .int t_spoke, .int t_hoarse])), (q_now, .inr (6, [.int now_rounds, .int now_months, .int now_law, .int now_holds, .int now_hoarse, .int now_keptIn, .int now_colds, .ref q_now_places])), (q_ring, .inr (7, [.int ring_clauses, .int ring_corners, .int ring_hearers, .int ring_firstColds, .ref q_ring_beers, .ref q_ring_firstPlaces, .ref q_ring_pinches, .ref q_ring_sayings])), (q_now_places, .inl (a 0, 9, .inl now_places)), (q_ring_pinches, .inl (a 0, 9, .inl ring_pinches))] r := by
  refine Ki.mk (cc := cX0_speakersAt) (nL := 5) (ty := .int) (own := RX0) (by decide) rfl rfl (Nat.le_of_ble_eq_true rfl) ?_
  intro p e s m args below meth c A Q ls hX hP hD hS hl hret
  have hx := hX.1.1
  have hb := hX.1.2.1
  have hown := hX.1.2.2.2.1
  have hts := hX.1.2.2.2.2
  have hN := hX.2.2.1
  have hA := hX.2.2.2.2
  have hl : lv_has ls 5 [(0, .ref q_t), (1, .int x1), (2, .int x2)] := hl
  have hk1 := hts (.fieldLink RX0 7 "GainsaidOnce$Crier" "ring" "LGainsaidOnce$Town;") (List.mem_of_getElem? (i := 1) rfl)
  have hk2 := hts (.fieldLink RX0 13 "GainsaidOnce$Crier" "now" "LGainsaidOnce$State;") (List.mem_of_getElem? (i := 2) rfl)
  have hk3 := hts (.fieldLink RX0 17 "GainsaidOnce$Crier" "decree" "I") (List.mem_of_getElem? (i := 3) rfl)
  have hk4 := hts (.static yX10_at) (List.mem_of_getElem? (i := 4) rfl)
  have hk5 := hts (.initialized RX10) (List.mem_of_getElem? (i := 5) rfl)
  have hk7 := hts (.static yX10_has) (List.mem_of_getElem? (i := 7) rfl)
  have hiX0 : ∀ w ∈ wsX00, w ∈ wsX0_speakersAt := (fun _ h => List.mem_cons_of_mem _ (List.mem_append_left _ (List.mem_append_left _ (List.mem_append_right _ h))))
  have hiX7 : ∀ w ∈ wsX70, w ∈ wsX0_speakersAt := (fun _ h => List.mem_cons_of_mem _ (List.mem_append_left _ (List.mem_append_right _ h)))
  have hiX6 : ∀ w ∈ wsX60, w ∈ wsX0_speakersAt := (fun _ h => List.mem_cons_of_mem _ (List.mem_append_right _ h))
  have L_5 : ∀ (n_5 : Nat) (x1 : Int32) (x2 : Int32) (x3 : Int32) (x4 : Int32) (H : Heap) (locs : List Loc) (ls : Array Slot), f_X0_speakersAt_5 t_decree ring_hearers now_places ring_pinches n_5 x1 x2 x3 x4 = some r → va_P D vwCl [(q_t, .inr (0, [.ref q_ring, .ref q_now, .int t_silenced, .int t_liars, .int t_decree, .int t_holds, .int t_spoke, .int t_hoarse])), (q_now, .inr (6, [.int now_rounds, .int now_months, .int now_law, .int now_holds, .int now_hoarse, .int now_keptIn, .int now_colds, .ref q_now_places])), (q_ring, .inr (7, [.int ring_clauses, .int ring_corners, .int ring_hearers, .int ring_firstColds, .ref q_ring_beers, .ref q_ring_firstPlaces, .ref q_ring_pinches, .ref q_ring_sayings])), (q_now_places, .inl (a 0, 9, .inl now_places)), (q_ring_pinches, .inl (a 0, 9, .inl ring_pinches))] H → va_D A [(q_t, .inr (0, [.ref q_ring, .ref q_now, .int t_silenced, .int t_liars, .int t_decree, .int t_holds, .int t_spoke, .int t_hoarse])), (q_now, .inr (6, [.int now_rounds, .int now_months, .int now_law, .int now_holds, .int now_hoarse, .int now_keptIn, .int now_colds, .ref q_now_places])), (q_ring, .inr (7, [.int ring_clauses, .int ring_corners, .int ring_hearers, .int ring_firstColds, .ref q_ring_beers, .ref q_ring_firstPlaces, .ref q_ring_pinches, .ref q_ring_sayings])), (q_now_places, .inl (a 0, 9, .inl now_places)), (q_ring_pinches, .inl (a 0, 9, .inl ring_pinches))] → va_S A s.heap H locs → lv_has ls 5 [(0, .ref q_t), (1, .int x1), (2, .int x2), (3, .int x3), (4, .int x4)] → W p l e { frames := 1, cells := 0, slots := 0, locals := 21 } s m args below meth c H locs 0 0 Q (F0 m 5 ls []) := by
    intro n_5
    induction n_5 with
    | zero => intro x1 x2 x3 x4 H locs ls hf hP hD hS hl; rw [f_X0_speakersAt_5] at hf; cases hf
    | succ n_5 ih_5 =>
      intro x1 x2 x3 x4 H locs ls hf hP hD hS hl
      rw [f_X0_speakersAt_5] at hf
      refine lv_iload hx hb dX0_speakersAt_5 (lv_at hl 4 rfl) ?_
      refine lv_aload_n hx hb dX0_speakersAt_7 rfl (lv_at hl 0 rfl) ?_
      refine g_get hX hiX0 hP 0 rfl rfl 0 (by decide) hk1 rfl rfl dX0_speakersAt_8 ?_
      refine g_getN hX hiX7 hP 2 rfl rfl 2 (by decide) (nw_17 hN) rfl rfl dX0_speakersAt_11 ?_
      refine lv_icmp_ge (tgt := 75) hx hb dX0_speakersAt_14 (by decide) (fun c1 => ?_) (fun c1 => ?_)
      · have hf := o_ifp hf c1
        refine lv_iload_n hx hb dX0_speakersAt_75 rfl (lv_at hl 3 rfl) ?_
        cases hf
        exact hret _ _ _ _ (vp_nar_int _) hP hD hS dX0_speakersAt_76
      have hf := o_ifn hf c1
      refine lv_aload_n hx hb dX0_speakersAt_17 rfl (lv_at hl 0 rfl) ?_
      refine g_get hX hiX0 hP 0 rfl rfl 1 (by decide) hk2 rfl rfl dX0_speakersAt_18 ?_
      refine g_getN hX hiX6 hP 1 rfl rfl 7 (by decide) (nw_38 hN) rfl rfl dX0_speakersAt_21 ?_
      refine lv_iload hx hb dX0_speakersAt_24 (lv_at hl 4 rfl) ?_
      obtain ⟨o2, ho2, hf⟩ := o_bd hf
      refine call_iSN hX (c_X10_at l D a t q_now_places now_places 9 x4 o2 ho2) (va_cnB 2 hts gX0_speakersAt_X10_at_n94 rfl rfl rfl (nw_68 hN) hk5 hdS_X10_at ⟨by decide, by decide⟩) hk4 (Cut.of hA hP hD hS [3] (by decide) rfl rfl (W' := [(q_t, .inr (0, [.ref q_ring, .ref q_now, .int t_silenced, .int t_liars, .int t_decree, .int t_holds, .int t_spoke, .int t_hoarse])), (q_now, .inr (6, [.int now_rounds, .int now_months, .int now_law, .int now_holds, .int now_hoarse, .int now_keptIn, .int now_colds, .ref q_now_places])), (q_ring, .inr (7, [.int ring_clauses, .int ring_corners, .int ring_hearers, .int ring_firstColds, .ref q_ring_beers, .ref q_ring_firstPlaces, .ref q_ring_pinches, .ref q_ring_sayings])), (q_now_places, .inl (a 0, 9, .inl now_places)), (q_ring_pinches, .inl (a 0, 9, .inl ring_pinches))]) rfl) hS rfl hl.1 rfl (Nat.le_of_ble_eq_true rfl) dX0_speakersAt_26 (by decide) (fun H locs hP hD hS => ?_)
      have hP : va_P D vwCl [(q_t, .inr (0, [.ref q_ring, .ref q_now, .int t_silenced, .int t_liars, .int t_decree, .int t_holds, .int t_spoke, .int t_hoarse])), (q_now, .inr (6, [.int now_rounds, .int now_months, .int now_law, .int now_holds, .int now_hoarse, .int now_keptIn, .int now_colds, .ref q_now_places])), (q_ring, .inr (7, [.int ring_clauses, .int ring_corners, .int ring_hearers, .int ring_firstColds, .ref q_ring_beers, .ref q_ring_firstPlaces, .ref q_ring_pinches, .ref q_ring_sayings])), (q_now_places, .inl (a 0, 9, .inl now_places)), (q_ring_pinches, .inl (a 0, 9, .inl ring_pinches))] H := hP
      have hD : va_D A [(q_t, .inr (0, [.ref q_ring, .ref q_now, .int t_silenced, .int t_liars, .int t_decree, .int t_holds, .int t_spoke, .int t_hoarse])), (q_now, .inr (6, [.int now_rounds, .int now_months, .int now_law, .int now_holds, .int now_hoarse, .int now_keptIn, .int now_colds, .ref q_now_places])), (q_ring, .inr (7, [.int ring_clauses, .int ring_corners, .int ring_hearers, .int ring_firstColds, .ref q_ring_beers, .ref q_ring_firstPlaces, .ref q_ring_pinches, .ref q_ring_sayings])), (q_now_places, .inl (a 0, 9, .inl now_places)), (q_ring_pinches, .inl (a 0, 9, .inl ring_pinches))] := hD
      refine lv_iload_n hx hb dX0_speakersAt_29 rfl (lv_at hl 1 rfl) ?_
      refine lv_icmp_ne (tgt := 69) hx hb dX0_speakersAt_30 (by decide) (fun c3 => ?_) (fun c3 => ?_)
      · have hf := o_ifn hf c3
        obtain ⟨v4, ev4⟩ : ∃ y : Int32, y = x4 + (1 : Int32) := ⟨_, rfl⟩
        have hf := o_nmh hf v4 ev4
        refine lv_iinc (v := v4) (lv' := [(4, .int v4), (0, .ref q_t), (1, .int x1), (2, .int x2), (3, .int x3)]) hx hb dX0_speakersAt_69 hl (k := 4) rfl (by rw [ev4]; rfl) (by decide) rfl (fun ls hl => ?_)
        refine lv_goto (tgt := 5) hx hb dX0_speakersAt_72 (by decide) ?_
        exact ih_5 x1 x2 x3 v4 _ _ _ hf hP hD hS (lv_sub hl [1, 2, 3, 4, 0] rfl)
      have hf := o_ifp hf c3
      refine lv_iload_n hx hb dX0_speakersAt_33 rfl (lv_at hl 2 rfl) ?_
      refine lv_iload hx hb dX0_speakersAt_34 (lv_at hl 4 rfl) ?_
      obtain ⟨o5, ho5, hf⟩ := o_bd hf
      refine call_iSN hX (c_X10_has l D a t x2 x4 o5 ho5) (va_cnB 2 hts gX0_speakersAt_X10_has_n67 rfl rfl rfl (nw_69 hN) hk5 hdS_X10_has ⟨by decide, by decide⟩) hk7 (Cut.none hA hP hD hS) hS rfl hl.1 rfl (Nat.le_of_ble_eq_true rfl) dX0_speakersAt_36 (by decide) (fun H locs hP hD hS => ?_)
      refine lv_if_ne (tgt := 69) hx hb dX0_speakersAt_39 (by decide) (fun c6 => ?_) (fun c6 => ?_)
      · have hf := o_ifn hf c6
        obtain ⟨v7, ev7⟩ : ∃ y : Int32, y = x4 + (1 : Int32) := ⟨_, rfl⟩
        have hf := o_nmh hf v7 ev7
        refine lv_iinc (v := v7) (lv' := [(4, .int v7), (0, .ref q_t), (1, .int x1), (2, .int x2), (3, .int x3)]) hx hb dX0_speakersAt_69 hl (k := 4) rfl (by rw [ev7]; rfl) (by decide) rfl (fun ls hl => ?_)
        refine lv_goto (tgt := 5) hx hb dX0_speakersAt_72 (by decide) ?_
        exact ih_5 x1 x2 x3 v7 _ _ _ hf hP hD hS (lv_sub hl [1, 2, 3, 4, 0] rfl)
      have hf := o_ifp hf c6
      refine lv_aload_n hx hb dX0_speakersAt_42 rfl (lv_at hl 0 rfl) ?_
      refine g_get hX hiX0 hP 0 rfl rfl 0 (by decide) hk1 rfl rfl dX0_speakersAt_43 ?_
      refine g_getN hX hiX7 hP 2 rfl rfl 6 (by decide) (nw_23 hN) rfl rfl dX0_speakersAt_46 ?_
      refine lv_iload hx hb dX0_speakersAt_49 (lv_at hl 4 rfl) ?_
      obtain ⟨o8, ho8, hf⟩ := o_bd hf
      refine call_iSN hX (c_X10_at l D a t q_ring_pinches ring_pinches 9 x4 o8 ho8) (va_cnB 2 hts gX0_speakersAt_X10_at_n94 rfl rfl rfl (nw_68 hN) hk5 hdS_X10_at ⟨by decide, by decide⟩) hk4 (Cut.of hA hP hD hS [4] (by decide) rfl rfl (W' := [(q_t, .inr (0, [.ref q_ring, .ref q_now, .int t_silenced, .int t_liars, .int t_decree, .int t_holds, .int t_spoke, .int t_hoarse])), (q_now, .inr (6, [.int now_rounds, .int now_months, .int now_law, .int now_holds, .int now_hoarse, .int now_keptIn, .int now_colds, .ref q_now_places])), (q_ring, .inr (7, [.int ring_clauses, .int ring_corners, .int ring_hearers, .int ring_firstColds, .ref q_ring_beers, .ref q_ring_firstPlaces, .ref q_ring_pinches, .ref q_ring_sayings])), (q_now_places, .inl (a 0, 9, .inl now_places)), (q_ring_pinches, .inl (a 0, 9, .inl ring_pinches))]) rfl) hS rfl hl.1 rfl (Nat.le_of_ble_eq_true rfl) dX0_speakersAt_51 (by decide) (fun H locs hP hD hS => ?_)
      have hP : va_P D vwCl [(q_t, .inr (0, [.ref q_ring, .ref q_now, .int t_silenced, .int t_liars, .int t_decree, .int t_holds, .int t_spoke, .int t_hoarse])), (q_now, .inr (6, [.int now_rounds, .int now_months, .int now_law, .int now_holds, .int now_hoarse, .int now_keptIn, .int now_colds, .ref q_now_places])), (q_ring, .inr (7, [.int ring_clauses, .int ring_corners, .int ring_hearers, .int ring_firstColds, .ref q_ring_beers, .ref q_ring_firstPlaces, .ref q_ring_pinches, .ref q_ring_sayings])), (q_now_places, .inl (a 0, 9, .inl now_places)), (q_ring_pinches, .inl (a 0, 9, .inl ring_pinches))] H := hP
      have hD : va_D A [(q_t, .inr (0, [.ref q_ring, .ref q_now, .int t_silenced, .int t_liars, .int t_decree, .int t_holds, .int t_spoke, .int t_hoarse])), (q_now, .inr (6, [.int now_rounds, .int now_months, .int now_law, .int now_holds, .int now_hoarse, .int now_keptIn, .int now_colds, .ref q_now_places])), (q_ring, .inr (7, [.int ring_clauses, .int ring_corners, .int ring_hearers, .int ring_firstColds, .ref q_ring_beers, .ref q_ring_firstPlaces, .ref q_ring_pinches, .ref q_ring_sayings])), (q_now_places, .inl (a 0, 9, .inl now_places)), (q_ring_pinches, .inl (a 0, 9, .inl ring_pinches))] := hD
      refine lv_aload_n hx hb dX0_speakersAt_54 rfl (lv_at hl 0 rfl) ?_
      refine g_get hX hiX0 hP 0 rfl rfl 4 (by decide) hk3 rfl rfl dX0_speakersAt_55 ?_
      refine lv_iand hx hb dX0_speakersAt_58 ?_
      refine lv_if_eq (tgt := 69) hx hb dX0_speakersAt_59 (by decide) (fun c9 => ?_) (fun c9 => ?_)
      · have hf := o_ifp hf c9
        obtain ⟨v10, ev10⟩ : ∃ y : Int32, y = x4 + (1 : Int32) := ⟨_, rfl⟩
        have hf := o_nmh hf v10 ev10
        refine lv_iinc (v := v10) (lv' := [(4, .int v10), (0, .ref q_t), (1, .int x1), (2, .int x2), (3, .int x3)]) hx hb dX0_speakersAt_69 hl (k := 4) rfl (by rw [ev10]; rfl) (by decide) rfl (fun ls hl => ?_)
        refine lv_goto (tgt := 5) hx hb dX0_speakersAt_72 (by decide) ?_
        exact ih_5 x1 x2 x3 v10 _ _ _ hf hP hD hS (lv_sub hl [1, 2, 3, 4, 0] rfl)
      have hf := o_ifn hf c9
      refine lv_iload_n hx hb dX0_speakersAt_62 rfl (lv_at hl 3 rfl) ?_
      refine lv_iconst (v := (1 : Int32)) hx hb dX0_speakersAt_63 (by decide) ?_
      refine lv_iload hx hb dX0_speakersAt_64 (lv_at hl 4 rfl) ?_
      refine lv_ishl hx hb dX0_speakersAt_66 ?_
      refine lv_ior hx hb dX0_speakersAt_67 ?_
      refine lv_topi (fun v11 ev11 => ?_)
      have hf := o_nmh hf v11 ev11
      refine lv_istore_n (lv' := [(3, .int v11), (0, .ref q_t), (1, .int x1), (2, .int x2), (4, .int x4)]) hx hb dX0_speakersAt_68 rfl hl (by decide) rfl (fun ls hl => ?_)
      obtain ⟨v12, ev12⟩ : ∃ y : Int32, y = x4 + (1 : Int32) := ⟨_, rfl⟩
      have hf := o_nmh hf v12 ev12
      refine lv_iinc (v := v12) (lv' := [(4, .int v12), (3, .int v11), (0, .ref q_t), (1, .int x1), (2, .int x2)]) hx hb dX0_speakersAt_69 hl (k := 4) rfl (by rw [ev12]; rfl) (by decide) rfl (fun ls hl => ?_)
      refine lv_goto (tgt := 5) hx hb dX0_speakersAt_72 (by decide) ?_
      exact ih_5 x1 x2 v11 v12 _ _ _ hf hP hD hS (lv_sub hl [2, 3, 4, 1, 0] rfl)
  unfold f_X0_speakersAt at hf
  refine lv_iconst (v := (0 : Int32)) hx hb dX0_speakersAt_0 (by decide) ?_
  refine lv_istore_n (lv' := [(3, .int (0 : Int32)), (0, .ref q_t), (1, .int x1), (2, .int x2)]) hx hb dX0_speakersAt_1 rfl hl (by decide) rfl (fun ls hl => ?_)
  refine lv_iconst (v := (0 : Int32)) hx hb dX0_speakersAt_2 (by decide) ?_
  refine lv_istore (lv' := [(4, .int (0 : Int32)), (3, .int (0 : Int32)), (0, .ref q_t), (1, .int x1), (2, .int x2)]) hx hb dX0_speakersAt_3 hl (by decide) rfl (fun ls hl => ?_)
  exact L_5 1000 x1 x2 (0 : Int32) (0 : Int32) _ _ _ hf hP hD hS (lv_sub hl [2, 3, 4, 1, 0] rfl)
def f_X10_bit (x0 : Int32) (x1 : Int32) : Option (Int32) :=
  some ((x0 >>> (x1 &&& 31)) &&& (1 : Int32))
theorem hdS_X10_bit : yX10_bit.cls ≠ "java/lang/invoke/MethodHandle" ∧ yX10_bit.cls ≠ "java/lang/invoke/VarHandle" ∧ (parseMethodDescriptor yX10_bit.desc).map (fun d => d.parameters.length) = some 2 := by decide +kernel
theorem hdV_X10_bit : yX10_bit.cls = RX10 ∧ yX10_bit.cls ≠ "java/lang/invoke/MethodHandle" ∧ yX10_bit.cls ≠ "java/lang/invoke/VarHandle" ∧ (parseMethodDescriptor yX10_bit.desc).map (fun d => d.parameters.length) = some 2 := ⟨rfl, hdS_X10_bit⟩
set_option maxHeartbeats 4000000 in
set_option maxRecDepth 100000 in
theorem c_X10_bit (l : Launch) (D : va_G) (a : Nat → ClassId) (t : Nat) (x0 : Int32) (x1 : Int32) (r : Int32) (hf : f_X10_bit x0 x1 = some r) : Ki l yX10_bit wsX10_bit 0 0 D a t [.int x0, .int x1] [] [] r := by
  refine Ki.mk (cc := cX10_bit) (nL := 2) (ty := .int) (own := RX10) (by decide) rfl rfl (Nat.le_of_ble_eq_true rfl) ?_
  intro p e s m args below meth c A Q ls hX hP hD hS hl hret
  have hx := hX.1.1
  have hb := hX.1.2.1
  have hown := hX.1.2.2.2.1
  have hts := hX.1.2.2.2.2
  have hN := hX.2.2.1
  have hA := hX.2.2.2.2
  have hl : lv_has ls 2 [(0, .int x0), (1, .int x1)] := hl
  unfold f_X10_bit at hf
  refine lv_iload_n hx hb dX10_bit_0 rfl (lv_at hl 0 rfl) ?_
  refine lv_iload_n hx hb dX10_bit_1 rfl (lv_at hl 1 rfl) ?_
  refine lv_ishr hx hb dX10_bit_2 ?_
  refine lv_iconst (v := (1 : Int32)) hx hb dX10_bit_3 (by decide) ?_
  refine lv_iand hx hb dX10_bit_4 ?_
  cases hf
  exact hret _ _ _ _ (vp_nar_int _) hP hD hS dX10_bit_5
def f_J6_bitCount (x0 : Int32) : Option (Int32) :=
  o_nm ((x0 - ((((x0).toUInt32 >>> (((1 : Int32)).toUInt32 &&& Int32.toUInt32 31)).toInt32) &&& (1431655765 : Int32)))) fun v1 =>
  o_nm (((v1 &&& (858993459 : Int32)) + ((((v1).toUInt32 >>> (((2 : Int32)).toUInt32 &&& Int32.toUInt32 31)).toInt32) &&& (858993459 : Int32)))) fun v2 =>
  o_nm (((v2 + (((v2).toUInt32 >>> (((4 : Int32)).toUInt32 &&& Int32.toUInt32 31)).toInt32)) &&& (252645135 : Int32))) fun v3 =>
  o_nm ((v3 + (((v3).toUInt32 >>> (((8 : Int32)).toUInt32 &&& Int32.toUInt32 31)).toInt32))) fun v4 =>
  o_nm ((v4 + (((v4).toUInt32 >>> (((16 : Int32)).toUInt32 &&& Int32.toUInt32 31)).toInt32))) fun v5 =>
  some (v5 &&& (63 : Int32))
theorem hdS_J6_bitCount_0f7a4 : yJ6_bitCount_0f7a4.cls ≠ "java/lang/invoke/MethodHandle" ∧ yJ6_bitCount_0f7a4.cls ≠ "java/lang/invoke/VarHandle" ∧ (parseMethodDescriptor yJ6_bitCount_0f7a4.desc).map (fun d => d.parameters.length) = some 1 := by decide +kernel
theorem hdV_J6_bitCount_0f7a4 : yJ6_bitCount_0f7a4.cls = RJ6 ∧ yJ6_bitCount_0f7a4.cls ≠ "java/lang/invoke/MethodHandle" ∧ yJ6_bitCount_0f7a4.cls ≠ "java/lang/invoke/VarHandle" ∧ (parseMethodDescriptor yJ6_bitCount_0f7a4.desc).map (fun d => d.parameters.length) = some 1 := ⟨rfl, hdS_J6_bitCount_0f7a4⟩
set_option maxHeartbeats 4000000 in
set_option maxRecDepth 100000 in
theorem c_J6_bitCount (l : Launch) (D : va_G) (a : Nat → ClassId) (t : Nat) (x0 : Int32) (r : Int32) (hf : f_J6_bitCount x0 = some r) : Ki l yJ6_bitCount_0f7a4 wsJ6_bitCount_0f7a4 0 0 D a t [.int x0] [] [] r := by
  refine Ki.mk (cc := cJ6_bitCount_0f7a4) (nL := 1) (ty := .int) (own := RJ6) (by decide) rfl rfl (Nat.le_of_ble_eq_true rfl) ?_
  intro p e s m args below meth c A Q ls hX hP hD hS hl hret
  have hx := hX.1.1
  have hb := hX.1.2.1
  have hown := hX.1.2.2.2.1
  have hts := hX.1.2.2.2.2
  have hN := hX.2.2.1
  have hA := hX.2.2.2.2
  have hl : lv_has ls 1 [(0, .int x0)] := hl
  have hk1 := hts (.constant RJ6 265 (1431655765)) (List.mem_of_getElem? (i := 1) rfl)
  have hk2 := hts (.constant RJ6 266 (858993459)) (List.mem_of_getElem? (i := 2) rfl)
  have hk3 := hts (.constant RJ6 267 (252645135)) (List.mem_of_getElem? (i := 3) rfl)
  unfold f_J6_bitCount at hf
  refine lv_iload_n hx hb dJ6_bitCount_0f7a4_0 rfl (lv_at hl 0 rfl) ?_
  refine lv_iload_n hx hb dJ6_bitCount_0f7a4_1 rfl (lv_at hl 0 rfl) ?_
  refine lv_iconst (v := (1 : Int32)) hx hb dJ6_bitCount_0f7a4_2 (by decide) ?_
  refine lv_iushr (v := ((x0).toUInt32 >>> (((1 : Int32)).toUInt32 &&& Int32.toUInt32 31)).toInt32) hx hb dJ6_bitCount_0f7a4_3 rfl ?_
  refine lv_ldcw (v := (1431655765 : Int32)) hx hb hown hk1 dJ6_bitCount_0f7a4_4 ?_
  refine lv_iand hx hb dJ6_bitCount_0f7a4_7 ?_
  refine lv_isub hx hb dJ6_bitCount_0f7a4_8 ?_
  refine lv_topi (fun v1 ev1 => ?_)
  have hf := o_nmh hf v1 ev1
  refine lv_istore_n (lv' := [(0, .int v1)]) hx hb dJ6_bitCount_0f7a4_9 rfl hl (by decide) rfl (fun ls hl => ?_)
  refine lv_iload_n hx hb dJ6_bitCount_0f7a4_10 rfl (lv_at hl 0 rfl) ?_
  refine lv_ldcw (v := (858993459 : Int32)) hx hb hown hk2 dJ6_bitCount_0f7a4_11 ?_
  refine lv_iand hx hb dJ6_bitCount_0f7a4_14 ?_
  refine lv_iload_n hx hb dJ6_bitCount_0f7a4_15 rfl (lv_at hl 0 rfl) ?_
  refine lv_iconst (v := (2 : Int32)) hx hb dJ6_bitCount_0f7a4_16 (by decide) ?_
  refine lv_iushr (v := ((v1).toUInt32 >>> (((2 : Int32)).toUInt32 &&& Int32.toUInt32 31)).toInt32) hx hb dJ6_bitCount_0f7a4_17 rfl ?_
  refine lv_ldcw (v := (858993459 : Int32)) hx hb hown hk2 dJ6_bitCount_0f7a4_18 ?_
  refine lv_iand hx hb dJ6_bitCount_0f7a4_21 ?_
  refine lv_iadd hx hb dJ6_bitCount_0f7a4_22 ?_
  refine lv_topi (fun v2 ev2 => ?_)
  have hf := o_nmh hf v2 ev2
  refine lv_istore_n (lv' := [(0, .int v2)]) hx hb dJ6_bitCount_0f7a4_23 rfl hl (by decide) rfl (fun ls hl => ?_)
  refine lv_iload_n hx hb dJ6_bitCount_0f7a4_24 rfl (lv_at hl 0 rfl) ?_
  refine lv_iload_n hx hb dJ6_bitCount_0f7a4_25 rfl (lv_at hl 0 rfl) ?_
  refine lv_iconst (v := (4 : Int32)) hx hb dJ6_bitCount_0f7a4_26 (by decide) ?_
  refine lv_iushr (v := ((v2).toUInt32 >>> (((4 : Int32)).toUInt32 &&& Int32.toUInt32 31)).toInt32) hx hb dJ6_bitCount_0f7a4_27 rfl ?_
  refine lv_iadd hx hb dJ6_bitCount_0f7a4_28 ?_
  refine lv_ldcw (v := (252645135 : Int32)) hx hb hown hk3 dJ6_bitCount_0f7a4_29 ?_
  refine lv_iand hx hb dJ6_bitCount_0f7a4_32 ?_
  refine lv_topi (fun v3 ev3 => ?_)
  have hf := o_nmh hf v3 ev3
  refine lv_istore_n (lv' := [(0, .int v3)]) hx hb dJ6_bitCount_0f7a4_33 rfl hl (by decide) rfl (fun ls hl => ?_)
  refine lv_iload_n hx hb dJ6_bitCount_0f7a4_34 rfl (lv_at hl 0 rfl) ?_
  refine lv_iload_n hx hb dJ6_bitCount_0f7a4_35 rfl (lv_at hl 0 rfl) ?_
  refine lv_bipush (v := (8 : Int32)) hx hb dJ6_bitCount_0f7a4_36 (by decide) ?_
  refine lv_iushr (v := ((v3).toUInt32 >>> (((8 : Int32)).toUInt32 &&& Int32.toUInt32 31)).toInt32) hx hb dJ6_bitCount_0f7a4_38 rfl ?_
  refine lv_iadd hx hb dJ6_bitCount_0f7a4_39 ?_
  refine lv_topi (fun v4 ev4 => ?_)
  have hf := o_nmh hf v4 ev4
  refine lv_istore_n (lv' := [(0, .int v4)]) hx hb dJ6_bitCount_0f7a4_40 rfl hl (by decide) rfl (fun ls hl => ?_)
  refine lv_iload_n hx hb dJ6_bitCount_0f7a4_41 rfl (lv_at hl 0 rfl) ?_
  refine lv_iload_n hx hb dJ6_bitCount_0f7a4_42 rfl (lv_at hl 0 rfl) ?_
  refine lv_bipush (v := (16 : Int32)) hx hb dJ6_bitCount_0f7a4_43 (by decide) ?_
  refine lv_iushr (v := ((v4).toUInt32 >>> (((16 : Int32)).toUInt32 &&& Int32.toUInt32 31)).toInt32) hx hb dJ6_bitCount_0f7a4_45 rfl ?_
  refine lv_iadd hx hb dJ6_bitCount_0f7a4_46 ?_
  refine lv_topi (fun v5 ev5 => ?_)
  have hf := o_nmh hf v5 ev5
  refine lv_istore_n (lv' := [(0, .int v5)]) hx hb dJ6_bitCount_0f7a4_47 rfl hl (by decide) rfl (fun ls hl => ?_)
  refine lv_iload_n hx hb dJ6_bitCount_0f7a4_48 rfl (lv_at hl 0 rfl) ?_
  refine lv_bipush (v := (63 : Int32)) hx hb dJ6_bitCount_0f7a4_49 (by decide) ?_
  refine lv_iand hx hb dJ6_bitCount_0f7a4_51 ?_
  cases hf
  exact hret _ _ _ _ (vp_nar_int _) hP hD hS dJ6_bitCount_0f7a4_52
def f_J6_lowestOneBit (x0 : Int32) : Option (Int32) :=
  some (x0 &&& (-x0))
theorem hdS_J6_lowestOneBit_0f7a4 : yJ6_lowestOneBit_0f7a4.cls ≠ "java/lang/invoke/MethodHandle" ∧ yJ6_lowestOneBit_0f7a4.cls ≠ "java/lang/invoke/VarHandle" ∧ (parseMethodDescriptor yJ6_lowestOneBit_0f7a4.desc).map (fun d => d.parameters.length) = some 1 := by decide +kernel
theorem hdV_J6_lowestOneBit_0f7a4 : yJ6_lowestOneBit_0f7a4.cls = RJ6 ∧ yJ6_lowestOneBit_0f7a4.cls ≠ "java/lang/invoke/MethodHandle" ∧ yJ6_lowestOneBit_0f7a4.cls ≠ "java/lang/invoke/VarHandle" ∧ (parseMethodDescriptor yJ6_lowestOneBit_0f7a4.desc).map (fun d => d.parameters.length) = some 1 := ⟨rfl, hdS_J6_lowestOneBit_0f7a4⟩
set_option maxHeartbeats 4000000 in
set_option maxRecDepth 100000 in
theorem c_J6_lowestOneBit (l : Launch) (D : va_G) (a : Nat → ClassId) (t : Nat) (x0 : Int32) (r : Int32) (hf : f_J6_lowestOneBit x0 = some r) : Ki l yJ6_lowestOneBit_0f7a4 wsJ6_lowestOneBit_0f7a4 0 0 D a t [.int x0] [] [] r := by
  refine Ki.mk (cc := cJ6_lowestOneBit_0f7a4) (nL := 1) (ty := .int) (own := RJ6) (by decide) rfl rfl (Nat.le_of_ble_eq_true rfl) ?_
  intro p e s m args below meth c A Q ls hX hP hD hS hl hret
  have hx := hX.1.1
  have hb := hX.1.2.1
  have hown := hX.1.2.2.2.1
  have hts := hX.1.2.2.2.2
  have hN := hX.2.2.1
  have hA := hX.2.2.2.2
  have hl : lv_has ls 1 [(0, .int x0)] := hl
  unfold f_J6_lowestOneBit at hf
  refine lv_iload_n hx hb dJ6_lowestOneBit_0f7a4_0 rfl (lv_at hl 0 rfl) ?_
  refine lv_iload_n hx hb dJ6_lowestOneBit_0f7a4_1 rfl (lv_at hl 0 rfl) ?_
  refine lv_ineg hx hb dJ6_lowestOneBit_0f7a4_2 ?_
  refine lv_iand hx hb dJ6_lowestOneBit_0f7a4_3 ?_
  cases hf
  exact hret _ _ _ _ (vp_nar_int _) hP hD hS dJ6_lowestOneBit_0f7a4_4
def f_J6_numberOfTrailingZeros_62  (x0 : Int32) (x1 : Int32) : Option (Int32) :=
  if x0 ≤ (4 : Int32) then (some (x1 + (((x0).toUInt32 >>> (((1 : Int32)).toUInt32 &&& Int32.toUInt32 31)).toInt32)))
  else (o_nm (x1 + (2 : Int32)) fun v2 =>
  o_nm ((((x0).toUInt32 >>> (((2 : Int32)).toUInt32 &&& Int32.toUInt32 31)).toInt32)) fun v3 =>
  some (v2 + (((v3).toUInt32 >>> (((1 : Int32)).toUInt32 &&& Int32.toUInt32 31)).toInt32)))
def f_J6_numberOfTrailingZeros_49  (x0 : Int32) (x1 : Int32) : Option (Int32) :=
  if x0 ≤ (16 : Int32) then (f_J6_numberOfTrailingZeros_62 x0 x1)
  else (o_nm (x1 + (4 : Int32)) fun v5 =>
  o_nm ((((x0).toUInt32 >>> (((4 : Int32)).toUInt32 &&& Int32.toUInt32 31)).toInt32)) fun v6 =>
  f_J6_numberOfTrailingZeros_62 v6 v5)
def f_J6_numberOfTrailingZeros_34  (x0 : Int32) (x1 : Int32) : Option (Int32) :=
  if x0 ≤ (256 : Int32) then (f_J6_numberOfTrailingZeros_49 x0 x1)
  else (o_nm (x1 + (8 : Int32)) fun v8 =>
  o_nm ((((x0).toUInt32 >>> (((8 : Int32)).toUInt32 &&& Int32.toUInt32 31)).toInt32)) fun v9 =>
  f_J6_numberOfTrailingZeros_49 v9 v8)
def f_J6_numberOfTrailingZeros (x0 : Int32) : Option (Int32) :=
  o_nm (((x0 ^^^ (-1 : Int32)) &&& (x0 - (1 : Int32)))) fun v10 =>
  if 0 < v10 then (if v10 ≤ (65536 : Int32) then (f_J6_numberOfTrailingZeros_34 v10 (1 : Int32))
  else (o_nm ((1 : Int32) + (16 : Int32)) fun v13 =>
  o_nm ((((v10).toUInt32 >>> (((16 : Int32)).toUInt32 &&& Int32.toUInt32 31)).toInt32)) fun v14 =>
  f_J6_numberOfTrailingZeros_34 v14 v13))
  else (some (v10 &&& (32 : Int32)))
theorem hdS_J6_numberOfTrailingZeros_0f7a4 : yJ6_numberOfTrailingZeros_0f7a4.cls ≠ "java/lang/invoke/MethodHandle" ∧ yJ6_numberOfTrailingZeros_0f7a4.cls ≠ "java/lang/invoke/VarHandle" ∧ (parseMethodDescriptor yJ6_numberOfTrailingZeros_0f7a4.desc).map (fun d => d.parameters.length) = some 1 := by decide +kernel
theorem hdV_J6_numberOfTrailingZeros_0f7a4 : yJ6_numberOfTrailingZeros_0f7a4.cls = RJ6 ∧ yJ6_numberOfTrailingZeros_0f7a4.cls ≠ "java/lang/invoke/MethodHandle" ∧ yJ6_numberOfTrailingZeros_0f7a4.cls ≠ "java/lang/invoke/VarHandle" ∧ (parseMethodDescriptor yJ6_numberOfTrailingZeros_0f7a4.desc).map (fun d => d.parameters.length) = some 1 := ⟨rfl, hdS_J6_numberOfTrailingZeros_0f7a4⟩
set_option maxHeartbeats 4000000 in
set_option maxRecDepth 100000 in
theorem c_J6_numberOfTrailingZeros (l : Launch) (D : va_G) (a : Nat → ClassId) (t : Nat) (x0 : Int32) (r : Int32) (hf : f_J6_numberOfTrailingZeros x0 = some r) : Ki l yJ6_numberOfTrailingZeros_0f7a4 wsJ6_numberOfTrailingZeros_0f7a4 0 0 D a t [.int x0] [] [] r := by
  refine Ki.mk (cc := cJ6_numberOfTrailingZeros_0f7a4) (nL := 2) (ty := .int) (own := RJ6) (by decide) rfl rfl (Nat.le_of_ble_eq_true rfl) ?_
  intro p e s m args below meth c A Q ls hX hP hD hS hl hret
  have hx := hX.1.1
  have hb := hX.1.2.1
  have hown := hX.1.2.2.2.1
  have hts := hX.1.2.2.2.2
  have hN := hX.2.2.1
  have hA := hX.2.2.2.2
  have hl : lv_has ls 2 [(0, .int x0)] := hl
  have hk1 := hts (.constant RJ6 264 (65536)) (List.mem_of_getElem? (i := 1) rfl)
  have L_62 : ∀ (x0 : Int32) (x1 : Int32) (H : Heap) (locs : List Loc) (ls : Array Slot), f_J6_numberOfTrailingZeros_62 x0 x1 = some r → va_P D vwCl [] H → va_D A [] → va_S A s.heap H locs → lv_has ls 2 [(0, .int x0), (1, .int x1)] → W p l e { frames := 0, cells := 0, slots := 0, locals := 0 } s m args below meth c H locs 0 0 Q (F0 m 62 ls []) := by
    intro x0 x1 H locs ls hf hP hD hS hl
    unfold f_J6_numberOfTrailingZeros_62 at hf
    refine lv_iload_n hx hb dJ6_numberOfTrailingZeros_0f7a4_62 rfl (lv_at hl 0 rfl) ?_
    refine lv_iconst (v := (4 : Int32)) hx hb dJ6_numberOfTrailingZeros_0f7a4_63 (by decide) ?_
    refine lv_icmp_le (tgt := 74) hx hb dJ6_numberOfTrailingZeros_0f7a4_64 (by decide) (fun c1 => ?_) (fun c1 => ?_)
    · have hf := o_ifp hf c1
      refine lv_iload_n hx hb dJ6_numberOfTrailingZeros_0f7a4_74 rfl (lv_at hl 1 rfl) ?_
      refine lv_iload_n hx hb dJ6_numberOfTrailingZeros_0f7a4_75 rfl (lv_at hl 0 rfl) ?_
      refine lv_iconst (v := (1 : Int32)) hx hb dJ6_numberOfTrailingZeros_0f7a4_76 (by decide) ?_
      refine lv_iushr (v := ((x0).toUInt32 >>> (((1 : Int32)).toUInt32 &&& Int32.toUInt32 31)).toInt32) hx hb dJ6_numberOfTrailingZeros_0f7a4_77 rfl ?_
      refine lv_iadd hx hb dJ6_numberOfTrailingZeros_0f7a4_78 ?_
      cases hf
      exact hret _ _ _ _ (vp_nar_int _) hP hD hS dJ6_numberOfTrailingZeros_0f7a4_79
    have hf := o_ifn hf c1
    obtain ⟨v2, ev2⟩ : ∃ y : Int32, y = x1 + (2 : Int32) := ⟨_, rfl⟩
    have hf := o_nmh hf v2 ev2
    refine lv_iinc (v := v2) (lv' := [(1, .int v2), (0, .int x0)]) hx hb dJ6_numberOfTrailingZeros_0f7a4_67 hl (k := 1) rfl (by rw [ev2]; rfl) (by decide) rfl (fun ls hl => ?_)
    refine lv_iload_n hx hb dJ6_numberOfTrailingZeros_0f7a4_70 rfl (lv_at hl 1 rfl) ?_
    refine lv_iconst (v := (2 : Int32)) hx hb dJ6_numberOfTrailingZeros_0f7a4_71 (by decide) ?_
    refine lv_iushr (v := ((x0).toUInt32 >>> (((2 : Int32)).toUInt32 &&& Int32.toUInt32 31)).toInt32) hx hb dJ6_numberOfTrailingZeros_0f7a4_72 rfl ?_
    refine lv_topi (fun v3 ev3 => ?_)
    have hf := o_nmh hf v3 ev3
    refine lv_istore_n (lv' := [(0, .int v3), (1, .int v2)]) hx hb dJ6_numberOfTrailingZeros_0f7a4_73 rfl hl (by decide) rfl (fun ls hl => ?_)
    refine lv_iload_n hx hb dJ6_numberOfTrailingZeros_0f7a4_74 rfl (lv_at hl 1 rfl) ?_
    refine lv_iload_n hx hb dJ6_numberOfTrailingZeros_0f7a4_75 rfl (lv_at hl 0 rfl) ?_
    refine lv_iconst (v := (1 : Int32)) hx hb dJ6_numberOfTrailingZeros_0f7a4_76 (by decide) ?_
    refine lv_iushr (v := ((v3).toUInt32 >>> (((1 : Int32)).toUInt32 &&& Int32.toUInt32 31)).toInt32) hx hb dJ6_numberOfTrailingZeros_0f7a4_77 rfl ?_
    refine lv_iadd hx hb dJ6_numberOfTrailingZeros_0f7a4_78 ?_
    cases hf
    exact hret _ _ _ _ (vp_nar_int _) hP hD hS dJ6_numberOfTrailingZeros_0f7a4_79
  have L_49 : ∀ (x0 : Int32) (x1 : Int32) (H : Heap) (locs : List Loc) (ls : Array Slot), f_J6_numberOfTrailingZeros_49 x0 x1 = some r → va_P D vwCl [] H → va_D A [] → va_S A s.heap H locs → lv_has ls 2 [(0, .int x0), (1, .int x1)] → W p l e { frames := 0, cells := 0, slots := 0, locals := 0 } s m args below meth c H locs 0 0 Q (F0 m 49 ls []) := by
    intro x0 x1 H locs ls hf hP hD hS hl
    unfold f_J6_numberOfTrailingZeros_49 at hf
    refine lv_iload_n hx hb dJ6_numberOfTrailingZeros_0f7a4_49 rfl (lv_at hl 0 rfl) ?_
    refine lv_bipush (v := (16 : Int32)) hx hb dJ6_numberOfTrailingZeros_0f7a4_50 (by decide) ?_
    refine lv_icmp_le (tgt := 62) hx hb dJ6_numberOfTrailingZeros_0f7a4_52 (by decide) (fun c4 => ?_) (fun c4 => ?_)
    · have hf := o_ifp hf c4
      exact L_62 x0 x1 _ _ _ hf hP hD hS (lv_sub hl [0, 1] rfl)
    have hf := o_ifn hf c4
    obtain ⟨v5, ev5⟩ : ∃ y : Int32, y = x1 + (4 : Int32) := ⟨_, rfl⟩
    have hf := o_nmh hf v5 ev5
    refine lv_iinc (v := v5) (lv' := [(1, .int v5), (0, .int x0)]) hx hb dJ6_numberOfTrailingZeros_0f7a4_55 hl (k := 1) rfl (by rw [ev5]; rfl) (by decide) rfl (fun ls hl => ?_)
    refine lv_iload_n hx hb dJ6_numberOfTrailingZeros_0f7a4_58 rfl (lv_at hl 1 rfl) ?_
    refine lv_iconst (v := (4 : Int32)) hx hb dJ6_numberOfTrailingZeros_0f7a4_59 (by decide) ?_
    refine lv_iushr (v := ((x0).toUInt32 >>> (((4 : Int32)).toUInt32 &&& Int32.toUInt32 31)).toInt32) hx hb dJ6_numberOfTrailingZeros_0f7a4_60 rfl ?_
    refine lv_topi (fun v6 ev6 => ?_)
    have hf := o_nmh hf v6 ev6
    refine lv_istore_n (lv' := [(0, .int v6), (1, .int v5)]) hx hb dJ6_numberOfTrailingZeros_0f7a4_61 rfl hl (by decide) rfl (fun ls hl => ?_)
    exact L_62 v6 v5 _ _ _ hf hP hD hS (lv_sub hl [0, 1] rfl)
  have L_34 : ∀ (x0 : Int32) (x1 : Int32) (H : Heap) (locs : List Loc) (ls : Array Slot), f_J6_numberOfTrailingZeros_34 x0 x1 = some r → va_P D vwCl [] H → va_D A [] → va_S A s.heap H locs → lv_has ls 2 [(0, .int x0), (1, .int x1)] → W p l e { frames := 0, cells := 0, slots := 0, locals := 0 } s m args below meth c H locs 0 0 Q (F0 m 34 ls []) := by
    intro x0 x1 H locs ls hf hP hD hS hl
    unfold f_J6_numberOfTrailingZeros_34 at hf
    refine lv_iload_n hx hb dJ6_numberOfTrailingZeros_0f7a4_34 rfl (lv_at hl 0 rfl) ?_
    refine lv_sipush (v := (256 : Int32)) hx hb dJ6_numberOfTrailingZeros_0f7a4_35 (by decide) ?_
    refine lv_icmp_le (tgt := 49) hx hb dJ6_numberOfTrailingZeros_0f7a4_38 (by decide) (fun c7 => ?_) (fun c7 => ?_)
    · have hf := o_ifp hf c7
      exact L_49 x0 x1 _ _ _ hf hP hD hS (lv_sub hl [0, 1] rfl)
    have hf := o_ifn hf c7
    obtain ⟨v8, ev8⟩ : ∃ y : Int32, y = x1 + (8 : Int32) := ⟨_, rfl⟩
    have hf := o_nmh hf v8 ev8
    refine lv_iinc (v := v8) (lv' := [(1, .int v8), (0, .int x0)]) hx hb dJ6_numberOfTrailingZeros_0f7a4_41 hl (k := 1) rfl (by rw [ev8]; rfl) (by decide) rfl (fun ls hl => ?_)
    refine lv_iload_n hx hb dJ6_numberOfTrailingZeros_0f7a4_44 rfl (lv_at hl 1 rfl) ?_
    refine lv_bipush (v := (8 : Int32)) hx hb dJ6_numberOfTrailingZeros_0f7a4_45 (by decide) ?_
    refine lv_iushr (v := ((x0).toUInt32 >>> (((8 : Int32)).toUInt32 &&& Int32.toUInt32 31)).toInt32) hx hb dJ6_numberOfTrailingZeros_0f7a4_47 rfl ?_
    refine lv_topi (fun v9 ev9 => ?_)
    have hf := o_nmh hf v9 ev9
    refine lv_istore_n (lv' := [(0, .int v9), (1, .int v8)]) hx hb dJ6_numberOfTrailingZeros_0f7a4_48 rfl hl (by decide) rfl (fun ls hl => ?_)
    exact L_49 v9 v8 _ _ _ hf hP hD hS (lv_sub hl [0, 1] rfl)
  unfold f_J6_numberOfTrailingZeros at hf
  refine lv_iload_n hx hb dJ6_numberOfTrailingZeros_0f7a4_0 rfl (lv_at hl 0 rfl) ?_
  refine lv_iconst (v := (-1 : Int32)) hx hb dJ6_numberOfTrailingZeros_0f7a4_1 (by decide) ?_
  refine lv_ixor hx hb dJ6_numberOfTrailingZeros_0f7a4_2 ?_
  refine lv_iload_n hx hb dJ6_numberOfTrailingZeros_0f7a4_3 rfl (lv_at hl 0 rfl) ?_
  refine lv_iconst (v := (1 : Int32)) hx hb dJ6_numberOfTrailingZeros_0f7a4_4 (by decide) ?_
  refine lv_isub hx hb dJ6_numberOfTrailingZeros_0f7a4_5 ?_
  refine lv_iand hx hb dJ6_numberOfTrailingZeros_0f7a4_6 ?_
  refine lv_topi (fun v10 ev10 => ?_)
  have hf := o_nmh hf v10 ev10
  refine lv_istore_n (lv' := [(0, .int v10)]) hx hb dJ6_numberOfTrailingZeros_0f7a4_7 rfl hl (by decide) rfl (fun ls hl => ?_)
  refine lv_iload_n hx hb dJ6_numberOfTrailingZeros_0f7a4_8 rfl (lv_at hl 0 rfl) ?_
  refine lv_if_gt (tgt := 17) hx hb dJ6_numberOfTrailingZeros_0f7a4_9 (by decide) (fun c11 => ?_) (fun c11 => ?_)
  · have hf := o_ifp hf c11
    refine lv_iconst (v := (1 : Int32)) hx hb dJ6_numberOfTrailingZeros_0f7a4_17 (by decide) ?_
    refine lv_istore_n (lv' := [(1, .int (1 : Int32)), (0, .int v10)]) hx hb dJ6_numberOfTrailingZeros_0f7a4_18 rfl hl (by decide) rfl (fun ls hl => ?_)
    refine lv_iload_n hx hb dJ6_numberOfTrailingZeros_0f7a4_19 rfl (lv_at hl 1 rfl) ?_
    refine lv_ldcw (v := (65536 : Int32)) hx hb hown hk1 dJ6_numberOfTrailingZeros_0f7a4_20 ?_
    refine lv_icmp_le (tgt := 34) hx hb dJ6_numberOfTrailingZeros_0f7a4_23 (by decide) (fun c12 => ?_) (fun c12 => ?_)
    · have hf := o_ifp hf c12
      exact L_34 v10 (1 : Int32) _ _ _ hf hP hD hS (lv_sub hl [1, 0] rfl)
    have hf := o_ifn hf c12
    obtain ⟨v13, ev13⟩ : ∃ y : Int32, y = (1 : Int32) + (16 : Int32) := ⟨_, rfl⟩
    have hf := o_nmh hf v13 ev13
    refine lv_iinc (v := v13) (lv' := [(1, .int v13), (0, .int v10)]) hx hb dJ6_numberOfTrailingZeros_0f7a4_26 hl (k := 0) rfl (by rw [ev13]; rfl) (by decide) rfl (fun ls hl => ?_)
    refine lv_iload_n hx hb dJ6_numberOfTrailingZeros_0f7a4_29 rfl (lv_at hl 1 rfl) ?_
    refine lv_bipush (v := (16 : Int32)) hx hb dJ6_numberOfTrailingZeros_0f7a4_30 (by decide) ?_
    refine lv_iushr (v := ((v10).toUInt32 >>> (((16 : Int32)).toUInt32 &&& Int32.toUInt32 31)).toInt32) hx hb dJ6_numberOfTrailingZeros_0f7a4_32 rfl ?_
    refine lv_topi (fun v14 ev14 => ?_)
    have hf := o_nmh hf v14 ev14
    refine lv_istore_n (lv' := [(0, .int v14), (1, .int v13)]) hx hb dJ6_numberOfTrailingZeros_0f7a4_33 rfl hl (by decide) rfl (fun ls hl => ?_)
    exact L_34 v14 v13 _ _ _ hf hP hD hS (lv_sub hl [0, 1] rfl)
  have hf := o_ifn hf c11
  refine lv_iload_n hx hb dJ6_numberOfTrailingZeros_0f7a4_12 rfl (lv_at hl 0 rfl) ?_
  refine lv_bipush (v := (32 : Int32)) hx hb dJ6_numberOfTrailingZeros_0f7a4_13 (by decide) ?_
  refine lv_iand hx hb dJ6_numberOfTrailingZeros_0f7a4_15 ?_
  cases hf
  exact hret _ _ _ _ (vp_nar_int _) hP hD hS dJ6_numberOfTrailingZeros_0f7a4_16
def f_X10_setOfOne (x0 : Int32) : Option (Int32) :=
  if 0 ≤ x0 then (some ((1 : Int32) <<< (x0 &&& 31)))
  else (some (0 : Int32))
theorem hdS_X10_setOfOne : yX10_setOfOne.cls ≠ "java/lang/invoke/MethodHandle" ∧ yX10_setOfOne.cls ≠ "java/lang/invoke/VarHandle" ∧ (parseMethodDescriptor yX10_setOfOne.desc).map (fun d => d.parameters.length) = some 1 := by decide +kernel
theorem hdV_X10_setOfOne : yX10_setOfOne.cls = RX10 ∧ yX10_setOfOne.cls ≠ "java/lang/invoke/MethodHandle" ∧ yX10_setOfOne.cls ≠ "java/lang/invoke/VarHandle" ∧ (parseMethodDescriptor yX10_setOfOne.desc).map (fun d => d.parameters.length) = some 1 := ⟨rfl, hdS_X10_setOfOne⟩
set_option maxHeartbeats 4000000 in
set_option maxRecDepth 100000 in
theorem c_X10_setOfOne (l : Launch) (D : va_G) (a : Nat → ClassId) (t : Nat) (x0 : Int32) (r : Int32) (hf : f_X10_setOfOne x0 = some r) : Ki l yX10_setOfOne wsX10_setOfOne 0 0 D a t [.int x0] [] [] r := by
  refine Ki.mk (cc := cX10_setOfOne) (nL := 1) (ty := .int) (own := RX10) (by decide) rfl rfl (Nat.le_of_ble_eq_true rfl) ?_
  intro p e s m args below meth c A Q ls hX hP hD hS hl hret
  have hx := hX.1.1
  have hb := hX.1.2.1
  have hown := hX.1.2.2.2.1
  have hts := hX.1.2.2.2.2
  have hN := hX.2.2.1
  have hA := hX.2.2.2.2
  have hl : lv_has ls 1 [(0, .int x0)] := hl
  unfold f_X10_setOfOne at hf
  refine lv_iload_n hx hb dX10_setOfOne_0 rfl (lv_at hl 0 rfl) ?_
  refine lv_if_ge (tgt := 8) hx hb dX10_setOfOne_1 (by decide) (fun c1 => ?_) (fun c1 => ?_)
  · have hf := o_ifp hf c1
    refine lv_iconst (v := (1 : Int32)) hx hb dX10_setOfOne_8 (by decide) ?_
    refine lv_iload_n hx hb dX10_setOfOne_9 rfl (lv_at hl 0 rfl) ?_
    refine lv_ishl hx hb dX10_setOfOne_10 ?_
    cases hf
    exact hret _ _ _ _ (vp_nar_int _) hP hD hS dX10_setOfOne_11
  have hf := o_ifn hf c1
  refine lv_iconst (v := (0 : Int32)) hx hb dX10_setOfOne_4 (by decide) ?_
  refine lv_goto (tgt := 11) hx hb dX10_setOfOne_5 (by decide) ?_
  cases hf
  exact hret _ _ _ _ (vp_nar_int _) hP hD hS dX10_setOfOne_11
def f_X0_compromise (t_decree : Int32) (ring_clauses : Int32) (ring_pinches : Nat → Int32) (ring_sayings : Nat → Int32) (x1 : Int32) : Option (Int32) :=
  if x1 = 0 then ((f_J6_lowestOneBit t_decree).bind fun o9 =>
  o_nm ((t_decree &&& (o9 ^^^ (-1 : Int32)))) fun v10 =>
  some v10)
  else ((f_J6_numberOfTrailingZeros x1).bind fun o2 =>
  (f_X10_at 9 ring_pinches o2).bind fun o3 =>
  (f_J6_lowestOneBit (t_decree &&& o3)).bind fun o4 =>
  o_nm ((t_decree &&& (o4 ^^^ (-1 : Int32)))) fun v5 =>
  (f_X10_at 9 ring_sayings o2).bind fun o6 =>
  (f_X10_setOfOne o6).bind fun o7 =>
  o_nm ((v5 ||| (o7 &&& ring_clauses))) fun v8 =>
  some v8)
theorem hdS_X0_compromise : yX0_compromise.cls ≠ "java/lang/invoke/MethodHandle" ∧ yX0_compromise.cls ≠ "java/lang/invoke/VarHandle" ∧ (parseMethodDescriptor yX0_compromise.desc).map (fun d => d.parameters.length) = some 1 := by decide +kernel
theorem hdV_X0_compromise : yX0_compromise.cls = RX0 ∧ yX0_compromise.cls ≠ "java/lang/invoke/MethodHandle" ∧ yX0_compromise.cls ≠ "java/lang/invoke/VarHandle" ∧ (parseMethodDescriptor yX0_compromise.desc).map (fun d => d.parameters.length) = some 1 := ⟨rfl, hdS_X0_compromise⟩
set_option maxHeartbeats 4000000 in
set_option maxRecDepth 100000 in
theorem c_X0_compromise (l : Launch) (D : va_G) (a : Nat → ClassId) (t : Nat) (q_t : Nat) (q_ring : Nat) (q_now : Nat) (t_silenced : Int32) (t_liars : Int32) (t_decree : Int32) (t_holds : Int32) (t_spoke : Int32) (t_hoarse : Int32) (ring_clauses : Int32) (ring_corners : Int32) (ring_hearers : Int32) (ring_firstColds : Int32) (q_ring_beers : Nat) (q_ring_firstPlaces : Nat) (q_ring_pinches : Nat) (q_ring_sayings : Nat) (ring_pinches : Nat → Int32) (ring_sayings : Nat → Int32) (x1 : Int32) (o_t_decree : Int32) (hf : f_X0_compromise t_decree ring_clauses ring_pinches ring_sayings x1 = some o_t_decree) : Kv l yX0_compromise wsX0_compromise 1 21 D a t [.ref q_t, .int x1] [(q_t, .inr (0, [.ref q_ring, .ref q_now, .int t_silenced, .int t_liars, .int t_decree, .int t_holds, .int t_spoke, .int t_hoarse])), (q_ring, .inr (7, [.int ring_clauses, .int ring_corners, .int ring_hearers, .int ring_firstColds, .ref q_ring_beers, .ref q_ring_firstPlaces, .ref q_ring_pinches, .ref q_ring_sayings])), (q_ring_pinches, .inl (a 0, 9, .inl ring_pinches)), (q_ring_sayings, .inl (a 0, 9, .inl ring_sayings))] [(q_t, .inr (0, [.ref q_ring, .ref q_now, .int t_silenced, .int t_liars, .int o_t_decree, .int t_holds, .int t_spoke, .int t_hoarse])), (q_ring, .inr (7, [.int ring_clauses, .int ring_corners, .int ring_hearers, .int ring_firstColds, .ref q_ring_beers, .ref q_ring_firstPlaces, .ref q_ring_pinches, .ref q_ring_sayings])), (q_ring_pinches, .inl (a 0, 9, .inl ring_pinches)), (q_ring_sayings, .inl (a 0, 9, .inl ring_sayings))] := by
  refine Kv.mk (cc := cX0_compromise) (nL := 3) (own := RX0) (by decide) rfl rfl (Nat.le_of_ble_eq_true rfl) ?_
  intro p e s m args below meth c A Q ls hX hP hD hS hl hret
  have hx := hX.1.1
  have hb := hX.1.2.1
  have hown := hX.1.2.2.2.1
  have hts := hX.1.2.2.2.2
  have hN := hX.2.2.1
  have hA := hX.2.2.2.2
  have hl : lv_has ls 3 [(0, .ref q_t), (1, .int x1)] := hl
  have hk1 := hts (.fieldLink RX0 17 "GainsaidOnce$Crier" "decree" "I") (List.mem_of_getElem? (i := 1) rfl)
  have hk2 := hts (.fieldLink RX0 7 "GainsaidOnce$Crier" "ring" "LGainsaidOnce$Town;") (List.mem_of_getElem? (i := 2) rfl)
  have hk11 := hts (.static yX10_at) (List.mem_of_getElem? (i := 11) rfl)
  have hk12 := hts (.initialized RX10) (List.mem_of_getElem? (i := 12) rfl)
  have hk14 := hts (.static yX10_setOfOne) (List.mem_of_getElem? (i := 14) rfl)
  have hiX0 : ∀ w ∈ wsX00, w ∈ wsX0_compromise := (fun _ h => List.mem_cons_of_mem _ (List.mem_append_left _ (List.mem_append_right _ h)))
  have hiX7 : ∀ w ∈ wsX70, w ∈ wsX0_compromise := (fun _ h => List.mem_cons_of_mem _ (List.mem_append_right _ h))
  unfold f_X0_compromise at hf
  refine lv_iload_n hx hb dX0_compromise_0 rfl (lv_at hl 1 rfl) ?_
  refine lv_if_ne (tgt := 23) hx hb dX0_compromise_1 (by decide) (fun c1 => ?_) (fun c1 => ?_)
  · have hf := o_ifn hf c1
    refine lv_iload_n hx hb dX0_compromise_23 rfl (lv_at hl 1 rfl) ?_
    obtain ⟨o2, ho2, hf⟩ := o_bd hf
    refine call_iS hX (c_J6_numberOfTrailingZeros l D a t x1 o2 ho2) (va_cwS 1 hts gX0_compromise_J6_numberOfTrailingZeros_0f7a4 rfl rfl rfl hdS_J6_numberOfTrailingZeros_0f7a4 ⟨by decide, by decide⟩) (Cut.none hA hP hD hS) hS rfl hl.1 rfl (Nat.le_of_ble_eq_true rfl) dX0_compromise_24 (by decide) (fun H locs hP hD hS => ?_)
    refine lv_istore_n (lv' := [(2, .int o2), (0, .ref q_t), (1, .int x1)]) hx hb dX0_compromise_27 rfl hl (by decide) rfl (fun ls hl => ?_)
    refine lv_aload_n hx hb dX0_compromise_28 rfl (lv_at hl 1 rfl) ?_
    refine lv_dup hx hb dX0_compromise_29 rfl ?_
    refine g_get hX hiX0 hP 0 rfl rfl 4 (by decide) hk1 rfl rfl dX0_compromise_30 ?_
    refine lv_aload_n hx hb dX0_compromise_33 rfl (lv_at hl 1 rfl) ?_
    refine g_get hX hiX0 hP 0 rfl rfl 4 (by decide) hk1 rfl rfl dX0_compromise_34 ?_
    refine lv_aload_n hx hb dX0_compromise_37 rfl (lv_at hl 1 rfl) ?_
    refine g_get hX hiX0 hP 0 rfl rfl 0 (by decide) hk2 rfl rfl dX0_compromise_38 ?_
    refine g_getN hX hiX7 hP 1 rfl rfl 6 (by decide) (nw_23 hN) rfl rfl dX0_compromise_41 ?_
    refine lv_iload_n hx hb dX0_compromise_44 rfl (lv_at hl 0 rfl) ?_
    obtain ⟨o3, ho3, hf⟩ := o_bd hf
    refine call_iSN hX (c_X10_at l D a t q_ring_pinches ring_pinches 9 o2 o3 ho3) (va_cnB 2 hts gX0_compromise_X10_at_n94 rfl rfl rfl (nw_68 hN) hk12 hdS_X10_at ⟨by decide, by decide⟩) hk11 (Cut.of hA hP hD hS [2] (by decide) rfl rfl (W' := [(q_t, .inr (0, [.ref q_ring, .ref q_now, .int t_silenced, .int t_liars, .int t_decree, .int t_holds, .int t_spoke, .int t_hoarse])), (q_ring, .inr (7, [.int ring_clauses, .int ring_corners, .int ring_hearers, .int ring_firstColds, .ref q_ring_beers, .ref q_ring_firstPlaces, .ref q_ring_pinches, .ref q_ring_sayings])), (q_ring_pinches, .inl (a 0, 9, .inl ring_pinches)), (q_ring_sayings, .inl (a 0, 9, .inl ring_sayings))]) rfl) hS rfl hl.1 rfl (Nat.le_of_ble_eq_true rfl) dX0_compromise_45 (by decide) (fun H locs hP hD hS => ?_)
    have hP : va_P D vwCl [(q_t, .inr (0, [.ref q_ring, .ref q_now, .int t_silenced, .int t_liars, .int t_decree, .int t_holds, .int t_spoke, .int t_hoarse])), (q_ring, .inr (7, [.int ring_clauses, .int ring_corners, .int ring_hearers, .int ring_firstColds, .ref q_ring_beers, .ref q_ring_firstPlaces, .ref q_ring_pinches, .ref q_ring_sayings])), (q_ring_pinches, .inl (a 0, 9, .inl ring_pinches)), (q_ring_sayings, .inl (a 0, 9, .inl ring_sayings))] H := hP
    have hD : va_D A [(q_t, .inr (0, [.ref q_ring, .ref q_now, .int t_silenced, .int t_liars, .int t_decree, .int t_holds, .int t_spoke, .int t_hoarse])), (q_ring, .inr (7, [.int ring_clauses, .int ring_corners, .int ring_hearers, .int ring_firstColds, .ref q_ring_beers, .ref q_ring_firstPlaces, .ref q_ring_pinches, .ref q_ring_sayings])), (q_ring_pinches, .inl (a 0, 9, .inl ring_pinches)), (q_ring_sayings, .inl (a 0, 9, .inl ring_sayings))] := hD
    refine lv_iand hx hb dX0_compromise_48 ?_
    obtain ⟨o4, ho4, hf⟩ := o_bd hf
    refine call_iS hX (c_J6_lowestOneBit l D a t (t_decree &&& o3) o4 ho4) (va_cwS 1 hts gX0_compromise_J6_lowestOneBit_0f7a4 rfl rfl rfl hdS_J6_lowestOneBit_0f7a4 ⟨by decide, by decide⟩) (Cut.none hA hP hD hS) hS rfl hl.1 rfl (Nat.le_of_ble_eq_true rfl) dX0_compromise_49 (by decide) (fun H locs hP hD hS => ?_)
    refine lv_iconst (v := (-1 : Int32)) hx hb dX0_compromise_52 (by decide) ?_
    refine lv_ixor hx hb dX0_compromise_53 ?_
    refine lv_iand hx hb dX0_compromise_54 ?_
    refine lv_topi (fun v5 ev5 => ?_)
    have hf := o_nmh hf v5 ev5
    refine g_put hX hiX0 tyX0 tyX0_ok nmX0 hP hD hS 0 rfl rfl 4 (by decide) hk1 rfl rfl rfl rfl (Nat.le_of_ble_eq_true rfl) dX0_compromise_55 (fun H locs hP hD hS => ?_)
    have hP : va_P D vwCl [(q_t, .inr (0, [.ref q_ring, .ref q_now, .int t_silenced, .int t_liars, .int v5, .int t_holds, .int t_spoke, .int t_hoarse])), (q_ring, .inr (7, [.int ring_clauses, .int ring_corners, .int ring_hearers, .int ring_firstColds, .ref q_ring_beers, .ref q_ring_firstPlaces, .ref q_ring_pinches, .ref q_ring_sayings])), (q_ring_pinches, .inl (a 0, 9, .inl ring_pinches)), (q_ring_sayings, .inl (a 0, 9, .inl ring_sayings))] H := hP
    have hD : va_D A [(q_t, .inr (0, [.ref q_ring, .ref q_now, .int t_silenced, .int t_liars, .int v5, .int t_holds, .int t_spoke, .int t_hoarse])), (q_ring, .inr (7, [.int ring_clauses, .int ring_corners, .int ring_hearers, .int ring_firstColds, .ref q_ring_beers, .ref q_ring_firstPlaces, .ref q_ring_pinches, .ref q_ring_sayings])), (q_ring_pinches, .inl (a 0, 9, .inl ring_pinches)), (q_ring_sayings, .inl (a 0, 9, .inl ring_sayings))] := hD
    refine lv_aload_n hx hb dX0_compromise_58 rfl (lv_at hl 1 rfl) ?_
    refine lv_dup hx hb dX0_compromise_59 rfl ?_
    refine g_get hX hiX0 hP 0 rfl rfl 4 (by decide) hk1 rfl rfl dX0_compromise_60 ?_
    refine lv_aload_n hx hb dX0_compromise_63 rfl (lv_at hl 1 rfl) ?_
    refine g_get hX hiX0 hP 0 rfl rfl 0 (by decide) hk2 rfl rfl dX0_compromise_64 ?_
    refine g_getN hX hiX7 hP 1 rfl rfl 7 (by decide) (nw_25 hN) rfl rfl dX0_compromise_67 ?_
    refine lv_iload_n hx hb dX0_compromise_70 rfl (lv_at hl 0 rfl) ?_
    obtain ⟨o6, ho6, hf⟩ := o_bd hf
    refine call_iSN hX (c_X10_at l D a t q_ring_sayings ring_sayings 9 o2 o6 ho6) (va_cnB 2 hts gX0_compromise_X10_at_n94 rfl rfl rfl (nw_68 hN) hk12 hdS_X10_at ⟨by decide, by decide⟩) hk11 (Cut.of hA hP hD hS [3] (by decide) rfl rfl (W' := [(q_t, .inr (0, [.ref q_ring, .ref q_now, .int t_silenced, .int t_liars, .int v5, .int t_holds, .int t_spoke, .int t_hoarse])), (q_ring, .inr (7, [.int ring_clauses, .int ring_corners, .int ring_hearers, .int ring_firstColds, .ref q_ring_beers, .ref q_ring_firstPlaces, .ref q_ring_pinches, .ref q_ring_sayings])), (q_ring_pinches, .inl (a 0, 9, .inl ring_pinches)), (q_ring_sayings, .inl (a 0, 9, .inl ring_sayings))]) rfl) hS rfl hl.1 rfl (Nat.le_of_ble_eq_true rfl) dX0_compromise_71 (by decide) (fun H locs hP hD hS => ?_)
    have hP : va_P D vwCl [(q_t, .inr (0, [.ref q_ring, .ref q_now, .int t_silenced, .int t_liars, .int v5, .int t_holds, .int t_spoke, .int t_hoarse])), (q_ring, .inr (7, [.int ring_clauses, .int ring_corners, .int ring_hearers, .int ring_firstColds, .ref q_ring_beers, .ref q_ring_firstPlaces, .ref q_ring_pinches, .ref q_ring_sayings])), (q_ring_pinches, .inl (a 0, 9, .inl ring_pinches)), (q_ring_sayings, .inl (a 0, 9, .inl ring_sayings))] H := hP
    have hD : va_D A [(q_t, .inr (0, [.ref q_ring, .ref q_now, .int t_silenced, .int t_liars, .int v5, .int t_holds, .int t_spoke, .int t_hoarse])), (q_ring, .inr (7, [.int ring_clauses, .int ring_corners, .int ring_hearers, .int ring_firstColds, .ref q_ring_beers, .ref q_ring_firstPlaces, .ref q_ring_pinches, .ref q_ring_sayings])), (q_ring_pinches, .inl (a 0, 9, .inl ring_pinches)), (q_ring_sayings, .inl (a 0, 9, .inl ring_sayings))] := hD
    obtain ⟨o7, ho7, hf⟩ := o_bd hf
    refine call_iSN hX (c_X10_setOfOne l D a t o6 o7 ho7) (va_cnB 1 hts gX0_compromise_X10_setOfOne_n110 rfl rfl rfl (nw_71 hN) hk12 hdS_X10_setOfOne ⟨by decide, by decide⟩) hk14 (Cut.none hA hP hD hS) hS rfl hl.1 rfl (Nat.le_of_ble_eq_true rfl) dX0_compromise_74 (by decide) (fun H locs hP hD hS => ?_)
    refine lv_aload_n hx hb dX0_compromise_77 rfl (lv_at hl 1 rfl) ?_
    refine g_get hX hiX0 hP 0 rfl rfl 0 (by decide) hk2 rfl rfl dX0_compromise_78 ?_
    refine g_getN hX hiX7 hP 1 rfl rfl 0 (by decide) (nw_8 hN) rfl rfl dX0_compromise_81 ?_
    refine lv_iand hx hb dX0_compromise_84 ?_
    refine lv_ior hx hb dX0_compromise_85 ?_
    refine lv_topi (fun v8 ev8 => ?_)
    have hf := o_nmh hf v8 ev8
    refine g_put hX hiX0 tyX0 tyX0_ok nmX0 hP hD hS 0 rfl rfl 4 (by decide) hk1 rfl rfl rfl rfl (Nat.le_of_ble_eq_true rfl) dX0_compromise_86 (fun H locs hP hD hS => ?_)
    have hP : va_P D vwCl [(q_t, .inr (0, [.ref q_ring, .ref q_now, .int t_silenced, .int t_liars, .int v8, .int t_holds, .int t_spoke, .int t_hoarse])), (q_ring, .inr (7, [.int ring_clauses, .int ring_corners, .int ring_hearers, .int ring_firstColds, .ref q_ring_beers, .ref q_ring_firstPlaces, .ref q_ring_pinches, .ref q_ring_sayings])), (q_ring_pinches, .inl (a 0, 9, .inl ring_pinches)), (q_ring_sayings, .inl (a 0, 9, .inl ring_sayings))] H := hP
    have hD : va_D A [(q_t, .inr (0, [.ref q_ring, .ref q_now, .int t_silenced, .int t_liars, .int v8, .int t_holds, .int t_spoke, .int t_hoarse])), (q_ring, .inr (7, [.int ring_clauses, .int ring_corners, .int ring_hearers, .int ring_firstColds, .ref q_ring_beers, .ref q_ring_firstPlaces, .ref q_ring_pinches, .ref q_ring_sayings])), (q_ring_pinches, .inl (a 0, 9, .inl ring_pinches)), (q_ring_sayings, .inl (a 0, 9, .inl ring_sayings))] := hD
    cases hf
    exact hret _ _ _ _ hP hD hS dX0_compromise_89
  have hf := o_ifp hf c1
  refine lv_aload_n hx hb dX0_compromise_4 rfl (lv_at hl 0 rfl) ?_
  refine lv_dup hx hb dX0_compromise_5 rfl ?_
  refine g_get hX hiX0 hP 0 rfl rfl 4 (by decide) hk1 rfl rfl dX0_compromise_6 ?_
  refine lv_aload_n hx hb dX0_compromise_9 rfl (lv_at hl 0 rfl) ?_
  refine g_get hX hiX0 hP 0 rfl rfl 4 (by decide) hk1 rfl rfl dX0_compromise_10 ?_
  obtain ⟨o9, ho9, hf⟩ := o_bd hf
  refine call_iS hX (c_J6_lowestOneBit l D a t t_decree o9 ho9) (va_cwS 1 hts gX0_compromise_J6_lowestOneBit_0f7a4 rfl rfl rfl hdS_J6_lowestOneBit_0f7a4 ⟨by decide, by decide⟩) (Cut.none hA hP hD hS) hS rfl hl.1 rfl (Nat.le_of_ble_eq_true rfl) dX0_compromise_13 (by decide) (fun H locs hP hD hS => ?_)
  refine lv_iconst (v := (-1 : Int32)) hx hb dX0_compromise_16 (by decide) ?_
  refine lv_ixor hx hb dX0_compromise_17 ?_
  refine lv_iand hx hb dX0_compromise_18 ?_
  refine lv_topi (fun v10 ev10 => ?_)
  have hf := o_nmh hf v10 ev10
  refine g_put hX hiX0 tyX0 tyX0_ok nmX0 hP hD hS 0 rfl rfl 4 (by decide) hk1 rfl rfl rfl rfl (Nat.le_of_ble_eq_true rfl) dX0_compromise_19 (fun H locs hP hD hS => ?_)
  have hP : va_P D vwCl [(q_t, .inr (0, [.ref q_ring, .ref q_now, .int t_silenced, .int t_liars, .int v10, .int t_holds, .int t_spoke, .int t_hoarse])), (q_ring, .inr (7, [.int ring_clauses, .int ring_corners, .int ring_hearers, .int ring_firstColds, .ref q_ring_beers, .ref q_ring_firstPlaces, .ref q_ring_pinches, .ref q_ring_sayings])), (q_ring_pinches, .inl (a 0, 9, .inl ring_pinches)), (q_ring_sayings, .inl (a 0, 9, .inl ring_sayings))] H := hP
  have hD : va_D A [(q_t, .inr (0, [.ref q_ring, .ref q_now, .int t_silenced, .int t_liars, .int v10, .int t_holds, .int t_spoke, .int t_hoarse])), (q_ring, .inr (7, [.int ring_clauses, .int ring_corners, .int ring_hearers, .int ring_firstColds, .ref q_ring_beers, .ref q_ring_firstPlaces, .ref q_ring_pinches, .ref q_ring_sayings])), (q_ring_pinches, .inl (a 0, 9, .inl ring_pinches)), (q_ring_sayings, .inl (a 0, 9, .inl ring_sayings))] := hD
  cases hf
  exact hret _ _ _ _ hP hD hS dX0_compromise_22
def f_X0_readAt_67 (ring_clauses : Int32) (ring_pinches : Nat → Int32) (ring_sayings : Nat → Int32) (t_decree : Int32) (t_holds : Int32) (t_spoke : Int32) (t_hoarse : Int32) (x1 : Int32) (x2 : Int32) (x3 : Int32) : Option (Int32 × Int32 × Int32 × Int32 × Int32) :=
  (f_J6_bitCount x2).bind fun o1 =>
  o_nm ((o1 + x3)) fun v2 =>
  o_nm ((t_spoke + v2)) fun v3 =>
  o_nm ((t_hoarse ||| x2)) fun v4 =>
  (o_rm v2 (2 : Int32)).bind fun v5 =>
  if v5 = (1 : Int32) then ((f_X0_compromise t_decree ring_clauses ring_pinches ring_sayings x2).bind fun o9 =>
  o_nm ((t_holds ||| ((1 : Int32) <<< (x1 &&& 31)))) fun v10 =>
  some ((1 : Int32), o9, v10, v3, v4))
  else (if v2 = 0 then (some ((0 : Int32), t_decree, t_holds, v3, v4))
  else (o_nm ((ring_clauses &&& (t_decree ^^^ (-1 : Int32)))) fun v8 =>
  some ((0 : Int32), v8, t_holds, v3, v4)))
def f_X0_readAt_34 (t_silenced : Int32) (now_colds : Int32) (ring_clauses : Int32) (ring_hearers : Int32) (now_places : Nat → Int32) (ring_pinches : Nat → Int32) (ring_sayings : Nat → Int32) (t_decree : Int32) (t_holds : Int32) (t_spoke : Int32) (t_hoarse : Int32) (x1 : Int32) (x2 : Int32) (s0 : Int32) : Option (Int32 × Int32 × Int32 × Int32 × Int32) :=
  if x2 = 0 then (if s0 = 0 then ((f_X10_has now_colds x1).bind fun o13 =>
  if o13 = 0 then (f_X0_readAt_67 ring_clauses ring_pinches ring_sayings t_decree t_holds t_spoke t_hoarse x1 x2 s0)
  else ((f_X0_speakersAt t_decree ring_hearers now_places ring_pinches x1 t_silenced).bind fun o15 =>
  f_X0_readAt_67 ring_clauses ring_pinches ring_sayings t_decree t_holds t_spoke t_hoarse x1 o15 s0))
  else (f_X0_readAt_67 ring_clauses ring_pinches ring_sayings t_decree t_holds t_spoke t_hoarse x1 x2 s0))
  else (f_X0_readAt_67 ring_clauses ring_pinches ring_sayings t_decree t_holds t_spoke t_hoarse x1 x2 s0)
def f_X0_readAt (t_silenced : Int32) (t_liars : Int32) (t_decree : Int32) (t_holds : Int32) (t_spoke : Int32) (t_hoarse : Int32) (now_colds : Int32) (ring_clauses : Int32) (ring_hearers : Int32) (now_places : Nat → Int32) (ring_pinches : Nat → Int32) (ring_sayings : Nat → Int32) (x1 : Int32) : Option (Int32 × Int32 × Int32 × Int32 × Int32) :=
  (f_X0_speakersAt t_decree ring_hearers now_places ring_pinches x1 (t_silenced ||| t_hoarse)).bind fun o16 =>
  if t_decree = 0 then (f_X0_readAt_34 t_silenced now_colds ring_clauses ring_hearers now_places ring_pinches ring_sayings t_decree t_holds t_spoke t_hoarse x1 o16 (0 : Int32))
  else ((f_X10_bit t_liars x1).bind fun o18 =>
  f_X0_readAt_34 t_silenced now_colds ring_clauses ring_hearers now_places ring_pinches ring_sayings t_decree t_holds t_spoke t_hoarse x1 o16 o18)
theorem hdS_X0_readAt : yX0_readAt.cls ≠ "java/lang/invoke/MethodHandle" ∧ yX0_readAt.cls ≠ "java/lang/invoke/VarHandle" ∧ (parseMethodDescriptor yX0_readAt.desc).map (fun d => d.parameters.length) = some 1 := by decide +kernel
theorem hdV_X0_readAt : yX0_readAt.cls = RX0 ∧ yX0_readAt.cls ≠ "java/lang/invoke/MethodHandle" ∧ yX0_readAt.cls ≠ "java/lang/invoke/VarHandle" ∧ (parseMethodDescriptor yX0_readAt.desc).map (fun d => d.parameters.length) = some 1 := ⟨rfl, hdS_X0_readAt⟩
set_option maxHeartbeats 4000000 in
set_option maxRecDepth 100000 in
theorem c_X0_readAt (l : Launch) (D : va_G) (a : Nat → ClassId) (t : Nat) (q_t : Nat) (q_ring : Nat) (q_now : Nat) (t_silenced : Int32) (t_liars : Int32) (t_decree : Int32) (t_holds : Int32) (t_spoke : Int32) (t_hoarse : Int32) (now_rounds : Int32) (now_months : Int32) (now_law : Int32) (now_holds : Int32) (now_hoarse : Int32) (now_keptIn : Int32) (now_colds : Int32) (q_now_places : Nat) (ring_clauses : Int32) (ring_corners : Int32) (ring_hearers : Int32) (ring_firstColds : Int32) (q_ring_beers : Nat) (q_ring_firstPlaces : Nat) (q_ring_pinches : Nat) (q_ring_sayings : Nat) (now_places : Nat → Int32) (ring_pinches : Nat → Int32) (ring_sayings : Nat → Int32) (x1 : Int32) (r : Int32) (o_t_decree : Int32) (o_t_holds : Int32) (o_t_spoke : Int32) (o_t_hoarse : Int32) (hf : f_X0_readAt t_silenced t_liars t_decree t_holds t_spoke t_hoarse now_colds ring_clauses ring_hearers now_places ring_pinches ring_sayings x1 = some (r, o_t_decree, o_t_holds, o_t_spoke, o_t_hoarse)) : Ki l yX0_readAt wsX0_readAt 2 45 D a t [.ref q_t, .int x1] [(q_t, .inr (0, [.ref q_ring, .ref q_now, .int t_silenced, .int t_liars, .int t_decree, .int t_holds, .int t_spoke, .int t_hoarse])), (q_now, .inr (6, [.int now_rounds, .int now_months, .int now_law, .int now_holds, .int now_hoarse, .int now_keptIn, .int now_colds, .ref q_now_places])), (q_ring, .inr (7, [.int ring_clauses, .int ring_corners, .int ring_hearers, .int ring_firstColds, .ref q_ring_beers, .ref q_ring_firstPlaces, .ref q_ring_pinches, .ref q_ring_sayings])), (q_now_places, .inl (a 0, 9, .inl now_places)), (q_ring_pinches, .inl (a 0, 9, .inl ring_pinches)), (q_ring_sayings, .inl (a 0, 9, .inl ring_sayings))] [(q_t, .inr (0, [.ref q_ring, .ref q_now, .int t_silenced, .int t_liars, .int o_t_decree, .int o_t_holds, .int o_t_spoke, .int o_t_hoarse])), (q_now, .inr (6, [.int now_rounds, .int now_months, .int now_law, .int now_holds, .int now_hoarse, .int now_keptIn, .int now_colds, .ref q_now_places])), (q_ring, .inr (7, [.int ring_clauses, .int ring_corners, .int ring_hearers, .int ring_firstColds, .ref q_ring_beers, .ref q_ring_firstPlaces, .ref q_ring_pinches, .ref q_ring_sayings])), (q_now_places, .inl (a 0, 9, .inl now_places)), (q_ring_pinches, .inl (a 0, 9, .inl ring_pinches)), (q_ring_sayings, .inl (a 0, 9, .inl ring_sayings))] r := by
  refine Ki.mk (cc := cX0_readAt) (nL := 5) (ty := .boolean) (own := RX0) (by decide) rfl rfl (Nat.le_of_ble_eq_true rfl) ?_
  intro p e s m args below meth c A Q ls hX hP hD hS hl hret
  have hx := hX.1.1
  have hb := hX.1.2.1
  have hown := hX.1.2.2.2.1
  have hts := hX.1.2.2.2.2
  have hN := hX.2.2.1
  have hA := hX.2.2.2.2
  have hl : lv_has ls 5 [(0, .ref q_t), (1, .int x1)] := hl
  have hk1 := hts (.fieldLink RX0 26 "GainsaidOnce$Crier" "silenced" "I") (List.mem_of_getElem? (i := 1) rfl)
  have hk2 := hts (.fieldLink RX0 41 "GainsaidOnce$Crier" "hoarse" "I") (List.mem_of_getElem? (i := 2) rfl)
  have hk3 := hts (.fieldLink RX0 17 "GainsaidOnce$Crier" "decree" "I") (List.mem_of_getElem? (i := 3) rfl)
  have hk4 := hts (.fieldLink RX0 29 "GainsaidOnce$Crier" "liars" "I") (List.mem_of_getElem? (i := 4) rfl)
  have hk5 := hts (.fieldLink RX0 13 "GainsaidOnce$Crier" "now" "LGainsaidOnce$State;") (List.mem_of_getElem? (i := 5) rfl)
  have hk6 := hts (.fieldLink RX0 35 "GainsaidOnce$Crier" "spoke" "I") (List.mem_of_getElem? (i := 6) rfl)
  have hk7 := hts (.fieldLink RX0 32 "GainsaidOnce$Crier" "holds" "I") (List.mem_of_getElem? (i := 7) rfl)
  have hk8 := hts (.fieldLink RX0 7 "GainsaidOnce$Crier" "ring" "LGainsaidOnce$Town;") (List.mem_of_getElem? (i := 8) rfl)
  have hk15 := hts (.initialized RX10) (List.mem_of_getElem? (i := 15) rfl)
  have hk17 := hts (.static yX10_has) (List.mem_of_getElem? (i := 17) rfl)
  have hk19 := hts (.static yX10_bit) (List.mem_of_getElem? (i := 19) rfl)
  have hiX0 : ∀ w ∈ wsX00, w ∈ wsX0_readAt := (fun _ h => List.mem_cons_of_mem _ (List.mem_append_left _ (List.mem_append_left _ (List.mem_append_right _ h))))
  have hiX7 : ∀ w ∈ wsX70, w ∈ wsX0_readAt := (fun _ h => List.mem_cons_of_mem _ (List.mem_append_right _ h))
  have hiX6 : ∀ w ∈ wsX60, w ∈ wsX0_readAt := (fun _ h => List.mem_cons_of_mem _ (List.mem_append_left _ (List.mem_append_right _ h)))
  have L_67 : ∀ (t_decree : Int32) (t_holds : Int32) (t_spoke : Int32) (t_hoarse : Int32) (x1 : Int32) (x2 : Int32) (x3 : Int32) (H : Heap) (locs : List Loc) (ls : Array Slot), f_X0_readAt_67 ring_clauses ring_pinches ring_sayings t_decree t_holds t_spoke t_hoarse x1 x2 x3 = some (r, o_t_decree, o_t_holds, o_t_spoke, o_t_hoarse) → va_P D vwCl [(q_t, .inr (0, [.ref q_ring, .ref q_now, .int t_silenced, .int t_liars, .int t_decree, .int t_holds, .int t_spoke, .int t_hoarse])), (q_now, .inr (6, [.int now_rounds, .int now_months, .int now_law, .int now_holds, .int now_hoarse, .int now_keptIn, .int now_colds, .ref q_now_places])), (q_ring, .inr (7, [.int ring_clauses, .int ring_corners, .int ring_hearers, .int ring_firstColds, .ref q_ring_beers, .ref q_ring_firstPlaces, .ref q_ring_pinches, .ref q_ring_sayings])), (q_now_places, .inl (a 0, 9, .inl now_places)), (q_ring_pinches, .inl (a 0, 9, .inl ring_pinches)), (q_ring_sayings, .inl (a 0, 9, .inl ring_sayings))] H → va_D A [(q_t, .inr (0, [.ref q_ring, .ref q_now, .int t_silenced, .int t_liars, .int t_decree, .int t_holds, .int t_spoke, .int t_hoarse])), (q_now, .inr (6, [.int now_rounds, .int now_months, .int now_law, .int now_holds, .int now_hoarse, .int now_keptIn, .int now_colds, .ref q_now_places])), (q_ring, .inr (7, [.int ring_clauses, .int ring_corners, .int ring_hearers, .int ring_firstColds, .ref q_ring_beers, .ref q_ring_firstPlaces, .ref q_ring_pinches, .ref q_ring_sayings])), (q_now_places, .inl (a 0, 9, .inl now_places)), (q_ring_pinches, .inl (a 0, 9, .inl ring_pinches)), (q_ring_sayings, .inl (a 0, 9, .inl ring_sayings))] → va_S A s.heap H locs → lv_has ls 5 [(0, .ref q_t), (1, .int x1), (2, .int x2), (3, .int x3)] → W p l e { frames := 2, cells := 0, slots := 0, locals := 45 } s m args below meth c H locs 0 0 Q (F0 m 67 ls []) := by
    intro t_decree t_holds t_spoke t_hoarse x1 x2 x3 H locs ls hf hP hD hS hl
    unfold f_X0_readAt_67 at hf
    refine lv_iload_n hx hb dX0_readAt_67 rfl (lv_at hl 2 rfl) ?_
    obtain ⟨o1, ho1, hf⟩ := o_bd hf
    refine call_iS hX (c_J6_bitCount l D a t x2 o1 ho1) (va_cwS 1 hts gX0_readAt_J6_bitCount_0f7a4 rfl rfl rfl hdS_J6_bitCount_0f7a4 ⟨by decide, by decide⟩) (Cut.none hA hP hD hS) hS rfl hl.1 rfl (Nat.le_of_ble_eq_true rfl) dX0_readAt_68 (by decide) (fun H locs hP hD hS => ?_)
    refine lv_iload_n hx hb dX0_readAt_71 rfl (lv_at hl 3 rfl) ?_
    refine lv_iadd hx hb dX0_readAt_72 ?_
    refine lv_topi (fun v2 ev2 => ?_)
    have hf := o_nmh hf v2 ev2
    refine lv_istore (lv' := [(4, .int v2), (0, .ref q_t), (1, .int x1), (2, .int x2), (3, .int x3)]) hx hb dX0_readAt_73 hl (by decide) rfl (fun ls hl => ?_)
    refine lv_aload_n hx hb dX0_readAt_75 rfl (lv_at hl 1 rfl) ?_
    refine lv_dup hx hb dX0_readAt_76 rfl ?_
    refine g_get hX hiX0 hP 0 rfl rfl 6 (by decide) hk6 rfl rfl dX0_readAt_77 ?_
    refine lv_iload hx hb dX0_readAt_80 (lv_at hl 0 rfl) ?_
    refine lv_iadd hx hb dX0_readAt_82 ?_
    refine lv_topi (fun v3 ev3 => ?_)
    have hf := o_nmh hf v3 ev3
    refine g_put hX hiX0 tyX0 tyX0_ok nmX0 hP hD hS 0 rfl rfl 6 (by decide) hk6 rfl rfl rfl rfl (Nat.le_of_ble_eq_true rfl) dX0_readAt_83 (fun H locs hP hD hS => ?_)
    have hP : va_P D vwCl [(q_t, .inr (0, [.ref q_ring, .ref q_now, .int t_silenced, .int t_liars, .int t_decree, .int t_holds, .int v3, .int t_hoarse])), (q_now, .inr (6, [.int now_rounds, .int now_months, .int now_law, .int now_holds, .int now_hoarse, .int now_keptIn, .int now_colds, .ref q_now_places])), (q_ring, .inr (7, [.int ring_clauses, .int ring_corners, .int ring_hearers, .int ring_firstColds, .ref q_ring_beers, .ref q_ring_firstPlaces, .ref q_ring_pinches, .ref q_ring_sayings])), (q_now_places, .inl (a 0, 9, .inl now_places)), (q_ring_pinches, .inl (a 0, 9, .inl ring_pinches)), (q_ring_sayings, .inl (a 0, 9, .inl ring_sayings))] H := hP
    have hD : va_D A [(q_t, .inr (0, [.ref q_ring, .ref q_now, .int t_silenced, .int t_liars, .int t_decree, .int t_holds, .int v3, .int t_hoarse])), (q_now, .inr (6, [.int now_rounds, .int now_months, .int now_law, .int now_holds, .int now_hoarse, .int now_keptIn, .int now_colds, .ref q_now_places])), (q_ring, .inr (7, [.int ring_clauses, .int ring_corners, .int ring_hearers, .int ring_firstColds, .ref q_ring_beers, .ref q_ring_firstPlaces, .ref q_ring_pinches, .ref q_ring_sayings])), (q_now_places, .inl (a 0, 9, .inl now_places)), (q_ring_pinches, .inl (a 0, 9, .inl ring_pinches)), (q_ring_sayings, .inl (a 0, 9, .inl ring_sayings))] := hD
    refine lv_aload_n hx hb dX0_readAt_86 rfl (lv_at hl 1 rfl) ?_
    refine lv_dup hx hb dX0_readAt_87 rfl ?_
    refine g_get hX hiX0 hP 0 rfl rfl 7 (by decide) hk2 rfl rfl dX0_readAt_88 ?_
    refine lv_iload_n hx hb dX0_readAt_91 rfl (lv_at hl 3 rfl) ?_
    refine lv_ior hx hb dX0_readAt_92 ?_
    refine lv_topi (fun v4 ev4 => ?_)
    have hf := o_nmh hf v4 ev4
    refine g_put hX hiX0 tyX0 tyX0_ok nmX0 hP hD hS 0 rfl rfl 7 (by decide) hk2 rfl rfl rfl rfl (Nat.le_of_ble_eq_true rfl) dX0_readAt_93 (fun H locs hP hD hS => ?_)
    have hP : va_P D vwCl [(q_t, .inr (0, [.ref q_ring, .ref q_now, .int t_silenced, .int t_liars, .int t_decree, .int t_holds, .int v3, .int v4])), (q_now, .inr (6, [.int now_rounds, .int now_months, .int now_law, .int now_holds, .int now_hoarse, .int now_keptIn, .int now_colds, .ref q_now_places])), (q_ring, .inr (7, [.int ring_clauses, .int ring_corners, .int ring_hearers, .int ring_firstColds, .ref q_ring_beers, .ref q_ring_firstPlaces, .ref q_ring_pinches, .ref q_ring_sayings])), (q_now_places, .inl (a 0, 9, .inl now_places)), (q_ring_pinches, .inl (a 0, 9, .inl ring_pinches)), (q_ring_sayings, .inl (a 0, 9, .inl ring_sayings))] H := hP
    have hD : va_D A [(q_t, .inr (0, [.ref q_ring, .ref q_now, .int t_silenced, .int t_liars, .int t_decree, .int t_holds, .int v3, .int v4])), (q_now, .inr (6, [.int now_rounds, .int now_months, .int now_law, .int now_holds, .int now_hoarse, .int now_keptIn, .int now_colds, .ref q_now_places])), (q_ring, .inr (7, [.int ring_clauses, .int ring_corners, .int ring_hearers, .int ring_firstColds, .ref q_ring_beers, .ref q_ring_firstPlaces, .ref q_ring_pinches, .ref q_ring_sayings])), (q_now_places, .inl (a 0, 9, .inl now_places)), (q_ring_pinches, .inl (a 0, 9, .inl ring_pinches)), (q_ring_sayings, .inl (a 0, 9, .inl ring_sayings))] := hD
    refine lv_iload hx hb dX0_readAt_96 (lv_at hl 0 rfl) ?_
    refine lv_iconst (v := (2 : Int32)) hx hb dX0_readAt_98 (by decide) ?_
    obtain ⟨hzv5, hf⟩ := o_rmh hf
    refine lv_irem hx hb dX0_readAt_99 hzv5 ?_
    refine lv_topi (fun v5 ev5 => ?_)
    have hf := hf v5 ev5
    refine lv_iconst (v := (1 : Int32)) hx hb dX0_readAt_100 (by decide) ?_
    refine lv_icmp_ne (tgt := 123) hx hb dX0_readAt_101 (by decide) (fun c6 => ?_) (fun c6 => ?_)
    · have hf := o_ifn hf c6
      refine lv_iload hx hb dX0_readAt_123 (lv_at hl 0 rfl) ?_
      refine lv_if_eq (tgt := 146) hx hb dX0_readAt_125 (by decide) (fun c7 => ?_) (fun c7 => ?_)
      · have hf := o_ifp hf c7
        refine lv_iconst (v := (0 : Int32)) hx hb dX0_readAt_146 (by decide) ?_
        cases hf
        exact hret _ _ _ _ narrow_b0 hP hD hS dX0_readAt_147
      have hf := o_ifn hf c7
      refine lv_aload_n hx hb dX0_readAt_128 rfl (lv_at hl 1 rfl) ?_
      refine lv_aload_n hx hb dX0_readAt_129 rfl (lv_at hl 1 rfl) ?_
      refine g_get hX hiX0 hP 0 rfl rfl 0 (by decide) hk8 rfl rfl dX0_readAt_130 ?_
      refine g_getN hX hiX7 hP 2 rfl rfl 0 (by decide) (nw_8 hN) rfl rfl dX0_readAt_133 ?_
      refine lv_aload_n hx hb dX0_readAt_136 rfl (lv_at hl 1 rfl) ?_
      refine g_get hX hiX0 hP 0 rfl rfl 4 (by decide) hk3 rfl rfl dX0_readAt_137 ?_
      refine lv_iconst (v := (-1 : Int32)) hx hb dX0_readAt_140 (by decide) ?_
      refine lv_ixor hx hb dX0_readAt_141 ?_
      refine lv_iand hx hb dX0_readAt_142 ?_
      refine lv_topi (fun v8 ev8 => ?_)
      have hf := o_nmh hf v8 ev8
      refine g_put hX hiX0 tyX0 tyX0_ok nmX0 hP hD hS 0 rfl rfl 4 (by decide) hk3 rfl rfl rfl rfl (Nat.le_of_ble_eq_true rfl) dX0_readAt_143 (fun H locs hP hD hS => ?_)
      have hP : va_P D vwCl [(q_t, .inr (0, [.ref q_ring, .ref q_now, .int t_silenced, .int t_liars, .int v8, .int t_holds, .int v3, .int v4])), (q_now, .inr (6, [.int now_rounds, .int now_months, .int now_law, .int now_holds, .int now_hoarse, .int now_keptIn, .int now_colds, .ref q_now_places])), (q_ring, .inr (7, [.int ring_clauses, .int ring_corners, .int ring_hearers, .int ring_firstColds, .ref q_ring_beers, .ref q_ring_firstPlaces, .ref q_ring_pinches, .ref q_ring_sayings])), (q_now_places, .inl (a 0, 9, .inl now_places)), (q_ring_pinches, .inl (a 0, 9, .inl ring_pinches)), (q_ring_sayings, .inl (a 0, 9, .inl ring_sayings))] H := hP
      have hD : va_D A [(q_t, .inr (0, [.ref q_ring, .ref q_now, .int t_silenced, .int t_liars, .int v8, .int t_holds, .int v3, .int v4])), (q_now, .inr (6, [.int now_rounds, .int now_months, .int now_law, .int now_holds, .int now_hoarse, .int now_keptIn, .int now_colds, .ref q_now_places])), (q_ring, .inr (7, [.int ring_clauses, .int ring_corners, .int ring_hearers, .int ring_firstColds, .ref q_ring_beers, .ref q_ring_firstPlaces, .ref q_ring_pinches, .ref q_ring_sayings])), (q_now_places, .inl (a 0, 9, .inl now_places)), (q_ring_pinches, .inl (a 0, 9, .inl ring_pinches)), (q_ring_sayings, .inl (a 0, 9, .inl ring_sayings))] := hD
      refine lv_iconst (v := (0 : Int32)) hx hb dX0_readAt_146 (by decide) ?_
      cases hf
      exact hret _ _ _ _ narrow_b0 hP hD hS dX0_readAt_147
    have hf := o_ifp hf c6
    refine lv_aload_n hx hb dX0_readAt_104 rfl (lv_at hl 1 rfl) ?_
    refine lv_iload_n hx hb dX0_readAt_105 rfl (lv_at hl 3 rfl) ?_
    obtain ⟨o9, ho9, hf⟩ := o_bd hf
    refine call_vV (q0 := 0) (ci := 0) hX (c_X0_compromise l D a t q_t q_ring q_now t_silenced t_liars t_decree t_holds v3 v4 ring_clauses ring_corners ring_hearers ring_firstColds q_ring_beers q_ring_firstPlaces q_ring_pinches q_ring_sayings ring_pinches ring_sayings x2 o9 ho9) (cwV 1 hts gX0_readAt_X0_compromise rfl rfl rfl hdV_X0_compromise ⟨by decide, by decide⟩) (Cut.of hA hP hD hS [0, 2, 4, 5] (by decide) rfl rfl (W' := [(q_t, .inr (0, [.ref q_ring, .ref q_now, .int t_silenced, .int t_liars, .int o9, .int t_holds, .int v3, .int v4])), (q_now, .inr (6, [.int now_rounds, .int now_months, .int now_law, .int now_holds, .int now_hoarse, .int now_keptIn, .int now_colds, .ref q_now_places])), (q_ring, .inr (7, [.int ring_clauses, .int ring_corners, .int ring_hearers, .int ring_firstColds, .ref q_ring_beers, .ref q_ring_firstPlaces, .ref q_ring_pinches, .ref q_ring_sayings])), (q_now_places, .inl (a 0, 9, .inl now_places)), (q_ring_pinches, .inl (a 0, 9, .inl ring_pinches)), (q_ring_sayings, .inl (a 0, 9, .inl ring_sayings))]) rfl) hS rfl rfl rfl hl.1 rfl (Nat.le_of_ble_eq_true rfl) dX0_readAt_106 (by decide) (fun H locs hP hD hS => ?_)
    have hP : va_P D vwCl [(q_t, .inr (0, [.ref q_ring, .ref q_now, .int t_silenced, .int t_liars, .int o9, .int t_holds, .int v3, .int v4])), (q_now, .inr (6, [.int now_rounds, .int now_months, .int now_law, .int now_holds, .int now_hoarse, .int now_keptIn, .int now_colds, .ref q_now_places])), (q_ring, .inr (7, [.int ring_clauses, .int ring_corners, .int ring_hearers, .int ring_firstColds, .ref q_ring_beers, .ref q_ring_firstPlaces, .ref q_ring_pinches, .ref q_ring_sayings])), (q_now_places, .inl (a 0, 9, .inl now_places)), (q_ring_pinches, .inl (a 0, 9, .inl ring_pinches)), (q_ring_sayings, .inl (a 0, 9, .inl ring_sayings))] H := hP
    have hD : va_D A [(q_t, .inr (0, [.ref q_ring, .ref q_now, .int t_silenced, .int t_liars, .int o9, .int t_holds, .int v3, .int v4])), (q_now, .inr (6, [.int now_rounds, .int now_months, .int now_law, .int now_holds, .int now_hoarse, .int now_keptIn, .int now_colds, .ref q_now_places])), (q_ring, .inr (7, [.int ring_clauses, .int ring_corners, .int ring_hearers, .int ring_firstColds, .ref q_ring_beers, .ref q_ring_firstPlaces, .ref q_ring_pinches, .ref q_ring_sayings])), (q_now_places, .inl (a 0, 9, .inl now_places)), (q_ring_pinches, .inl (a 0, 9, .inl ring_pinches)), (q_ring_sayings, .inl (a 0, 9, .inl ring_sayings))] := hD
    refine lv_aload_n hx hb dX0_readAt_109 rfl (lv_at hl 1 rfl) ?_
    refine lv_dup hx hb dX0_readAt_110 rfl ?_
    refine g_get hX hiX0 hP 0 rfl rfl 5 (by decide) hk7 rfl rfl dX0_readAt_111 ?_
    refine lv_iconst (v := (1 : Int32)) hx hb dX0_readAt_114 (by decide) ?_
    refine lv_iload_n hx hb dX0_readAt_115 rfl (lv_at hl 2 rfl) ?_
    refine lv_ishl hx hb dX0_readAt_116 ?_
    refine lv_ior hx hb dX0_readAt_117 ?_
    refine lv_topi (fun v10 ev10 => ?_)
    have hf := o_nmh hf v10 ev10
    refine g_put hX hiX0 tyX0 tyX0_ok nmX0 hP hD hS 0 rfl rfl 5 (by decide) hk7 rfl rfl rfl rfl (Nat.le_of_ble_eq_true rfl) dX0_readAt_118 (fun H locs hP hD hS => ?_)
    have hP : va_P D vwCl [(q_t, .inr (0, [.ref q_ring, .ref q_now, .int t_silenced, .int t_liars, .int o9, .int v10, .int v3, .int v4])), (q_now, .inr (6, [.int now_rounds, .int now_months, .int now_law, .int now_holds, .int now_hoarse, .int now_keptIn, .int now_colds, .ref q_now_places])), (q_ring, .inr (7, [.int ring_clauses, .int ring_corners, .int ring_hearers, .int ring_firstColds, .ref q_ring_beers, .ref q_ring_firstPlaces, .ref q_ring_pinches, .ref q_ring_sayings])), (q_now_places, .inl (a 0, 9, .inl now_places)), (q_ring_pinches, .inl (a 0, 9, .inl ring_pinches)), (q_ring_sayings, .inl (a 0, 9, .inl ring_sayings))] H := hP
    have hD : va_D A [(q_t, .inr (0, [.ref q_ring, .ref q_now, .int t_silenced, .int t_liars, .int o9, .int v10, .int v3, .int v4])), (q_now, .inr (6, [.int now_rounds, .int now_months, .int now_law, .int now_holds, .int now_hoarse, .int now_keptIn, .int now_colds, .ref q_now_places])), (q_ring, .inr (7, [.int ring_clauses, .int ring_corners, .int ring_hearers, .int ring_firstColds, .ref q_ring_beers, .ref q_ring_firstPlaces, .ref q_ring_pinches, .ref q_ring_sayings])), (q_now_places, .inl (a 0, 9, .inl now_places)), (q_ring_pinches, .inl (a 0, 9, .inl ring_pinches)), (q_ring_sayings, .inl (a 0, 9, .inl ring_sayings))] := hD
    refine lv_iconst (v := (1 : Int32)) hx hb dX0_readAt_121 (by decide) ?_
    cases hf
    exact hret _ _ _ _ narrow_b1 hP hD hS dX0_readAt_122
  have L_34 : ∀ (t_decree : Int32) (t_holds : Int32) (t_spoke : Int32) (t_hoarse : Int32) (x1 : Int32) (x2 : Int32) (s0 : Int32) (H : Heap) (locs : List Loc) (ls : Array Slot), f_X0_readAt_34 t_silenced now_colds ring_clauses ring_hearers now_places ring_pinches ring_sayings t_decree t_holds t_spoke t_hoarse x1 x2 s0 = some (r, o_t_decree, o_t_holds, o_t_spoke, o_t_hoarse) → va_P D vwCl [(q_t, .inr (0, [.ref q_ring, .ref q_now, .int t_silenced, .int t_liars, .int t_decree, .int t_holds, .int t_spoke, .int t_hoarse])), (q_now, .inr (6, [.int now_rounds, .int now_months, .int now_law, .int now_holds, .int now_hoarse, .int now_keptIn, .int now_colds, .ref q_now_places])), (q_ring, .inr (7, [.int ring_clauses, .int ring_corners, .int ring_hearers, .int ring_firstColds, .ref q_ring_beers, .ref q_ring_firstPlaces, .ref q_ring_pinches, .ref q_ring_sayings])), (q_now_places, .inl (a 0, 9, .inl now_places)), (q_ring_pinches, .inl (a 0, 9, .inl ring_pinches)), (q_ring_sayings, .inl (a 0, 9, .inl ring_sayings))] H → va_D A [(q_t, .inr (0, [.ref q_ring, .ref q_now, .int t_silenced, .int t_liars, .int t_decree, .int t_holds, .int t_spoke, .int t_hoarse])), (q_now, .inr (6, [.int now_rounds, .int now_months, .int now_law, .int now_holds, .int now_hoarse, .int now_keptIn, .int now_colds, .ref q_now_places])), (q_ring, .inr (7, [.int ring_clauses, .int ring_corners, .int ring_hearers, .int ring_firstColds, .ref q_ring_beers, .ref q_ring_firstPlaces, .ref q_ring_pinches, .ref q_ring_sayings])), (q_now_places, .inl (a 0, 9, .inl now_places)), (q_ring_pinches, .inl (a 0, 9, .inl ring_pinches)), (q_ring_sayings, .inl (a 0, 9, .inl ring_sayings))] → va_S A s.heap H locs → lv_has ls 5 [(0, .ref q_t), (1, .int x1), (2, .int x2)] → W p l e { frames := 2, cells := 0, slots := 0, locals := 45 } s m args below meth c H locs 0 0 Q (F0 m 34 ls [.int s0]) := by
    intro t_decree t_holds t_spoke t_hoarse x1 x2 s0 H locs ls hf hP hD hS hl
    unfold f_X0_readAt_34 at hf
    refine lv_istore_n (lv' := [(3, .int s0), (0, .ref q_t), (1, .int x1), (2, .int x2)]) hx hb dX0_readAt_34 rfl hl (by decide) rfl (fun ls hl => ?_)
    refine lv_iload_n hx hb dX0_readAt_35 rfl (lv_at hl 3 rfl) ?_
    refine lv_if_ne (tgt := 67) hx hb dX0_readAt_36 (by decide) (fun c11 => ?_) (fun c11 => ?_)
    · have hf := o_ifn hf c11
      exact L_67 t_decree t_holds t_spoke t_hoarse x1 x2 s0 _ _ _ hf hP hD hS (lv_sub hl [1, 2, 3, 0] rfl)
    have hf := o_ifp hf c11
    refine lv_iload_n hx hb dX0_readAt_39 rfl (lv_at hl 0 rfl) ?_
    refine lv_if_ne (tgt := 67) hx hb dX0_readAt_40 (by decide) (fun c12 => ?_) (fun c12 => ?_)
    · have hf := o_ifn hf c12
      exact L_67 t_decree t_holds t_spoke t_hoarse x1 x2 s0 _ _ _ hf hP hD hS (lv_sub hl [1, 2, 3, 0] rfl)
    have hf := o_ifp hf c12
    refine lv_aload_n hx hb dX0_readAt_43 rfl (lv_at hl 1 rfl) ?_
    refine g_get hX hiX0 hP 0 rfl rfl 1 (by decide) hk5 rfl rfl dX0_readAt_44 ?_
    refine g_getN hX hiX6 hP 1 rfl rfl 6 (by decide) (nw_35 hN) rfl rfl dX0_readAt_47 ?_
    refine lv_iload_n hx hb dX0_readAt_50 rfl (lv_at hl 2 rfl) ?_
    obtain ⟨o13, ho13, hf⟩ := o_bd hf
    refine call_iSN hX (c_X10_has l D a t now_colds x1 o13 ho13) (va_cnB 2 hts gX0_readAt_X10_has_n67 rfl rfl rfl (nw_69 hN) hk15 hdS_X10_has ⟨by decide, by decide⟩) hk17 (Cut.none hA hP hD hS) hS rfl hl.1 rfl (Nat.le_of_ble_eq_true rfl) dX0_readAt_51 (by decide) (fun H locs hP hD hS => ?_)
    refine lv_if_eq (tgt := 67) hx hb dX0_readAt_54 (by decide) (fun c14 => ?_) (fun c14 => ?_)
    · have hf := o_ifp hf c14
      exact L_67 t_decree t_holds t_spoke t_hoarse x1 x2 s0 _ _ _ hf hP hD hS (lv_sub hl [1, 2, 3, 0] rfl)
    have hf := o_ifn hf c14
    refine lv_aload_n hx hb dX0_readAt_57 rfl (lv_at hl 1 rfl) ?_
    refine lv_iload_n hx hb dX0_readAt_58 rfl (lv_at hl 2 rfl) ?_
    refine lv_aload_n hx hb dX0_readAt_59 rfl (lv_at hl 1 rfl) ?_
    refine g_get hX hiX0 hP 0 rfl rfl 2 (by decide) hk1 rfl rfl dX0_readAt_60 ?_
    obtain ⟨o15, ho15, hf⟩ := o_bd hf
    refine call_iV (q0 := 0) (ci := 0) hX (c_X0_speakersAt l D a t q_t q_ring q_now t_silenced t_liars t_decree t_holds t_spoke t_hoarse now_rounds now_months now_law now_holds now_hoarse now_keptIn now_colds q_now_places ring_clauses ring_corners ring_hearers ring_firstColds q_ring_beers q_ring_firstPlaces q_ring_pinches q_ring_sayings now_places ring_pinches x1 t_silenced o15 ho15) (cwV 2 hts gX0_readAt_X0_speakersAt rfl rfl rfl hdV_X0_speakersAt ⟨by decide, by decide⟩) (Cut.of hA hP hD hS [0, 1, 2, 3, 4] (by decide) rfl rfl (W' := [(q_t, .inr (0, [.ref q_ring, .ref q_now, .int t_silenced, .int t_liars, .int t_decree, .int t_holds, .int t_spoke, .int t_hoarse])), (q_now, .inr (6, [.int now_rounds, .int now_months, .int now_law, .int now_holds, .int now_hoarse, .int now_keptIn, .int now_colds, .ref q_now_places])), (q_ring, .inr (7, [.int ring_clauses, .int ring_corners, .int ring_hearers, .int ring_firstColds, .ref q_ring_beers, .ref q_ring_firstPlaces, .ref q_ring_pinches, .ref q_ring_sayings])), (q_now_places, .inl (a 0, 9, .inl now_places)), (q_ring_pinches, .inl (a 0, 9, .inl ring_pinches)), (q_ring_sayings, .inl (a 0, 9, .inl ring_sayings))]) rfl) hS rfl rfl rfl hl.1 rfl (Nat.le_of_ble_eq_true rfl) dX0_readAt_63 (by decide) (fun H locs hP hD hS => ?_)
    have hP : va_P D vwCl [(q_t, .inr (0, [.ref q_ring, .ref q_now, .int t_silenced, .int t_liars, .int t_decree, .int t_holds, .int t_spoke, .int t_hoarse])), (q_now, .inr (6, [.int now_rounds, .int now_months, .int now_law, .int now_holds, .int now_hoarse, .int now_keptIn, .int now_colds, .ref q_now_places])), (q_ring, .inr (7, [.int ring_clauses, .int ring_corners, .int ring_hearers, .int ring_firstColds, .ref q_ring_beers, .ref q_ring_firstPlaces, .ref q_ring_pinches, .ref q_ring_sayings])), (q_now_places, .inl (a 0, 9, .inl now_places)), (q_ring_pinches, .inl (a 0, 9, .inl ring_pinches)), (q_ring_sayings, .inl (a 0, 9, .inl ring_sayings))] H := hP
    have hD : va_D A [(q_t, .inr (0, [.ref q_ring, .ref q_now, .int t_silenced, .int t_liars, .int t_decree, .int t_holds, .int t_spoke, .int t_hoarse])), (q_now, .inr (6, [.int now_rounds, .int now_months, .int now_law, .int now_holds, .int now_hoarse, .int now_keptIn, .int now_colds, .ref q_now_places])), (q_ring, .inr (7, [.int ring_clauses, .int ring_corners, .int ring_hearers, .int ring_firstColds, .ref q_ring_beers, .ref q_ring_firstPlaces, .ref q_ring_pinches, .ref q_ring_sayings])), (q_now_places, .inl (a 0, 9, .inl now_places)), (q_ring_pinches, .inl (a 0, 9, .inl ring_pinches)), (q_ring_sayings, .inl (a 0, 9, .inl ring_sayings))] := hD
    refine lv_istore_n (lv' := [(2, .int o15), (3, .int s0), (0, .ref q_t), (1, .int x1)]) hx hb dX0_readAt_66 rfl hl (by decide) rfl (fun ls hl => ?_)
    exact L_67 t_decree t_holds t_spoke t_hoarse x1 o15 s0 _ _ _ hf hP hD hS (lv_sub hl [2, 3, 0, 1] rfl)
  unfold f_X0_readAt at hf
  refine lv_aload_n hx hb dX0_readAt_0 rfl (lv_at hl 0 rfl) ?_
  refine lv_iload_n hx hb dX0_readAt_1 rfl (lv_at hl 1 rfl) ?_
  refine lv_aload_n hx hb dX0_readAt_2 rfl (lv_at hl 0 rfl) ?_
  refine g_get hX hiX0 hP 0 rfl rfl 2 (by decide) hk1 rfl rfl dX0_readAt_3 ?_
  refine lv_aload_n hx hb dX0_readAt_6 rfl (lv_at hl 0 rfl) ?_
  refine g_get hX hiX0 hP 0 rfl rfl 7 (by decide) hk2 rfl rfl dX0_readAt_7 ?_
  refine lv_ior hx hb dX0_readAt_10 ?_
  obtain ⟨o16, ho16, hf⟩ := o_bd hf
  refine call_iV (q0 := 0) (ci := 0) hX (c_X0_speakersAt l D a t q_t q_ring q_now t_silenced t_liars t_decree t_holds t_spoke t_hoarse now_rounds now_months now_law now_holds now_hoarse now_keptIn now_colds q_now_places ring_clauses ring_corners ring_hearers ring_firstColds q_ring_beers q_ring_firstPlaces q_ring_pinches q_ring_sayings now_places ring_pinches x1 (t_silenced ||| t_hoarse) o16 ho16) (cwV 2 hts gX0_readAt_X0_speakersAt rfl rfl rfl hdV_X0_speakersAt ⟨by decide, by decide⟩) (Cut.of hA hP hD hS [0, 1, 2, 3, 4] (by decide) rfl rfl (W' := [(q_t, .inr (0, [.ref q_ring, .ref q_now, .int t_silenced, .int t_liars, .int t_decree, .int t_holds, .int t_spoke, .int t_hoarse])), (q_now, .inr (6, [.int now_rounds, .int now_months, .int now_law, .int now_holds, .int now_hoarse, .int now_keptIn, .int now_colds, .ref q_now_places])), (q_ring, .inr (7, [.int ring_clauses, .int ring_corners, .int ring_hearers, .int ring_firstColds, .ref q_ring_beers, .ref q_ring_firstPlaces, .ref q_ring_pinches, .ref q_ring_sayings])), (q_now_places, .inl (a 0, 9, .inl now_places)), (q_ring_pinches, .inl (a 0, 9, .inl ring_pinches)), (q_ring_sayings, .inl (a 0, 9, .inl ring_sayings))]) rfl) hS rfl rfl rfl hl.1 rfl (Nat.le_of_ble_eq_true rfl) dX0_readAt_11 (by decide) (fun H locs hP hD hS => ?_)
  have hP : va_P D vwCl [(q_t, .inr (0, [.ref q_ring, .ref q_now, .int t_silenced, .int t_liars, .int t_decree, .int t_holds, .int t_spoke, .int t_hoarse])), (q_now, .inr (6, [.int now_rounds, .int now_months, .int now_law, .int now_holds, .int now_hoarse, .int now_keptIn, .int now_colds, .ref q_now_places])), (q_ring, .inr (7, [.int ring_clauses, .int ring_corners, .int ring_hearers, .int ring_firstColds, .ref q_ring_beers, .ref q_ring_firstPlaces, .ref q_ring_pinches, .ref q_ring_sayings])), (q_now_places, .inl (a 0, 9, .inl now_places)), (q_ring_pinches, .inl (a 0, 9, .inl ring_pinches)), (q_ring_sayings, .inl (a 0, 9, .inl ring_sayings))] H := hP
  have hD : va_D A [(q_t, .inr (0, [.ref q_ring, .ref q_now, .int t_silenced, .int t_liars, .int t_decree, .int t_holds, .int t_spoke, .int t_hoarse])), (q_now, .inr (6, [.int now_rounds, .int now_months, .int now_law, .int now_holds, .int now_hoarse, .int now_keptIn, .int now_colds, .ref q_now_places])), (q_ring, .inr (7, [.int ring_clauses, .int ring_corners, .int ring_hearers, .int ring_firstColds, .ref q_ring_beers, .ref q_ring_firstPlaces, .ref q_ring_pinches, .ref q_ring_sayings])), (q_now_places, .inl (a 0, 9, .inl now_places)), (q_ring_pinches, .inl (a 0, 9, .inl ring_pinches)), (q_ring_sayings, .inl (a 0, 9, .inl ring_sayings))] := hD
  refine lv_istore_n (lv' := [(2, .int o16), (0, .ref q_t), (1, .int x1)]) hx hb dX0_readAt_14 rfl hl (by decide) rfl (fun ls hl => ?_)
  refine lv_aload_n hx hb dX0_readAt_15 rfl (lv_at hl 1 rfl) ?_
  refine g_get hX hiX0 hP 0 rfl rfl 4 (by decide) hk3 rfl rfl dX0_readAt_16 ?_
  refine lv_if_eq (tgt := 33) hx hb dX0_readAt_19 (by decide) (fun c17 => ?_) (fun c17 => ?_)
  · have hf := o_ifp hf c17
    refine lv_iconst (v := (0 : Int32)) hx hb dX0_readAt_33 (by decide) ?_
    exact L_34 t_decree t_holds t_spoke t_hoarse x1 o16 (0 : Int32) _ _ _ hf hP hD hS (lv_sub hl [1, 2, 0] rfl)
  have hf := o_ifn hf c17
  refine lv_aload_n hx hb dX0_readAt_22 rfl (lv_at hl 1 rfl) ?_
  refine g_get hX hiX0 hP 0 rfl rfl 3 (by decide) hk4 rfl rfl dX0_readAt_23 ?_
  refine lv_iload_n hx hb dX0_readAt_26 rfl (lv_at hl 2 rfl) ?_
  obtain ⟨o18, ho18, hf⟩ := o_bd hf
  refine call_iSN hX (c_X10_bit l D a t t_liars x1 o18 ho18) (va_cnB 2 hts gX0_readAt_X10_bit_n59 rfl rfl rfl (nw_70 hN) hk15 hdS_X10_bit ⟨by decide, by decide⟩) hk19 (Cut.none hA hP hD hS) hS rfl hl.1 rfl (Nat.le_of_ble_eq_true rfl) dX0_readAt_27 (by decide) (fun H locs hP hD hS => ?_)
  refine lv_goto (tgt := 34) hx hb dX0_readAt_30 (by decide) ?_
  exact L_34 t_decree t_holds t_spoke t_hoarse x1 o16 o18 _ _ _ hf hP hD hS (lv_sub hl [1, 2, 0] rfl)
def f_X0_goRound_2 (t_silenced : Int32) (t_liars : Int32) (now_colds : Int32) (ring_clauses : Int32) (ring_corners : Int32) (ring_hearers : Int32) (now_places : Nat → Int32) (ring_pinches : Nat → Int32) (ring_sayings : Nat → Int32) : Nat → Int32 → Int32 → Int32 → Int32 → Int32 → Int32 → Int32 → Option (Int32 × Int32 × Int32 × Int32)
  | 0, _, _, _, _, _, _, _ => none
  | n_2 + 1, t_decree, t_holds, t_spoke, t_hoarse, x1, x2, x3 =>
    if ring_corners ≤ x3 then (some (t_decree, t_holds, t_spoke, t_hoarse))
    else ((f_X0_cornerOf ring_corners x1 x2 x3).bind fun o2 =>
    (f_X0_readAt t_silenced t_liars t_decree t_holds t_spoke t_hoarse now_colds ring_clauses ring_hearers now_places ring_pinches ring_sayings o2).bind fun o3 =>
    o_nm (x3 + (1 : Int32)) fun v4 =>
    f_X0_goRound_2 t_silenced t_liars now_colds ring_clauses ring_corners ring_hearers now_places ring_pinches ring_sayings n_2 o3.2.1 o3.2.2.1 o3.2.2.2.1 o3.2.2.2.2 x1 x2 v4)
def f_X0_goRound (t_silenced : Int32) (t_liars : Int32) (t_decree : Int32) (t_holds : Int32) (t_spoke : Int32) (t_hoarse : Int32) (now_colds : Int32) (ring_clauses : Int32) (ring_corners : Int32) (ring_hearers : Int32) (now_places : Nat → Int32) (ring_pinches : Nat → Int32) (ring_sayings : Nat → Int32) (x1 : Int32) (x2 : Int32) : Option (Int32 × Int32 × Int32 × Int32) :=
  f_X0_goRound_2 t_silenced t_liars now_colds ring_clauses ring_corners ring_hearers now_places ring_pinches ring_sayings 1000 t_decree t_holds t_spoke t_hoarse x1 x2 (0 : Int32)
theorem hdS_X0_goRound : yX0_goRound.cls ≠ "java/lang/invoke/MethodHandle" ∧ yX0_goRound.cls ≠ "java/lang/invoke/VarHandle" ∧ (parseMethodDescriptor yX0_goRound.desc).map (fun d => d.parameters.length) = some 2 := by decide +kernel
theorem hdV_X0_goRound : yX0_goRound.cls = RX0 ∧ yX0_goRound.cls ≠ "java/lang/invoke/MethodHandle" ∧ yX0_goRound.cls ≠ "java/lang/invoke/VarHandle" ∧ (parseMethodDescriptor yX0_goRound.desc).map (fun d => d.parameters.length) = some 2 := ⟨rfl, hdS_X0_goRound⟩
set_option maxHeartbeats 4000000 in
set_option maxRecDepth 100000 in
theorem c_X0_goRound (l : Launch) (D : va_G) (a : Nat → ClassId) (t : Nat) (q_t : Nat) (q_ring : Nat) (q_now : Nat) (t_silenced : Int32) (t_liars : Int32) (t_decree : Int32) (t_holds : Int32) (t_spoke : Int32) (t_hoarse : Int32) (now_rounds : Int32) (now_months : Int32) (now_law : Int32) (now_holds : Int32) (now_hoarse : Int32) (now_keptIn : Int32) (now_colds : Int32) (q_now_places : Nat) (ring_clauses : Int32) (ring_corners : Int32) (ring_hearers : Int32) (ring_firstColds : Int32) (q_ring_beers : Nat) (q_ring_firstPlaces : Nat) (q_ring_pinches : Nat) (q_ring_sayings : Nat) (now_places : Nat → Int32) (ring_pinches : Nat → Int32) (ring_sayings : Nat → Int32) (x1 : Int32) (x2 : Int32) (o_t_decree : Int32) (o_t_holds : Int32) (o_t_spoke : Int32) (o_t_hoarse : Int32) (hf : f_X0_goRound t_silenced t_liars t_decree t_holds t_spoke t_hoarse now_colds ring_clauses ring_corners ring_hearers now_places ring_pinches ring_sayings x1 x2 = some (o_t_decree, o_t_holds, o_t_spoke, o_t_hoarse)) : Kv l yX0_goRound wsX0_goRound 3 69 D a t [.ref q_t, .int x1, .int x2] [(q_t, .inr (0, [.ref q_ring, .ref q_now, .int t_silenced, .int t_liars, .int t_decree, .int t_holds, .int t_spoke, .int t_hoarse])), (q_now, .inr (6, [.int now_rounds, .int now_months, .int now_law, .int now_holds, .int now_hoarse, .int now_keptIn, .int now_colds, .ref q_now_places])), (q_ring, .inr (7, [.int ring_clauses, .int ring_corners, .int ring_hearers, .int ring_firstColds, .ref q_ring_beers, .ref q_ring_firstPlaces, .ref q_ring_pinches, .ref q_ring_sayings])), (q_now_places, .inl (a 0, 9, .inl now_places)), (q_ring_pinches, .inl (a 0, 9, .inl ring_pinches)), (q_ring_sayings, .inl (a 0, 9, .inl ring_sayings))] [(q_t, .inr (0, [.ref q_ring, .ref q_now, .int t_silenced, .int t_liars, .int o_t_decree, .int o_t_holds, .int o_t_spoke, .int o_t_hoarse])), (q_now, .inr (6, [.int now_rounds, .int now_months, .int now_law, .int now_holds, .int now_hoarse, .int now_keptIn, .int now_colds, .ref q_now_places])), (q_ring, .inr (7, [.int ring_clauses, .int ring_corners, .int ring_hearers, .int ring_firstColds, .ref q_ring_beers, .ref q_ring_firstPlaces, .ref q_ring_pinches, .ref q_ring_sayings])), (q_now_places, .inl (a 0, 9, .inl now_places)), (q_ring_pinches, .inl (a 0, 9, .inl ring_pinches)), (q_ring_sayings, .inl (a 0, 9, .inl ring_sayings))] := by
  refine Kv.mk (cc := cX0_goRound) (nL := 4) (own := RX0) (by decide) rfl rfl (Nat.le_of_ble_eq_true rfl) ?_
  intro p e s m args below meth c A Q ls hX hP hD hS hl hret
  have hx := hX.1.1
  have hb := hX.1.2.1
  have hown := hX.1.2.2.2.1
  have hts := hX.1.2.2.2.2
  have hN := hX.2.2.1
  have hA := hX.2.2.2.2
  have hl : lv_has ls 4 [(0, .ref q_t), (1, .int x1), (2, .int x2)] := hl
  have hk1 := hts (.fieldLink RX0 7 "GainsaidOnce$Crier" "ring" "LGainsaidOnce$Town;") (List.mem_of_getElem? (i := 1) rfl)
  have hiX0 : ∀ w ∈ wsX00, w ∈ wsX0_goRound := (fun _ h => List.mem_cons_of_mem _ (List.mem_append_left _ (List.mem_append_left _ (List.mem_append_right _ h))))
  have hiX7 : ∀ w ∈ wsX70, w ∈ wsX0_goRound := (fun _ h => List.mem_cons_of_mem _ (List.mem_append_left _ (List.mem_append_right _ h)))
  have L_2 : ∀ (n_2 : Nat) (t_decree : Int32) (t_holds : Int32) (t_spoke : Int32) (t_hoarse : Int32) (x1 : Int32) (x2 : Int32) (x3 : Int32) (H : Heap) (locs : List Loc) (ls : Array Slot), f_X0_goRound_2 t_silenced t_liars now_colds ring_clauses ring_corners ring_hearers now_places ring_pinches ring_sayings n_2 t_decree t_holds t_spoke t_hoarse x1 x2 x3 = some (o_t_decree, o_t_holds, o_t_spoke, o_t_hoarse) → va_P D vwCl [(q_t, .inr (0, [.ref q_ring, .ref q_now, .int t_silenced, .int t_liars, .int t_decree, .int t_holds, .int t_spoke, .int t_hoarse])), (q_now, .inr (6, [.int now_rounds, .int now_months, .int now_law, .int now_holds, .int now_hoarse, .int now_keptIn, .int now_colds, .ref q_now_places])), (q_ring, .inr (7, [.int ring_clauses, .int ring_corners, .int ring_hearers, .int ring_firstColds, .ref q_ring_beers, .ref q_ring_firstPlaces, .ref q_ring_pinches, .ref q_ring_sayings])), (q_now_places, .inl (a 0, 9, .inl now_places)), (q_ring_pinches, .inl (a 0, 9, .inl ring_pinches)), (q_ring_sayings, .inl (a 0, 9, .inl ring_sayings))] H → va_D A [(q_t, .inr (0, [.ref q_ring, .ref q_now, .int t_silenced, .int t_liars, .int t_decree, .int t_holds, .int t_spoke, .int t_hoarse])), (q_now, .inr (6, [.int now_rounds, .int now_months, .int now_law, .int now_holds, .int now_hoarse, .int now_keptIn, .int now_colds, .ref q_now_places])), (q_ring, .inr (7, [.int ring_clauses, .int ring_corners, .int ring_hearers, .int ring_firstColds, .ref q_ring_beers, .ref q_ring_firstPlaces, .ref q_ring_pinches, .ref q_ring_sayings])), (q_now_places, .inl (a 0, 9, .inl now_places)), (q_ring_pinches, .inl (a 0, 9, .inl ring_pinches)), (q_ring_sayings, .inl (a 0, 9, .inl ring_sayings))] → va_S A s.heap H locs → lv_has ls 4 [(0, .ref q_t), (1, .int x1), (2, .int x2), (3, .int x3)] → W p l e { frames := 3, cells := 0, slots := 0, locals := 69 } s m args below meth c H locs 0 0 Q (F0 m 2 ls []) := by
    intro n_2
    induction n_2 with
    | zero => intro t_decree t_holds t_spoke t_hoarse x1 x2 x3 H locs ls hf hP hD hS hl; rw [f_X0_goRound_2] at hf; cases hf
    | succ n_2 ih_2 =>
      intro t_decree t_holds t_spoke t_hoarse x1 x2 x3 H locs ls hf hP hD hS hl
      rw [f_X0_goRound_2] at hf
      refine lv_iload_n hx hb dX0_goRound_2 rfl (lv_at hl 3 rfl) ?_
      refine lv_aload_n hx hb dX0_goRound_3 rfl (lv_at hl 0 rfl) ?_
      refine g_get hX hiX0 hP 0 rfl rfl 0 (by decide) hk1 rfl rfl dX0_goRound_4 ?_
      refine g_getN hX hiX7 hP 2 rfl rfl 1 (by decide) (nw_10 hN) rfl rfl dX0_goRound_7 ?_
      refine lv_icmp_ge (tgt := 31) hx hb dX0_goRound_10 (by decide) (fun c1 => ?_) (fun c1 => ?_)
      · have hf := o_ifp hf c1
        cases hf
        exact hret _ _ _ _ hP hD hS dX0_goRound_31
      have hf := o_ifn hf c1
      refine lv_aload_n hx hb dX0_goRound_13 rfl (lv_at hl 0 rfl) ?_
      refine lv_aload_n hx hb dX0_goRound_14 rfl (lv_at hl 0 rfl) ?_
      refine lv_iload_n hx hb dX0_goRound_15 rfl (lv_at hl 1 rfl) ?_
      refine lv_iload_n hx hb dX0_goRound_16 rfl (lv_at hl 2 rfl) ?_
      refine lv_iload_n hx hb dX0_goRound_17 rfl (lv_at hl 3 rfl) ?_
      obtain ⟨o2, ho2, hf⟩ := o_bd hf
      refine call_iV (q0 := 0) (ci := 0) hX (c_X0_cornerOf l D a t q_t q_ring q_now t_silenced t_liars t_decree t_holds t_spoke t_hoarse ring_clauses ring_corners ring_hearers ring_firstColds q_ring_beers q_ring_firstPlaces q_ring_pinches q_ring_sayings x1 x2 x3 o2 ho2) (cwV 3 hts gX0_goRound_X0_cornerOf rfl rfl rfl hdV_X0_cornerOf ⟨by decide, by decide⟩) (Cut.of hA hP hD hS [0, 2] (by decide) rfl rfl (W' := [(q_t, .inr (0, [.ref q_ring, .ref q_now, .int t_silenced, .int t_liars, .int t_decree, .int t_holds, .int t_spoke, .int t_hoarse])), (q_now, .inr (6, [.int now_rounds, .int now_months, .int now_law, .int now_holds, .int now_hoarse, .int now_keptIn, .int now_colds, .ref q_now_places])), (q_ring, .inr (7, [.int ring_clauses, .int ring_corners, .int ring_hearers, .int ring_firstColds, .ref q_ring_beers, .ref q_ring_firstPlaces, .ref q_ring_pinches, .ref q_ring_sayings])), (q_now_places, .inl (a 0, 9, .inl now_places)), (q_ring_pinches, .inl (a 0, 9, .inl ring_pinches)), (q_ring_sayings, .inl (a 0, 9, .inl ring_sayings))]) rfl) hS rfl rfl rfl hl.1 rfl (Nat.le_of_ble_eq_true rfl) dX0_goRound_18 (by decide) (fun H locs hP hD hS => ?_)
      have hP : va_P D vwCl [(q_t, .inr (0, [.ref q_ring, .ref q_now, .int t_silenced, .int t_liars, .int t_decree, .int t_holds, .int t_spoke, .int t_hoarse])), (q_now, .inr (6, [.int now_rounds, .int now_months, .int now_law, .int now_holds, .int now_hoarse, .int now_keptIn, .int now_colds, .ref q_now_places])), (q_ring, .inr (7, [.int ring_clauses, .int ring_corners, .int ring_hearers, .int ring_firstColds, .ref q_ring_beers, .ref q_ring_firstPlaces, .ref q_ring_pinches, .ref q_ring_sayings])), (q_now_places, .inl (a 0, 9, .inl now_places)), (q_ring_pinches, .inl (a 0, 9, .inl ring_pinches)), (q_ring_sayings, .inl (a 0, 9, .inl ring_sayings))] H := hP
      have hD : va_D A [(q_t, .inr (0, [.ref q_ring, .ref q_now, .int t_silenced, .int t_liars, .int t_decree, .int t_holds, .int t_spoke, .int t_hoarse])), (q_now, .inr (6, [.int now_rounds, .int now_months, .int now_law, .int now_holds, .int now_hoarse, .int now_keptIn, .int now_colds, .ref q_now_places])), (q_ring, .inr (7, [.int ring_clauses, .int ring_corners, .int ring_hearers, .int ring_firstColds, .ref q_ring_beers, .ref q_ring_firstPlaces, .ref q_ring_pinches, .ref q_ring_sayings])), (q_now_places, .inl (a 0, 9, .inl now_places)), (q_ring_pinches, .inl (a 0, 9, .inl ring_pinches)), (q_ring_sayings, .inl (a 0, 9, .inl ring_sayings))] := hD
      obtain ⟨o3, ho3, hf⟩ := o_bd hf
      refine call_iV (q0 := 0) (ci := 0) hX (c_X0_readAt l D a t q_t q_ring q_now t_silenced t_liars t_decree t_holds t_spoke t_hoarse now_rounds now_months now_law now_holds now_hoarse now_keptIn now_colds q_now_places ring_clauses ring_corners ring_hearers ring_firstColds q_ring_beers q_ring_firstPlaces q_ring_pinches q_ring_sayings now_places ring_pinches ring_sayings o2 o3.1 o3.2.1 o3.2.2.1 o3.2.2.2.1 o3.2.2.2.2 ho3) (cwV 1 hts gX0_goRound_X0_readAt rfl rfl rfl hdV_X0_readAt ⟨by decide, by decide⟩) (Cut.of hA hP hD hS [0, 1, 2, 3, 4, 5] (by decide) rfl rfl (W' := [(q_t, .inr (0, [.ref q_ring, .ref q_now, .int t_silenced, .int t_liars, .int o3.2.1, .int o3.2.2.1, .int o3.2.2.2.1, .int o3.2.2.2.2])), (q_now, .inr (6, [.int now_rounds, .int now_months, .int now_law, .int now_holds, .int now_hoarse, .int now_keptIn, .int now_colds, .ref q_now_places])), (q_ring, .inr (7, [.int ring_clauses, .int ring_corners, .int ring_hearers, .int ring_firstColds, .ref q_ring_beers, .ref q_ring_firstPlaces, .ref q_ring_pinches, .ref q_ring_sayings])), (q_now_places, .inl (a 0, 9, .inl now_places)), (q_ring_pinches, .inl (a 0, 9, .inl ring_pinches)), (q_ring_sayings, .inl (a 0, 9, .inl ring_sayings))]) rfl) hS rfl rfl rfl hl.1 rfl (Nat.le_of_ble_eq_true rfl) dX0_goRound_21 (by decide) (fun H locs hP hD hS => ?_)
      have hP : va_P D vwCl [(q_t, .inr (0, [.ref q_ring, .ref q_now, .int t_silenced, .int t_liars, .int o3.2.1, .int o3.2.2.1, .int o3.2.2.2.1, .int o3.2.2.2.2])), (q_now, .inr (6, [.int now_rounds, .int now_months, .int now_law, .int now_holds, .int now_hoarse, .int now_keptIn, .int now_colds, .ref q_now_places])), (q_ring, .inr (7, [.int ring_clauses, .int ring_corners, .int ring_hearers, .int ring_firstColds, .ref q_ring_beers, .ref q_ring_firstPlaces, .ref q_ring_pinches, .ref q_ring_sayings])), (q_now_places, .inl (a 0, 9, .inl now_places)), (q_ring_pinches, .inl (a 0, 9, .inl ring_pinches)), (q_ring_sayings, .inl (a 0, 9, .inl ring_sayings))] H := hP
      have hD : va_D A [(q_t, .inr (0, [.ref q_ring, .ref q_now, .int t_silenced, .int t_liars, .int o3.2.1, .int o3.2.2.1, .int o3.2.2.2.1, .int o3.2.2.2.2])), (q_now, .inr (6, [.int now_rounds, .int now_months, .int now_law, .int now_holds, .int now_hoarse, .int now_keptIn, .int now_colds, .ref q_now_places])), (q_ring, .inr (7, [.int ring_clauses, .int ring_corners, .int ring_hearers, .int ring_firstColds, .ref q_ring_beers, .ref q_ring_firstPlaces, .ref q_ring_pinches, .ref q_ring_sayings])), (q_now_places, .inl (a 0, 9, .inl now_places)), (q_ring_pinches, .inl (a 0, 9, .inl ring_pinches)), (q_ring_sayings, .inl (a 0, 9, .inl ring_sayings))] := hD
      refine lv_pop hx hb dX0_goRound_24 rfl ?_
      obtain ⟨v4, ev4⟩ : ∃ y : Int32, y = x3 + (1 : Int32) := ⟨_, rfl⟩
      have hf := o_nmh hf v4 ev4
      refine lv_iinc (v := v4) (lv' := [(3, .int v4), (0, .ref q_t), (1, .int x1), (2, .int x2)]) hx hb dX0_goRound_25 hl (k := 3) rfl (by rw [ev4]; rfl) (by decide) rfl (fun ls hl => ?_)
      refine lv_goto (tgt := 2) hx hb dX0_goRound_28 (by decide) ?_
      exact ih_2 o3.2.1 o3.2.2.1 o3.2.2.2.1 o3.2.2.2.2 x1 x2 v4 _ _ _ hf hP hD hS (lv_sub hl [1, 2, 3, 0] rfl)
  unfold f_X0_goRound at hf
  refine lv_iconst (v := (0 : Int32)) hx hb dX0_goRound_0 (by decide) ?_
  refine lv_istore_n (lv' := [(3, .int (0 : Int32)), (0, .ref q_t), (1, .int x1), (2, .int x2)]) hx hb dX0_goRound_1 rfl hl (by decide) rfl (fun ls hl => ?_)
  exact L_2 1000 t_decree t_holds t_spoke t_hoarse x1 x2 (0 : Int32) _ _ _ hf hP hD hS (lv_sub hl [1, 2, 3, 0] rfl)
def f_X0_holdsAllRound_5 (t_silenced : Int32) (t_liars : Int32) (now_colds : Int32) (ring_clauses : Int32) (ring_corners : Int32) (ring_hearers : Int32) (now_places : Nat → Int32) (ring_pinches : Nat → Int32) (ring_sayings : Nat → Int32) : Nat → Int32 → Int32 → Int32 → Int32 → Int32 → Int32 → Int32 → Int32 → Option (Int32 × Int32 × Int32 × Int32 × Int32)
  | 0, _, _, _, _, _, _, _, _ => none
  | n_5 + 1, t_decree, t_holds, t_spoke, t_hoarse, x1, x2, x3, x4 =>
    if ring_corners ≤ x4 then ((o_zb x3).bind fun _ =>
    some (x3, t_decree, t_holds, t_spoke, t_hoarse))
    else (if x3 = 0 then ((o_zb x3).bind fun _ =>
    some (x3, t_decree, t_holds, t_spoke, t_hoarse))
    else ((f_X0_cornerOf ring_corners x1 x2 x4).bind fun o3 =>
    (f_X0_readAt t_silenced t_liars t_decree t_holds t_spoke t_hoarse now_colds ring_clauses ring_hearers now_places ring_pinches ring_sayings o3).bind fun o4 =>
    o_nm (x4 + (1 : Int32)) fun v5 =>
    f_X0_holdsAllRound_5 t_silenced t_liars now_colds ring_clauses ring_corners ring_hearers now_places ring_pinches ring_sayings n_5 o4.2.1 o4.2.2.1 o4.2.2.2.1 o4.2.2.2.2 x1 x2 o4.1 v5))
def f_X0_holdsAllRound (t_silenced : Int32) (t_liars : Int32) (t_decree : Int32) (t_holds : Int32) (t_spoke : Int32) (t_hoarse : Int32) (now_colds : Int32) (ring_clauses : Int32) (ring_corners : Int32) (ring_hearers : Int32) (now_places : Nat → Int32) (ring_pinches : Nat → Int32) (ring_sayings : Nat → Int32) (x1 : Int32) (x2 : Int32) : Option (Int32 × Int32 × Int32 × Int32 × Int32) :=
  f_X0_holdsAllRound_5 t_silenced t_liars now_colds ring_clauses ring_corners ring_hearers now_places ring_pinches ring_sayings 1000 t_decree t_holds t_spoke t_hoarse x1 x2 (1 : Int32) (0 : Int32)
theorem hdS_X0_holdsAllRound : yX0_holdsAllRound.cls ≠ "java/lang/invoke/MethodHandle" ∧ yX0_holdsAllRound.cls ≠ "java/lang/invoke/VarHandle" ∧ (parseMethodDescriptor yX0_holdsAllRound.desc).map (fun d => d.parameters.length) = some 2 := by decide +kernel
theorem hdV_X0_holdsAllRound : yX0_holdsAllRound.cls = RX0 ∧ yX0_holdsAllRound.cls ≠ "java/lang/invoke/MethodHandle" ∧ yX0_holdsAllRound.cls ≠ "java/lang/invoke/VarHandle" ∧ (parseMethodDescriptor yX0_holdsAllRound.desc).map (fun d => d.parameters.length) = some 2 := ⟨rfl, hdS_X0_holdsAllRound⟩
set_option maxHeartbeats 4000000 in
set_option maxRecDepth 100000 in
theorem c_X0_holdsAllRound (l : Launch) (D : va_G) (a : Nat → ClassId) (t : Nat) (q_t : Nat) (q_ring : Nat) (q_now : Nat) (t_silenced : Int32) (t_liars : Int32) (t_decree : Int32) (t_holds : Int32) (t_spoke : Int32) (t_hoarse : Int32) (now_rounds : Int32) (now_months : Int32) (now_law : Int32) (now_holds : Int32) (now_hoarse : Int32) (now_keptIn : Int32) (now_colds : Int32) (q_now_places : Nat) (ring_clauses : Int32) (ring_corners : Int32) (ring_hearers : Int32) (ring_firstColds : Int32) (q_ring_beers : Nat) (q_ring_firstPlaces : Nat) (q_ring_pinches : Nat) (q_ring_sayings : Nat) (now_places : Nat → Int32) (ring_pinches : Nat → Int32) (ring_sayings : Nat → Int32) (x1 : Int32) (x2 : Int32) (r : Int32) (o_t_decree : Int32) (o_t_holds : Int32) (o_t_spoke : Int32) (o_t_hoarse : Int32) (hf : f_X0_holdsAllRound t_silenced t_liars t_decree t_holds t_spoke t_hoarse now_colds ring_clauses ring_corners ring_hearers now_places ring_pinches ring_sayings x1 x2 = some (r, o_t_decree, o_t_holds, o_t_spoke, o_t_hoarse)) : Ki l yX0_holdsAllRound wsX0_holdsAllRound 3 69 D a t [.ref q_t, .int x1, .int x2] [(q_t, .inr (0, [.ref q_ring, .ref q_now, .int t_silenced, .int t_liars, .int t_decree, .int t_holds, .int t_spoke, .int t_hoarse])), (q_now, .inr (6, [.int now_rounds, .int now_months, .int now_law, .int now_holds, .int now_hoarse, .int now_keptIn, .int now_colds, .ref q_now_places])), (q_ring, .inr (7, [.int ring_clauses, .int ring_corners, .int ring_hearers, .int ring_firstColds, .ref q_ring_beers, .ref q_ring_firstPlaces, .ref q_ring_pinches, .ref q_ring_sayings])), (q_now_places, .inl (a 0, 9, .inl now_places)), (q_ring_pinches, .inl (a 0, 9, .inl ring_pinches)), (q_ring_sayings, .inl (a 0, 9, .inl ring_sayings))] [(q_t, .inr (0, [.ref q_ring, .ref q_now, .int t_silenced, .int t_liars, .int o_t_decree, .int o_t_holds, .int o_t_spoke, .int o_t_hoarse])), (q_now, .inr (6, [.int now_rounds, .int now_months, .int now_law, .int now_holds, .int now_hoarse, .int now_keptIn, .int now_colds, .ref q_now_places])), (q_ring, .inr (7, [.int ring_clauses, .int ring_corners, .int ring_hearers, .int ring_firstColds, .ref q_ring_beers, .ref q_ring_firstPlaces, .ref q_ring_pinches, .ref q_ring_sayings])), (q_now_places, .inl (a 0, 9, .inl now_places)), (q_ring_pinches, .inl (a 0, 9, .inl ring_pinches)), (q_ring_sayings, .inl (a 0, 9, .inl ring_sayings))] r := by
  refine Ki.mk (cc := cX0_holdsAllRound) (nL := 5) (ty := .boolean) (own := RX0) (by decide) rfl rfl (Nat.le_of_ble_eq_true rfl) ?_
  intro p e s m args below meth c A Q ls hX hP hD hS hl hret
  have hx := hX.1.1
  have hb := hX.1.2.1
  have hown := hX.1.2.2.2.1
  have hts := hX.1.2.2.2.2
  have hN := hX.2.2.1
  have hA := hX.2.2.2.2
  have hl : lv_has ls 5 [(0, .ref q_t), (1, .int x1), (2, .int x2)] := hl
  have hk1 := hts (.fieldLink RX0 7 "GainsaidOnce$Crier" "ring" "LGainsaidOnce$Town;") (List.mem_of_getElem? (i := 1) rfl)
  have hiX0 : ∀ w ∈ wsX00, w ∈ wsX0_holdsAllRound := (fun _ h => List.mem_cons_of_mem _ (List.mem_append_left _ (List.mem_append_left _ (List.mem_append_right _ h))))
  have hiX7 : ∀ w ∈ wsX70, w ∈ wsX0_holdsAllRound := (fun _ h => List.mem_cons_of_mem _ (List.mem_append_left _ (List.mem_append_right _ h)))
  have L_5 : ∀ (n_5 : Nat) (t_decree : Int32) (t_holds : Int32) (t_spoke : Int32) (t_hoarse : Int32) (x1 : Int32) (x2 : Int32) (x3 : Int32) (x4 : Int32) (H : Heap) (locs : List Loc) (ls : Array Slot), f_X0_holdsAllRound_5 t_silenced t_liars now_colds ring_clauses ring_corners ring_hearers now_places ring_pinches ring_sayings n_5 t_decree t_holds t_spoke t_hoarse x1 x2 x3 x4 = some (r, o_t_decree, o_t_holds, o_t_spoke, o_t_hoarse) → va_P D vwCl [(q_t, .inr (0, [.ref q_ring, .ref q_now, .int t_silenced, .int t_liars, .int t_decree, .int t_holds, .int t_spoke, .int t_hoarse])), (q_now, .inr (6, [.int now_rounds, .int now_months, .int now_law, .int now_holds, .int now_hoarse, .int now_keptIn, .int now_colds, .ref q_now_places])), (q_ring, .inr (7, [.int ring_clauses, .int ring_corners, .int ring_hearers, .int ring_firstColds, .ref q_ring_beers, .ref q_ring_firstPlaces, .ref q_ring_pinches, .ref q_ring_sayings])), (q_now_places, .inl (a 0, 9, .inl now_places)), (q_ring_pinches, .inl (a 0, 9, .inl ring_pinches)), (q_ring_sayings, .inl (a 0, 9, .inl ring_sayings))] H → va_D A [(q_t, .inr (0, [.ref q_ring, .ref q_now, .int t_silenced, .int t_liars, .int t_decree, .int t_holds, .int t_spoke, .int t_hoarse])), (q_now, .inr (6, [.int now_rounds, .int now_months, .int now_law, .int now_holds, .int now_hoarse, .int now_keptIn, .int now_colds, .ref q_now_places])), (q_ring, .inr (7, [.int ring_clauses, .int ring_corners, .int ring_hearers, .int ring_firstColds, .ref q_ring_beers, .ref q_ring_firstPlaces, .ref q_ring_pinches, .ref q_ring_sayings])), (q_now_places, .inl (a 0, 9, .inl now_places)), (q_ring_pinches, .inl (a 0, 9, .inl ring_pinches)), (q_ring_sayings, .inl (a 0, 9, .inl ring_sayings))] → va_S A s.heap H locs → lv_has ls 5 [(0, .ref q_t), (1, .int x1), (2, .int x2), (3, .int x3), (4, .int x4)] → W p l e { frames := 3, cells := 0, slots := 0, locals := 69 } s m args below meth c H locs 0 0 Q (F0 m 5 ls []) := by
    intro n_5
    induction n_5 with
    | zero => intro t_decree t_holds t_spoke t_hoarse x1 x2 x3 x4 H locs ls hf hP hD hS hl; rw [f_X0_holdsAllRound_5] at hf; cases hf
    | succ n_5 ih_5 =>
      intro t_decree t_holds t_spoke t_hoarse x1 x2 x3 x4 H locs ls hf hP hD hS hl
      rw [f_X0_holdsAllRound_5] at hf
      refine lv_iload hx hb dX0_holdsAllRound_5 (lv_at hl 4 rfl) ?_
      refine lv_aload_n hx hb dX0_holdsAllRound_7 rfl (lv_at hl 0 rfl) ?_
      refine g_get hX hiX0 hP 0 rfl rfl 0 (by decide) hk1 rfl rfl dX0_holdsAllRound_8 ?_
      refine g_getN hX hiX7 hP 2 rfl rfl 1 (by decide) (nw_10 hN) rfl rfl dX0_holdsAllRound_11 ?_
      refine lv_icmp_ge (tgt := 40) hx hb dX0_holdsAllRound_14 (by decide) (fun c1 => ?_) (fun c1 => ?_)
      · have hf := o_ifp hf c1
        refine lv_iload_n hx hb dX0_holdsAllRound_40 rfl (lv_at hl 3 rfl) ?_
        obtain ⟨hzb, hf⟩ := o_zbh hf
        cases hf
        exact hret _ _ _ _ hzb hP hD hS dX0_holdsAllRound_41
      have hf := o_ifn hf c1
      refine lv_iload_n hx hb dX0_holdsAllRound_17 rfl (lv_at hl 3 rfl) ?_
      refine lv_if_eq (tgt := 40) hx hb dX0_holdsAllRound_18 (by decide) (fun c2 => ?_) (fun c2 => ?_)
      · have hf := o_ifp hf c2
        refine lv_iload_n hx hb dX0_holdsAllRound_40 rfl (lv_at hl 3 rfl) ?_
        obtain ⟨hzb, hf⟩ := o_zbh hf
        cases hf
        exact hret _ _ _ _ hzb hP hD hS dX0_holdsAllRound_41
      have hf := o_ifn hf c2
      refine lv_aload_n hx hb dX0_holdsAllRound_21 rfl (lv_at hl 0 rfl) ?_
      refine lv_aload_n hx hb dX0_holdsAllRound_22 rfl (lv_at hl 0 rfl) ?_
      refine lv_iload_n hx hb dX0_holdsAllRound_23 rfl (lv_at hl 1 rfl) ?_
      refine lv_iload_n hx hb dX0_holdsAllRound_24 rfl (lv_at hl 2 rfl) ?_
      refine lv_iload hx hb dX0_holdsAllRound_25 (lv_at hl 4 rfl) ?_
      obtain ⟨o3, ho3, hf⟩ := o_bd hf
      refine call_iV (q0 := 0) (ci := 0) hX (c_X0_cornerOf l D a t q_t q_ring q_now t_silenced t_liars t_decree t_holds t_spoke t_hoarse ring_clauses ring_corners ring_hearers ring_firstColds q_ring_beers q_ring_firstPlaces q_ring_pinches q_ring_sayings x1 x2 x4 o3 ho3) (cwV 3 hts gX0_holdsAllRound_X0_cornerOf rfl rfl rfl hdV_X0_cornerOf ⟨by decide, by decide⟩) (Cut.of hA hP hD hS [0, 2] (by decide) rfl rfl (W' := [(q_t, .inr (0, [.ref q_ring, .ref q_now, .int t_silenced, .int t_liars, .int t_decree, .int t_holds, .int t_spoke, .int t_hoarse])), (q_now, .inr (6, [.int now_rounds, .int now_months, .int now_law, .int now_holds, .int now_hoarse, .int now_keptIn, .int now_colds, .ref q_now_places])), (q_ring, .inr (7, [.int ring_clauses, .int ring_corners, .int ring_hearers, .int ring_firstColds, .ref q_ring_beers, .ref q_ring_firstPlaces, .ref q_ring_pinches, .ref q_ring_sayings])), (q_now_places, .inl (a 0, 9, .inl now_places)), (q_ring_pinches, .inl (a 0, 9, .inl ring_pinches)), (q_ring_sayings, .inl (a 0, 9, .inl ring_sayings))]) rfl) hS rfl rfl rfl hl.1 rfl (Nat.le_of_ble_eq_true rfl) dX0_holdsAllRound_27 (by decide) (fun H locs hP hD hS => ?_)
      have hP : va_P D vwCl [(q_t, .inr (0, [.ref q_ring, .ref q_now, .int t_silenced, .int t_liars, .int t_decree, .int t_holds, .int t_spoke, .int t_hoarse])), (q_now, .inr (6, [.int now_rounds, .int now_months, .int now_law, .int now_holds, .int now_hoarse, .int now_keptIn, .int now_colds, .ref q_now_places])), (q_ring, .inr (7, [.int ring_clauses, .int ring_corners, .int ring_hearers, .int ring_firstColds, .ref q_ring_beers, .ref q_ring_firstPlaces, .ref q_ring_pinches, .ref q_ring_sayings])), (q_now_places, .inl (a 0, 9, .inl now_places)), (q_ring_pinches, .inl (a 0, 9, .inl ring_pinches)), (q_ring_sayings, .inl (a 0, 9, .inl ring_sayings))] H := hP
      have hD : va_D A [(q_t, .inr (0, [.ref q_ring, .ref q_now, .int t_silenced, .int t_liars, .int t_decree, .int t_holds, .int t_spoke, .int t_hoarse])), (q_now, .inr (6, [.int now_rounds, .int now_months, .int now_law, .int now_holds, .int now_hoarse, .int now_keptIn, .int now_colds, .ref q_now_places])), (q_ring, .inr (7, [.int ring_clauses, .int ring_corners, .int ring_hearers, .int ring_firstColds, .ref q_ring_beers, .ref q_ring_firstPlaces, .ref q_ring_pinches, .ref q_ring_sayings])), (q_now_places, .inl (a 0, 9, .inl now_places)), (q_ring_pinches, .inl (a 0, 9, .inl ring_pinches)), (q_ring_sayings, .inl (a 0, 9, .inl ring_sayings))] := hD
      obtain ⟨o4, ho4, hf⟩ := o_bd hf
      refine call_iV (q0 := 0) (ci := 0) hX (c_X0_readAt l D a t q_t q_ring q_now t_silenced t_liars t_decree t_holds t_spoke t_hoarse now_rounds now_months now_law now_holds now_hoarse now_keptIn now_colds q_now_places ring_clauses ring_corners ring_hearers ring_firstColds q_ring_beers q_ring_firstPlaces q_ring_pinches q_ring_sayings now_places ring_pinches ring_sayings o3 o4.1 o4.2.1 o4.2.2.1 o4.2.2.2.1 o4.2.2.2.2 ho4) (cwV 1 hts gX0_holdsAllRound_X0_readAt rfl rfl rfl hdV_X0_readAt ⟨by decide, by decide⟩) (Cut.of hA hP hD hS [0, 1, 2, 3, 4, 5] (by decide) rfl rfl (W' := [(q_t, .inr (0, [.ref q_ring, .ref q_now, .int t_silenced, .int t_liars, .int o4.2.1, .int o4.2.2.1, .int o4.2.2.2.1, .int o4.2.2.2.2])), (q_now, .inr (6, [.int now_rounds, .int now_months, .int now_law, .int now_holds, .int now_hoarse, .int now_keptIn, .int now_colds, .ref q_now_places])), (q_ring, .inr (7, [.int ring_clauses, .int ring_corners, .int ring_hearers, .int ring_firstColds, .ref q_ring_beers, .ref q_ring_firstPlaces, .ref q_ring_pinches, .ref q_ring_sayings])), (q_now_places, .inl (a 0, 9, .inl now_places)), (q_ring_pinches, .inl (a 0, 9, .inl ring_pinches)), (q_ring_sayings, .inl (a 0, 9, .inl ring_sayings))]) rfl) hS rfl rfl rfl hl.1 rfl (Nat.le_of_ble_eq_true rfl) dX0_holdsAllRound_30 (by decide) (fun H locs hP hD hS => ?_)
      have hP : va_P D vwCl [(q_t, .inr (0, [.ref q_ring, .ref q_now, .int t_silenced, .int t_liars, .int o4.2.1, .int o4.2.2.1, .int o4.2.2.2.1, .int o4.2.2.2.2])), (q_now, .inr (6, [.int now_rounds, .int now_months, .int now_law, .int now_holds, .int now_hoarse, .int now_keptIn, .int now_colds, .ref q_now_places])), (q_ring, .inr (7, [.int ring_clauses, .int ring_corners, .int ring_hearers, .int ring_firstColds, .ref q_ring_beers, .ref q_ring_firstPlaces, .ref q_ring_pinches, .ref q_ring_sayings])), (q_now_places, .inl (a 0, 9, .inl now_places)), (q_ring_pinches, .inl (a 0, 9, .inl ring_pinches)), (q_ring_sayings, .inl (a 0, 9, .inl ring_sayings))] H := hP
      have hD : va_D A [(q_t, .inr (0, [.ref q_ring, .ref q_now, .int t_silenced, .int t_liars, .int o4.2.1, .int o4.2.2.1, .int o4.2.2.2.1, .int o4.2.2.2.2])), (q_now, .inr (6, [.int now_rounds, .int now_months, .int now_law, .int now_holds, .int now_hoarse, .int now_keptIn, .int now_colds, .ref q_now_places])), (q_ring, .inr (7, [.int ring_clauses, .int ring_corners, .int ring_hearers, .int ring_firstColds, .ref q_ring_beers, .ref q_ring_firstPlaces, .ref q_ring_pinches, .ref q_ring_sayings])), (q_now_places, .inl (a 0, 9, .inl now_places)), (q_ring_pinches, .inl (a 0, 9, .inl ring_pinches)), (q_ring_sayings, .inl (a 0, 9, .inl ring_sayings))] := hD
      refine lv_istore_n (lv' := [(3, .int o4.1), (0, .ref q_t), (1, .int x1), (2, .int x2), (4, .int x4)]) hx hb dX0_holdsAllRound_33 rfl hl (by decide) rfl (fun ls hl => ?_)
      obtain ⟨v5, ev5⟩ : ∃ y : Int32, y = x4 + (1 : Int32) := ⟨_, rfl⟩
      have hf := o_nmh hf v5 ev5
      refine lv_iinc (v := v5) (lv' := [(4, .int v5), (3, .int o4.1), (0, .ref q_t), (1, .int x1), (2, .int x2)]) hx hb dX0_holdsAllRound_34 hl (k := 4) rfl (by rw [ev5]; rfl) (by decide) rfl (fun ls hl => ?_)
      refine lv_goto (tgt := 5) hx hb dX0_holdsAllRound_37 (by decide) ?_
      exact ih_5 o4.2.1 o4.2.2.1 o4.2.2.2.1 o4.2.2.2.2 x1 x2 o4.1 v5 _ _ _ hf hP hD hS (lv_sub hl [2, 3, 4, 1, 0] rfl)
  unfold f_X0_holdsAllRound at hf
  refine lv_iconst (v := (1 : Int32)) hx hb dX0_holdsAllRound_0 (by decide) ?_
  refine lv_istore_n (lv' := [(3, .int (1 : Int32)), (0, .ref q_t), (1, .int x1), (2, .int x2)]) hx hb dX0_holdsAllRound_1 rfl hl (by decide) rfl (fun ls hl => ?_)
  refine lv_iconst (v := (0 : Int32)) hx hb dX0_holdsAllRound_2 (by decide) ?_
  refine lv_istore (lv' := [(4, .int (0 : Int32)), (3, .int (1 : Int32)), (0, .ref q_t), (1, .int x1), (2, .int x2)]) hx hb dX0_holdsAllRound_3 hl (by decide) rfl (fun ls hl => ?_)
  exact L_5 1000 t_decree t_holds t_spoke t_hoarse x1 x2 (1 : Int32) (0 : Int32) _ _ _ hf hP hD hS (lv_sub hl [2, 3, 4, 1, 0] rfl)
def f_X10_firstOf (x0 : Int32) : Option (Int32) :=
  some (((1 : Int32) <<< (x0 &&& 31)) - (1 : Int32))
theorem hdS_X10_firstOf : yX10_firstOf.cls ≠ "java/lang/invoke/MethodHandle" ∧ yX10_firstOf.cls ≠ "java/lang/invoke/VarHandle" ∧ (parseMethodDescriptor yX10_firstOf.desc).map (fun d => d.parameters.length) = some 1 := by decide +kernel
theorem hdV_X10_firstOf : yX10_firstOf.cls = RX10 ∧ yX10_firstOf.cls ≠ "java/lang/invoke/MethodHandle" ∧ yX10_firstOf.cls ≠ "java/lang/invoke/VarHandle" ∧ (parseMethodDescriptor yX10_firstOf.desc).map (fun d => d.parameters.length) = some 1 := ⟨rfl, hdS_X10_firstOf⟩
set_option maxHeartbeats 4000000 in
set_option maxRecDepth 100000 in
theorem c_X10_firstOf (l : Launch) (D : va_G) (a : Nat → ClassId) (t : Nat) (x0 : Int32) (r : Int32) (hf : f_X10_firstOf x0 = some r) : Ki l yX10_firstOf wsX10_firstOf 0 0 D a t [.int x0] [] [] r := by
  refine Ki.mk (cc := cX10_firstOf) (nL := 1) (ty := .int) (own := RX10) (by decide) rfl rfl (Nat.le_of_ble_eq_true rfl) ?_
  intro p e s m args below meth c A Q ls hX hP hD hS hl hret
  have hx := hX.1.1
  have hb := hX.1.2.1
  have hown := hX.1.2.2.2.1
  have hts := hX.1.2.2.2.2
  have hN := hX.2.2.1
  have hA := hX.2.2.2.2
  have hl : lv_has ls 1 [(0, .int x0)] := hl
  unfold f_X10_firstOf at hf
  refine lv_iconst (v := (1 : Int32)) hx hb dX10_firstOf_0 (by decide) ?_
  refine lv_iload_n hx hb dX10_firstOf_1 rfl (lv_at hl 0 rfl) ?_
  refine lv_ishl hx hb dX10_firstOf_2 ?_
  refine lv_iconst (v := (1 : Int32)) hx hb dX10_firstOf_3 (by decide) ?_
  refine lv_isub hx hb dX10_firstOf_4 ?_
  cases hf
  exact hret _ _ _ _ (vp_nar_int _) hP hD hS dX10_firstOf_5
def f_X0_canKeepIn (now_keptIn : Int32) (ring_hearers : Int32) (x1 : Int32) : Option (Int32) :=
  (f_X10_firstOf ring_hearers).bind fun o1 =>
  if (x1 &&& (o1 ^^^ (-1 : Int32))) = 0 then (if (x1 &&& now_keptIn) = 0 then (some (1 : Int32))
  else (some (0 : Int32)))
  else (some (0 : Int32))
theorem hdS_X0_canKeepIn : yX0_canKeepIn.cls ≠ "java/lang/invoke/MethodHandle" ∧ yX0_canKeepIn.cls ≠ "java/lang/invoke/VarHandle" ∧ (parseMethodDescriptor yX0_canKeepIn.desc).map (fun d => d.parameters.length) = some 1 := by decide +kernel
theorem hdV_X0_canKeepIn : yX0_canKeepIn.cls = RX0 ∧ yX0_canKeepIn.cls ≠ "java/lang/invoke/MethodHandle" ∧ yX0_canKeepIn.cls ≠ "java/lang/invoke/VarHandle" ∧ (parseMethodDescriptor yX0_canKeepIn.desc).map (fun d => d.parameters.length) = some 1 := ⟨rfl, hdS_X0_canKeepIn⟩
set_option maxHeartbeats 4000000 in
set_option maxRecDepth 100000 in
theorem c_X0_canKeepIn (l : Launch) (D : va_G) (a : Nat → ClassId) (t : Nat) (q_t : Nat) (q_ring : Nat) (q_now : Nat) (t_silenced : Int32) (t_liars : Int32) (t_decree : Int32) (t_holds : Int32) (t_spoke : Int32) (t_hoarse : Int32) (now_rounds : Int32) (now_months : Int32) (now_law : Int32) (now_holds : Int32) (now_hoarse : Int32) (now_keptIn : Int32) (now_colds : Int32) (q_now_places : Nat) (ring_clauses : Int32) (ring_corners : Int32) (ring_hearers : Int32) (ring_firstColds : Int32) (q_ring_beers : Nat) (q_ring_firstPlaces : Nat) (q_ring_pinches : Nat) (q_ring_sayings : Nat) (x1 : Int32) (r : Int32) (hf : f_X0_canKeepIn now_keptIn ring_hearers x1 = some r) : Ki l yX0_canKeepIn wsX0_canKeepIn 1 20 D a t [.ref q_t, .int x1] [(q_t, .inr (0, [.ref q_ring, .ref q_now, .int t_silenced, .int t_liars, .int t_decree, .int t_holds, .int t_spoke, .int t_hoarse])), (q_now, .inr (6, [.int now_rounds, .int now_months, .int now_law, .int now_holds, .int now_hoarse, .int now_keptIn, .int now_colds, .ref q_now_places])), (q_ring, .inr (7, [.int ring_clauses, .int ring_corners, .int ring_hearers, .int ring_firstColds, .ref q_ring_beers, .ref q_ring_firstPlaces, .ref q_ring_pinches, .ref q_ring_sayings]))] [(q_t, .inr (0, [.ref q_ring, .ref q_now, .int t_silenced, .int t_liars, .int t_decree, .int t_holds, .int t_spoke, .int t_hoarse])), (q_now, .inr (6, [.int now_rounds, .int now_months, .int now_law, .int now_holds, .int now_hoarse, .int now_keptIn, .int now_colds, .ref q_now_places])), (q_ring, .inr (7, [.int ring_clauses, .int ring_corners, .int ring_hearers, .int ring_firstColds, .ref q_ring_beers, .ref q_ring_firstPlaces, .ref q_ring_pinches, .ref q_ring_sayings]))] r := by
  refine Ki.mk (cc := cX0_canKeepIn) (nL := 2) (ty := .boolean) (own := RX0) (by decide) rfl rfl (Nat.le_of_ble_eq_true rfl) ?_
  intro p e s m args below meth c A Q ls hX hP hD hS hl hret
  have hx := hX.1.1
  have hb := hX.1.2.1
  have hown := hX.1.2.2.2.1
  have hts := hX.1.2.2.2.2
  have hN := hX.2.2.1
  have hA := hX.2.2.2.2
  have hl : lv_has ls 2 [(0, .ref q_t), (1, .int x1)] := hl
  have hk1 := hts (.fieldLink RX0 7 "GainsaidOnce$Crier" "ring" "LGainsaidOnce$Town;") (List.mem_of_getElem? (i := 1) rfl)
  have hk2 := hts (.fieldLink RX0 13 "GainsaidOnce$Crier" "now" "LGainsaidOnce$State;") (List.mem_of_getElem? (i := 2) rfl)
  have hk3 := hts (.static yX10_firstOf) (List.mem_of_getElem? (i := 3) rfl)
  have hk4 := hts (.initialized RX10) (List.mem_of_getElem? (i := 4) rfl)
  have hiX0 : ∀ w ∈ wsX00, w ∈ wsX0_canKeepIn := (fun _ h => List.mem_cons_of_mem _ (List.mem_append_left _ (List.mem_append_left _ (List.mem_append_right _ h))))
  have hiX7 : ∀ w ∈ wsX70, w ∈ wsX0_canKeepIn := (fun _ h => List.mem_cons_of_mem _ (List.mem_append_left _ (List.mem_append_right _ h)))
  have hiX6 : ∀ w ∈ wsX60, w ∈ wsX0_canKeepIn := (fun _ h => List.mem_cons_of_mem _ (List.mem_append_right _ h))
  unfold f_X0_canKeepIn at hf
  refine lv_iload_n hx hb dX0_canKeepIn_0 rfl (lv_at hl 1 rfl) ?_
  refine lv_aload_n hx hb dX0_canKeepIn_1 rfl (lv_at hl 0 rfl) ?_
  refine g_get hX hiX0 hP 0 rfl rfl 0 (by decide) hk1 rfl rfl dX0_canKeepIn_2 ?_
  refine g_getN hX hiX7 hP 2 rfl rfl 2 (by decide) (nw_17 hN) rfl rfl dX0_canKeepIn_5 ?_
  obtain ⟨o1, ho1, hf⟩ := o_bd hf
  refine call_iSN hX (c_X10_firstOf l D a t ring_hearers o1 ho1) (va_cnB 1 hts gX0_canKeepIn_X10_firstOf_n87 rfl rfl rfl (nw_72 hN) hk4 hdS_X10_firstOf ⟨by decide, by decide⟩) hk3 (Cut.none hA hP hD hS) hS rfl hl.1 rfl (Nat.le_of_ble_eq_true rfl) dX0_canKeepIn_8 (by decide) (fun H locs hP hD hS => ?_)
  refine lv_iconst (v := (-1 : Int32)) hx hb dX0_canKeepIn_11 (by decide) ?_
  refine lv_ixor hx hb dX0_canKeepIn_12 ?_
  refine lv_iand hx hb dX0_canKeepIn_13 ?_
  refine lv_if_ne (tgt := 33) hx hb dX0_canKeepIn_14 (by decide) (fun c2 => ?_) (fun c2 => ?_)
  · have hf := o_ifn hf c2
    refine lv_iconst (v := (0 : Int32)) hx hb dX0_canKeepIn_33 (by decide) ?_
    cases hf
    exact hret _ _ _ _ narrow_b0 hP hD hS dX0_canKeepIn_34
  have hf := o_ifp hf c2
  refine lv_iload_n hx hb dX0_canKeepIn_17 rfl (lv_at hl 1 rfl) ?_
  refine lv_aload_n hx hb dX0_canKeepIn_18 rfl (lv_at hl 0 rfl) ?_
  refine g_get hX hiX0 hP 0 rfl rfl 1 (by decide) hk2 rfl rfl dX0_canKeepIn_19 ?_
  refine g_getN hX hiX6 hP 1 rfl rfl 5 (by decide) (nw_32 hN) rfl rfl dX0_canKeepIn_22 ?_
  refine lv_iand hx hb dX0_canKeepIn_25 ?_
  refine lv_if_ne (tgt := 33) hx hb dX0_canKeepIn_26 (by decide) (fun c3 => ?_) (fun c3 => ?_)
  · have hf := o_ifn hf c3
    refine lv_iconst (v := (0 : Int32)) hx hb dX0_canKeepIn_33 (by decide) ?_
    cases hf
    exact hret _ _ _ _ narrow_b0 hP hD hS dX0_canKeepIn_34
  have hf := o_ifp hf c3
  refine lv_iconst (v := (1 : Int32)) hx hb dX0_canKeepIn_29 (by decide) ?_
  refine lv_goto (tgt := 34) hx hb dX0_canKeepIn_30 (by decide) ?_
  cases hf
  exact hret _ _ _ _ narrow_b1 hP hD hS dX0_canKeepIn_34
def f_X1_next (t_value : Int32) (x1 : Int32) : Option (Int32 × Int32) :=
  o_nm ((Int64.toInt32 ((((Int32.toInt64 t_value) * (1103515245 : Int64)) + (12345 : Int64)) &&& (2147483647 : Int64)))) fun v1 =>
  if x1 ≤ 0 then (some ((0 : Int32), v1))
  else ((o_dv v1 (65536 : Int32)).bind fun v3 =>
  (o_rm v3 x1).bind fun v4 =>
  some (v4, v1))
theorem hdS_X1_next : yX1_next.cls ≠ "java/lang/invoke/MethodHandle" ∧ yX1_next.cls ≠ "java/lang/invoke/VarHandle" ∧ (parseMethodDescriptor yX1_next.desc).map (fun d => d.parameters.length) = some 1 := by decide +kernel
theorem hdV_X1_next : yX1_next.cls = RX1 ∧ yX1_next.cls ≠ "java/lang/invoke/MethodHandle" ∧ yX1_next.cls ≠ "java/lang/invoke/VarHandle" ∧ (parseMethodDescriptor yX1_next.desc).map (fun d => d.parameters.length) = some 1 := ⟨rfl, hdS_X1_next⟩
set_option maxHeartbeats 4000000 in
set_option maxRecDepth 100000 in
theorem c_X1_next (l : Launch) (D : va_G) (a : Nat → ClassId) (t : Nat) (q_t : Nat) (t_value : Int32) (x1 : Int32) (r : Int32) (o_t_value : Int32) (hf : f_X1_next t_value x1 = some (r, o_t_value)) : Ki l yX1_next wsX1_next 0 0 D a t [.ref q_t, .int x1] [(q_t, .inr (1, [.int t_value]))] [(q_t, .inr (1, [.int o_t_value]))] r := by
  refine Ki.mk (cc := cX1_next) (nL := 2) (ty := .int) (own := RX1) (by decide) rfl rfl (Nat.le_of_ble_eq_true rfl) ?_
  intro p e s m args below meth c A Q ls hX hP hD hS hl hret
  have hx := hX.1.1
  have hb := hX.1.2.1
  have hown := hX.1.2.2.2.1
  have hts := hX.1.2.2.2.2
  have hN := hX.2.2.1
  have hA := hX.2.2.2.2
  have hl : lv_has ls 2 [(0, .ref q_t), (1, .int x1)] := hl
  have hk1 := hts (.fieldLink RX1 9 "GainsaidOnce$Draws" "value" "I") (List.mem_of_getElem? (i := 1) rfl)
  have hk2 := hts (.constantLong RX1 15 (1103515245)) (List.mem_of_getElem? (i := 2) rfl)
  have hk3 := hts (.constantLong RX1 17 (12345)) (List.mem_of_getElem? (i := 3) rfl)
  have hk4 := hts (.constantLong RX1 19 (2147483647)) (List.mem_of_getElem? (i := 4) rfl)
  have hk5 := hts (.constant RX1 21 (65536)) (List.mem_of_getElem? (i := 5) rfl)
  have hiX1 : ∀ w ∈ wsX10, w ∈ wsX1_next := (fun _ h => List.mem_cons_of_mem _ (List.mem_append_right _ h))
  unfold f_X1_next at hf
  refine lv_aload_n hx hb dX1_next_0 rfl (lv_at hl 0 rfl) ?_
  refine lv_aload_n hx hb dX1_next_1 rfl (lv_at hl 0 rfl) ?_
  refine g_get hX hiX1 hP 0 rfl rfl 0 (by decide) hk1 rfl rfl dX1_next_2 ?_
  refine lv_i2l (v := Int32.toInt64 t_value) hx hb dX1_next_5 rfl ?_
  refine lv_ldc2 (v := (1103515245 : Int64)) hx hb hown hk2 dX1_next_6 ?_
  refine lv_lmul hx hb dX1_next_9 ?_
  refine lv_ldc2 (v := (12345 : Int64)) hx hb hown hk3 dX1_next_10 ?_
  refine lv_ladd hx hb dX1_next_13 ?_
  refine lv_ldc2 (v := (2147483647 : Int64)) hx hb hown hk4 dX1_next_14 ?_
  refine lv_land hx hb dX1_next_17 ?_
  refine lv_l2i (v := Int64.toInt32 ((((Int32.toInt64 t_value) * (1103515245 : Int64)) + (12345 : Int64)) &&& (2147483647 : Int64))) hx hb dX1_next_18 rfl ?_
  refine lv_topi (fun v1 ev1 => ?_)
  have hf := o_nmh hf v1 ev1
  refine g_put hX hiX1 tyX1 tyX1_ok nmX1 hP hD hS 0 rfl rfl 0 (by decide) hk1 rfl rfl rfl rfl (Nat.le_of_ble_eq_true rfl) dX1_next_19 (fun H locs hP hD hS => ?_)
  have hP : va_P D vwCl [(q_t, .inr (1, [.int v1]))] H := hP
  have hD : va_D A [(q_t, .inr (1, [.int v1]))] := hD
  refine lv_iload_n hx hb dX1_next_22 rfl (lv_at hl 1 rfl) ?_
  refine lv_if_le (tgt := 38) hx hb dX1_next_23 (by decide) (fun c2 => ?_) (fun c2 => ?_)
  · have hf := o_ifp hf c2
    refine lv_iconst (v := (0 : Int32)) hx hb dX1_next_38 (by decide) ?_
    cases hf
    exact hret _ _ _ _ (vp_nar_int _) hP hD hS dX1_next_39
  have hf := o_ifn hf c2
  refine lv_aload_n hx hb dX1_next_26 rfl (lv_at hl 0 rfl) ?_
  refine g_get hX hiX1 hP 0 rfl rfl 0 (by decide) hk1 rfl rfl dX1_next_27 ?_
  refine lv_ldc (v := (65536 : Int32)) hx hb hown hk5 dX1_next_30 ?_
  obtain ⟨hzv3, hf⟩ := o_dvh hf
  refine lv_idiv hx hb dX1_next_32 hzv3 ?_
  refine lv_topi (fun v3 ev3 => ?_)
  have hf := hf v3 ev3
  refine lv_iload_n hx hb dX1_next_33 rfl (lv_at hl 1 rfl) ?_
  obtain ⟨hzv4, hf⟩ := o_rmh hf
  refine lv_irem hx hb dX1_next_34 hzv4 ?_
  refine lv_topi (fun v4 ev4 => ?_)
  have hf := hf v4 ev4
  refine lv_goto (tgt := 39) hx hb dX1_next_35 (by decide) ?_
  cases hf
  exact hret _ _ _ _ (vp_nar_int _) hP hD hS dX1_next_39
def f_X10_copyRow_2 (n_p0 : Nat) (n_p1 : Nat) (p0_a : Nat → Int32) : Nat → (Nat → Int32) → Int32 → Option ((Nat → Int32))
  | 0, _, _ => none
  | n_2 + 1, p1_a, x2 =>
    if (Int32.ofNat n_p0) ≤ x2 then (some p1_a)
    else (if (Int32.ofNat n_p1) ≤ x2 then (some p1_a)
    else ((o_ld p0_a n_p0 x2).bind fun v3 =>
    (o_st p1_a n_p1 x2 v3).bind fun w4 =>
    o_nm (x2 + (1 : Int32)) fun v5 =>
    f_X10_copyRow_2 n_p0 n_p1 p0_a n_2 w4 v5))
def f_X10_copyRow (n_p0 : Nat) (n_p1 : Nat) (p0_a : Nat → Int32) (p1_a : Nat → Int32) : Option ((Nat → Int32)) :=
  f_X10_copyRow_2 n_p0 n_p1 p0_a 1000 p1_a (0 : Int32)
theorem hdS_X10_copyRow : yX10_copyRow.cls ≠ "java/lang/invoke/MethodHandle" ∧ yX10_copyRow.cls ≠ "java/lang/invoke/VarHandle" ∧ (parseMethodDescriptor yX10_copyRow.desc).map (fun d => d.parameters.length) = some 2 := by decide +kernel
theorem hdV_X10_copyRow : yX10_copyRow.cls = RX10 ∧ yX10_copyRow.cls ≠ "java/lang/invoke/MethodHandle" ∧ yX10_copyRow.cls ≠ "java/lang/invoke/VarHandle" ∧ (parseMethodDescriptor yX10_copyRow.desc).map (fun d => d.parameters.length) = some 2 := ⟨rfl, hdS_X10_copyRow⟩
set_option maxHeartbeats 4000000 in
set_option maxRecDepth 100000 in
theorem c_X10_copyRow (l : Launch) (D : va_G) (a : Nat → ClassId) (t : Nat) (q_p0 : Nat) (p0_a : Nat → Int32) (n_p0 : Nat) (q_p1 : Nat) (p1_a : Nat → Int32) (n_p1 : Nat) (o_p1_a : Nat → Int32) (hf : f_X10_copyRow n_p0 n_p1 p0_a p1_a = some o_p1_a) : Kv l yX10_copyRow wsX10_copyRow 0 0 D a t [.ref q_p0, .ref q_p1] [(q_p0, .inl (a 0, n_p0, .inl p0_a)), (q_p1, .inl (a 0, n_p1, .inl p1_a))] [(q_p0, .inl (a 0, n_p0, .inl p0_a)), (q_p1, .inl (a 0, n_p1, .inl o_p1_a))] := by
  refine Kv.mk (cc := cX10_copyRow) (nL := 3) (own := RX10) (by decide) rfl rfl (Nat.le_of_ble_eq_true rfl) ?_
  intro p e s m args below meth c A Q ls hX hP hD hS hl hret
  have hx := hX.1.1
  have hb := hX.1.2.1
  have hown := hX.1.2.2.2.1
  have hts := hX.1.2.2.2.2
  have hN := hX.2.2.1
  have hA := hX.2.2.2.2
  have hl : lv_has ls 3 [(0, .ref q_p0), (1, .ref q_p1)] := hl
  have L_2 : ∀ (n_2 : Nat) (p1_a : (Nat → Int32)) (x2 : Int32) (H : Heap) (locs : List Loc) (ls : Array Slot), f_X10_copyRow_2 n_p0 n_p1 p0_a n_2 p1_a x2 = some o_p1_a → va_P D vwCl [(q_p0, .inl (a 0, n_p0, .inl p0_a)), (q_p1, .inl (a 0, n_p1, .inl p1_a))] H → va_D A [(q_p0, .inl (a 0, n_p0, .inl p0_a)), (q_p1, .inl (a 0, n_p1, .inl p1_a))] → va_S A s.heap H locs → lv_has ls 3 [(0, .ref q_p0), (1, .ref q_p1), (2, .int x2)] → W p l e { frames := 0, cells := 0, slots := 0, locals := 0 } s m args below meth c H locs 0 0 Q (F0 m 2 ls []) := by
    intro n_2
    induction n_2 with
    | zero => intro p1_a x2 H locs ls hf hP hD hS hl; rw [f_X10_copyRow_2] at hf; cases hf
    | succ n_2 ih_2 =>
      intro p1_a x2 H locs ls hf hP hD hS hl
      rw [f_X10_copyRow_2] at hf
      refine lv_iload_n hx hb dX10_copyRow_2 rfl (lv_at hl 2 rfl) ?_
      refine lv_aload_n hx hb dX10_copyRow_3 rfl (lv_at hl 0 rfl) ?_
      refine g_alen hX hP 0 0 rfl rfl dX10_copyRow_4 ?_
      refine lv_icmp_ge (tgt := 26) hx hb dX10_copyRow_5 (by decide) (fun c1 => ?_) (fun c1 => ?_)
      · have hf := o_ifp hf c1
        cases hf
        exact hret _ _ _ _ hP hD hS dX10_copyRow_26
      have hf := o_ifn hf c1
      refine lv_iload_n hx hb dX10_copyRow_8 rfl (lv_at hl 2 rfl) ?_
      refine lv_aload_n hx hb dX10_copyRow_9 rfl (lv_at hl 1 rfl) ?_
      refine g_alen hX hP 1 0 rfl rfl dX10_copyRow_10 ?_
      refine lv_icmp_ge (tgt := 26) hx hb dX10_copyRow_11 (by decide) (fun c2 => ?_) (fun c2 => ?_)
      · have hf := o_ifp hf c2
        cases hf
        exact hret _ _ _ _ hP hD hS dX10_copyRow_26
      have hf := o_ifn hf c2
      refine lv_aload_n hx hb dX10_copyRow_14 rfl (lv_at hl 1 rfl) ?_
      refine lv_iload_n hx hb dX10_copyRow_15 rfl (lv_at hl 2 rfl) ?_
      refine lv_aload_n hx hb dX10_copyRow_16 rfl (lv_at hl 0 rfl) ?_
      refine lv_iload_n hx hb dX10_copyRow_17 rfl (lv_at hl 2 rfl) ?_
      obtain ⟨hiv3, hf⟩ := o_ldh hf
      refine g_iald hX hP 0 rfl hiv3 dX10_copyRow_18 (fun v3 ev3 => ?_)
      have hf := hf v3 ev3
      obtain ⟨hiw4, hf⟩ := o_sth hf
      refine g_iast hX hP hD hS 1 rfl hiw4 dX10_copyRow_19 (fun w4 ew4 H locs hP hD hS => ?_)
      have hf := hf w4 ew4
      have hP : va_P D vwCl [(q_p0, .inl (a 0, n_p0, .inl p0_a)), (q_p1, .inl (a 0, n_p1, .inl w4))] H := hP
      have hD : va_D A [(q_p0, .inl (a 0, n_p0, .inl p0_a)), (q_p1, .inl (a 0, n_p1, .inl w4))] := hD
      obtain ⟨v5, ev5⟩ : ∃ y : Int32, y = x2 + (1 : Int32) := ⟨_, rfl⟩
      have hf := o_nmh hf v5 ev5
      refine lv_iinc (v := v5) (lv' := [(2, .int v5), (0, .ref q_p0), (1, .ref q_p1)]) hx hb dX10_copyRow_20 hl (k := 2) rfl (by rw [ev5]; rfl) (by decide) rfl (fun ls hl => ?_)
      refine lv_goto (tgt := 2) hx hb dX10_copyRow_23 (by decide) ?_
      exact ih_2 w4 v5 _ _ _ hf hP hD hS (lv_sub hl [1, 2, 0] rfl)
  unfold f_X10_copyRow at hf
  refine lv_iconst (v := (0 : Int32)) hx hb dX10_copyRow_0 (by decide) ?_
  refine lv_istore_n (lv' := [(2, .int (0 : Int32)), (0, .ref q_p0), (1, .ref q_p1)]) hx hb dX10_copyRow_1 rfl hl (by decide) rfl (fun ls hl => ?_)
  exact L_2 1000 p1_a (0 : Int32) _ _ _ hf hP hD hS (lv_sub hl [1, 2, 0] rfl)
def f_X6_become (t_rounds : Int32) (t_months : Int32) (t_law : Int32) (t_holds : Int32) (t_hoarse : Int32) (t_keptIn : Int32) (t_colds : Int32) (places : Nat → Int32) (p1_rounds : Int32) (p1_months : Int32) (p1_law : Int32) (p1_holds : Int32) (p1_hoarse : Int32) (p1_keptIn : Int32) (p1_colds : Int32) (p1_places : Nat → Int32) : Option (Int32 × Int32 × Int32 × Int32 × Int32 × Int32 × Int32 × (Nat → Int32)) :=
  (f_X10_copyRow 9 9 p1_places places).bind fun o1 =>
  some (p1_rounds, p1_months, p1_law, p1_holds, p1_hoarse, p1_keptIn, p1_colds, o1)
theorem hdS_X6_become : yX6_become.cls ≠ "java/lang/invoke/MethodHandle" ∧ yX6_become.cls ≠ "java/lang/invoke/VarHandle" ∧ (parseMethodDescriptor yX6_become.desc).map (fun d => d.parameters.length) = some 1 := by decide +kernel
theorem hdV_X6_become : yX6_become.cls = RX6 ∧ yX6_become.cls ≠ "java/lang/invoke/MethodHandle" ∧ yX6_become.cls ≠ "java/lang/invoke/VarHandle" ∧ (parseMethodDescriptor yX6_become.desc).map (fun d => d.parameters.length) = some 1 := ⟨rfl, hdS_X6_become⟩
set_option maxHeartbeats 4000000 in
set_option maxRecDepth 100000 in
theorem c_X6_become (l : Launch) (D : va_G) (a : Nat → ClassId) (t : Nat) (q_t : Nat) (t_rounds : Int32) (t_months : Int32) (t_law : Int32) (t_holds : Int32) (t_hoarse : Int32) (t_keptIn : Int32) (t_colds : Int32) (q_places : Nat) (places : Nat → Int32) (q_p1 : Nat) (p1_rounds : Int32) (p1_months : Int32) (p1_law : Int32) (p1_holds : Int32) (p1_hoarse : Int32) (p1_keptIn : Int32) (p1_colds : Int32) (q_p1_places : Nat) (p1_places : Nat → Int32) (o_t_rounds : Int32) (o_t_months : Int32) (o_t_law : Int32) (o_t_holds : Int32) (o_t_hoarse : Int32) (o_t_keptIn : Int32) (o_t_colds : Int32) (o_places : Nat → Int32) (hf : f_X6_become t_rounds t_months t_law t_holds t_hoarse t_keptIn t_colds places p1_rounds p1_months p1_law p1_holds p1_hoarse p1_keptIn p1_colds p1_places = some (o_t_rounds, o_t_months, o_t_law, o_t_holds, o_t_hoarse, o_t_keptIn, o_t_colds, o_places)) : Kv l yX6_become wsX6_become 1 22 D a t [.ref q_t, .ref q_p1] [(q_t, .inr (6, [.int t_rounds, .int t_months, .int t_law, .int t_holds, .int t_hoarse, .int t_keptIn, .int t_colds, .ref q_places])), (q_places, .inl (a 0, 9, .inl places)), (q_p1, .inr (6, [.int p1_rounds, .int p1_months, .int p1_law, .int p1_holds, .int p1_hoarse, .int p1_keptIn, .int p1_colds, .ref q_p1_places])), (q_p1_places, .inl (a 0, 9, .inl p1_places))] [(q_t, .inr (6, [.int o_t_rounds, .int o_t_months, .int o_t_law, .int o_t_holds, .int o_t_hoarse, .int o_t_keptIn, .int o_t_colds, .ref q_places])), (q_places, .inl (a 0, 9, .inl o_places)), (q_p1, .inr (6, [.int p1_rounds, .int p1_months, .int p1_law, .int p1_holds, .int p1_hoarse, .int p1_keptIn, .int p1_colds, .ref q_p1_places])), (q_p1_places, .inl (a 0, 9, .inl p1_places))] := by
  refine Kv.mk (cc := cX6_become) (nL := 2) (own := RX6) (by decide) rfl rfl (Nat.le_of_ble_eq_true rfl) ?_
  intro p e s m args below meth c A Q ls hX hP hD hS hl hret
  have hx := hX.1.1
  have hb := hX.1.2.1
  have hown := hX.1.2.2.2.1
  have hts := hX.1.2.2.2.2
  have hN := hX.2.2.1
  have hA := hX.2.2.2.2
  have hl : lv_has ls 2 [(0, .ref q_t), (1, .ref q_p1)] := hl
  have hk1 := hts (.fieldLink RX6 19 "GainsaidOnce$State" "rounds" "I") (List.mem_of_getElem? (i := 1) rfl)
  have hk2 := hts (.fieldLink RX6 22 "GainsaidOnce$State" "months" "I") (List.mem_of_getElem? (i := 2) rfl)
  have hk3 := hts (.fieldLink RX6 9 "GainsaidOnce$State" "law" "I") (List.mem_of_getElem? (i := 3) rfl)
  have hk4 := hts (.fieldLink RX6 25 "GainsaidOnce$State" "holds" "I") (List.mem_of_getElem? (i := 4) rfl)
  have hk5 := hts (.fieldLink RX6 28 "GainsaidOnce$State" "hoarse" "I") (List.mem_of_getElem? (i := 5) rfl)
  have hk6 := hts (.fieldLink RX6 31 "GainsaidOnce$State" "keptIn" "I") (List.mem_of_getElem? (i := 6) rfl)
  have hk7 := hts (.fieldLink RX6 39 "GainsaidOnce$State" "colds" "I") (List.mem_of_getElem? (i := 7) rfl)
  have hk8 := hts (.fieldLink RX6 15 "GainsaidOnce$State" "places" "[I") (List.mem_of_getElem? (i := 8) rfl)
  have hk9 := hts (.static yX10_copyRow) (List.mem_of_getElem? (i := 9) rfl)
  have hk10 := hts (.initialized RX10) (List.mem_of_getElem? (i := 10) rfl)
  have hiX6 : ∀ w ∈ wsX60, w ∈ wsX6_become := (fun _ h => List.mem_cons_of_mem _ (List.mem_append_right _ h))
  unfold f_X6_become at hf
  refine lv_aload_n hx hb dX6_become_0 rfl (lv_at hl 0 rfl) ?_
  refine lv_aload_n hx hb dX6_become_1 rfl (lv_at hl 1 rfl) ?_
  refine g_get hX hiX6 hP 2 rfl rfl 0 (by decide) hk1 rfl rfl dX6_become_2 ?_
  refine g_put hX hiX6 tyX6 tyX6_ok nmX6 hP hD hS 0 rfl rfl 0 (by decide) hk1 rfl rfl rfl rfl (Nat.le_of_ble_eq_true rfl) dX6_become_5 (fun H locs hP hD hS => ?_)
  have hP : va_P D vwCl [(q_t, .inr (6, [.int p1_rounds, .int t_months, .int t_law, .int t_holds, .int t_hoarse, .int t_keptIn, .int t_colds, .ref q_places])), (q_places, .inl (a 0, 9, .inl places)), (q_p1, .inr (6, [.int p1_rounds, .int p1_months, .int p1_law, .int p1_holds, .int p1_hoarse, .int p1_keptIn, .int p1_colds, .ref q_p1_places])), (q_p1_places, .inl (a 0, 9, .inl p1_places))] H := hP
  have hD : va_D A [(q_t, .inr (6, [.int p1_rounds, .int t_months, .int t_law, .int t_holds, .int t_hoarse, .int t_keptIn, .int t_colds, .ref q_places])), (q_places, .inl (a 0, 9, .inl places)), (q_p1, .inr (6, [.int p1_rounds, .int p1_months, .int p1_law, .int p1_holds, .int p1_hoarse, .int p1_keptIn, .int p1_colds, .ref q_p1_places])), (q_p1_places, .inl (a 0, 9, .inl p1_places))] := hD
  refine lv_aload_n hx hb dX6_become_8 rfl (lv_at hl 0 rfl) ?_
  refine lv_aload_n hx hb dX6_become_9 rfl (lv_at hl 1 rfl) ?_
  refine g_get hX hiX6 hP 2 rfl rfl 1 (by decide) hk2 rfl rfl dX6_become_10 ?_
  refine g_put hX hiX6 tyX6 tyX6_ok nmX6 hP hD hS 0 rfl rfl 1 (by decide) hk2 rfl rfl rfl rfl (Nat.le_of_ble_eq_true rfl) dX6_become_13 (fun H locs hP hD hS => ?_)
  have hP : va_P D vwCl [(q_t, .inr (6, [.int p1_rounds, .int p1_months, .int t_law, .int t_holds, .int t_hoarse, .int t_keptIn, .int t_colds, .ref q_places])), (q_places, .inl (a 0, 9, .inl places)), (q_p1, .inr (6, [.int p1_rounds, .int p1_months, .int p1_law, .int p1_holds, .int p1_hoarse, .int p1_keptIn, .int p1_colds, .ref q_p1_places])), (q_p1_places, .inl (a 0, 9, .inl p1_places))] H := hP
  have hD : va_D A [(q_t, .inr (6, [.int p1_rounds, .int p1_months, .int t_law, .int t_holds, .int t_hoarse, .int t_keptIn, .int t_colds, .ref q_places])), (q_places, .inl (a 0, 9, .inl places)), (q_p1, .inr (6, [.int p1_rounds, .int p1_months, .int p1_law, .int p1_holds, .int p1_hoarse, .int p1_keptIn, .int p1_colds, .ref q_p1_places])), (q_p1_places, .inl (a 0, 9, .inl p1_places))] := hD
  refine lv_aload_n hx hb dX6_become_16 rfl (lv_at hl 0 rfl) ?_
  refine lv_aload_n hx hb dX6_become_17 rfl (lv_at hl 1 rfl) ?_
  refine g_get hX hiX6 hP 2 rfl rfl 2 (by decide) hk3 rfl rfl dX6_become_18 ?_
  refine g_put hX hiX6 tyX6 tyX6_ok nmX6 hP hD hS 0 rfl rfl 2 (by decide) hk3 rfl rfl rfl rfl (Nat.le_of_ble_eq_true rfl) dX6_become_21 (fun H locs hP hD hS => ?_)
  have hP : va_P D vwCl [(q_t, .inr (6, [.int p1_rounds, .int p1_months, .int p1_law, .int t_holds, .int t_hoarse, .int t_keptIn, .int t_colds, .ref q_places])), (q_places, .inl (a 0, 9, .inl places)), (q_p1, .inr (6, [.int p1_rounds, .int p1_months, .int p1_law, .int p1_holds, .int p1_hoarse, .int p1_keptIn, .int p1_colds, .ref q_p1_places])), (q_p1_places, .inl (a 0, 9, .inl p1_places))] H := hP
  have hD : va_D A [(q_t, .inr (6, [.int p1_rounds, .int p1_months, .int p1_law, .int t_holds, .int t_hoarse, .int t_keptIn, .int t_colds, .ref q_places])), (q_places, .inl (a 0, 9, .inl places)), (q_p1, .inr (6, [.int p1_rounds, .int p1_months, .int p1_law, .int p1_holds, .int p1_hoarse, .int p1_keptIn, .int p1_colds, .ref q_p1_places])), (q_p1_places, .inl (a 0, 9, .inl p1_places))] := hD
  refine lv_aload_n hx hb dX6_become_24 rfl (lv_at hl 0 rfl) ?_
  refine lv_aload_n hx hb dX6_become_25 rfl (lv_at hl 1 rfl) ?_
  refine g_get hX hiX6 hP 2 rfl rfl 3 (by decide) hk4 rfl rfl dX6_become_26 ?_
  refine g_put hX hiX6 tyX6 tyX6_ok nmX6 hP hD hS 0 rfl rfl 3 (by decide) hk4 rfl rfl rfl rfl (Nat.le_of_ble_eq_true rfl) dX6_become_29 (fun H locs hP hD hS => ?_)
  have hP : va_P D vwCl [(q_t, .inr (6, [.int p1_rounds, .int p1_months, .int p1_law, .int p1_holds, .int t_hoarse, .int t_keptIn, .int t_colds, .ref q_places])), (q_places, .inl (a 0, 9, .inl places)), (q_p1, .inr (6, [.int p1_rounds, .int p1_months, .int p1_law, .int p1_holds, .int p1_hoarse, .int p1_keptIn, .int p1_colds, .ref q_p1_places])), (q_p1_places, .inl (a 0, 9, .inl p1_places))] H := hP
  have hD : va_D A [(q_t, .inr (6, [.int p1_rounds, .int p1_months, .int p1_law, .int p1_holds, .int t_hoarse, .int t_keptIn, .int t_colds, .ref q_places])), (q_places, .inl (a 0, 9, .inl places)), (q_p1, .inr (6, [.int p1_rounds, .int p1_months, .int p1_law, .int p1_holds, .int p1_hoarse, .int p1_keptIn, .int p1_colds, .ref q_p1_places])), (q_p1_places, .inl (a 0, 9, .inl p1_places))] := hD
  refine lv_aload_n hx hb dX6_become_32 rfl (lv_at hl 0 rfl) ?_
  refine lv_aload_n hx hb dX6_become_33 rfl (lv_at hl 1 rfl) ?_
  refine g_get hX hiX6 hP 2 rfl rfl 4 (by decide) hk5 rfl rfl dX6_become_34 ?_
  refine g_put hX hiX6 tyX6 tyX6_ok nmX6 hP hD hS 0 rfl rfl 4 (by decide) hk5 rfl rfl rfl rfl (Nat.le_of_ble_eq_true rfl) dX6_become_37 (fun H locs hP hD hS => ?_)
  have hP : va_P D vwCl [(q_t, .inr (6, [.int p1_rounds, .int p1_months, .int p1_law, .int p1_holds, .int p1_hoarse, .int t_keptIn, .int t_colds, .ref q_places])), (q_places, .inl (a 0, 9, .inl places)), (q_p1, .inr (6, [.int p1_rounds, .int p1_months, .int p1_law, .int p1_holds, .int p1_hoarse, .int p1_keptIn, .int p1_colds, .ref q_p1_places])), (q_p1_places, .inl (a 0, 9, .inl p1_places))] H := hP
  have hD : va_D A [(q_t, .inr (6, [.int p1_rounds, .int p1_months, .int p1_law, .int p1_holds, .int p1_hoarse, .int t_keptIn, .int t_colds, .ref q_places])), (q_places, .inl (a 0, 9, .inl places)), (q_p1, .inr (6, [.int p1_rounds, .int p1_months, .int p1_law, .int p1_holds, .int p1_hoarse, .int p1_keptIn, .int p1_colds, .ref q_p1_places])), (q_p1_places, .inl (a 0, 9, .inl p1_places))] := hD
  refine lv_aload_n hx hb dX6_become_40 rfl (lv_at hl 0 rfl) ?_
  refine lv_aload_n hx hb dX6_become_41 rfl (lv_at hl 1 rfl) ?_
  refine g_get hX hiX6 hP 2 rfl rfl 5 (by decide) hk6 rfl rfl dX6_become_42 ?_
  refine g_put hX hiX6 tyX6 tyX6_ok nmX6 hP hD hS 0 rfl rfl 5 (by decide) hk6 rfl rfl rfl rfl (Nat.le_of_ble_eq_true rfl) dX6_become_45 (fun H locs hP hD hS => ?_)
  have hP : va_P D vwCl [(q_t, .inr (6, [.int p1_rounds, .int p1_months, .int p1_law, .int p1_holds, .int p1_hoarse, .int p1_keptIn, .int t_colds, .ref q_places])), (q_places, .inl (a 0, 9, .inl places)), (q_p1, .inr (6, [.int p1_rounds, .int p1_months, .int p1_law, .int p1_holds, .int p1_hoarse, .int p1_keptIn, .int p1_colds, .ref q_p1_places])), (q_p1_places, .inl (a 0, 9, .inl p1_places))] H := hP
  have hD : va_D A [(q_t, .inr (6, [.int p1_rounds, .int p1_months, .int p1_law, .int p1_holds, .int p1_hoarse, .int p1_keptIn, .int t_colds, .ref q_places])), (q_places, .inl (a 0, 9, .inl places)), (q_p1, .inr (6, [.int p1_rounds, .int p1_months, .int p1_law, .int p1_holds, .int p1_hoarse, .int p1_keptIn, .int p1_colds, .ref q_p1_places])), (q_p1_places, .inl (a 0, 9, .inl p1_places))] := hD
  refine lv_aload_n hx hb dX6_become_48 rfl (lv_at hl 0 rfl) ?_
  refine lv_aload_n hx hb dX6_become_49 rfl (lv_at hl 1 rfl) ?_
  refine g_get hX hiX6 hP 2 rfl rfl 6 (by decide) hk7 rfl rfl dX6_become_50 ?_
  refine g_put hX hiX6 tyX6 tyX6_ok nmX6 hP hD hS 0 rfl rfl 6 (by decide) hk7 rfl rfl rfl rfl (Nat.le_of_ble_eq_true rfl) dX6_become_53 (fun H locs hP hD hS => ?_)
  have hP : va_P D vwCl [(q_t, .inr (6, [.int p1_rounds, .int p1_months, .int p1_law, .int p1_holds, .int p1_hoarse, .int p1_keptIn, .int p1_colds, .ref q_places])), (q_places, .inl (a 0, 9, .inl places)), (q_p1, .inr (6, [.int p1_rounds, .int p1_months, .int p1_law, .int p1_holds, .int p1_hoarse, .int p1_keptIn, .int p1_colds, .ref q_p1_places])), (q_p1_places, .inl (a 0, 9, .inl p1_places))] H := hP
  have hD : va_D A [(q_t, .inr (6, [.int p1_rounds, .int p1_months, .int p1_law, .int p1_holds, .int p1_hoarse, .int p1_keptIn, .int p1_colds, .ref q_places])), (q_places, .inl (a 0, 9, .inl places)), (q_p1, .inr (6, [.int p1_rounds, .int p1_months, .int p1_law, .int p1_holds, .int p1_hoarse, .int p1_keptIn, .int p1_colds, .ref q_p1_places])), (q_p1_places, .inl (a 0, 9, .inl p1_places))] := hD
  refine lv_aload_n hx hb dX6_become_56 rfl (lv_at hl 1 rfl) ?_
  refine g_get hX hiX6 hP 2 rfl rfl 7 (by decide) hk8 rfl rfl dX6_become_57 ?_
  refine lv_aload_n hx hb dX6_become_60 rfl (lv_at hl 0 rfl) ?_
  refine g_get hX hiX6 hP 0 rfl rfl 7 (by decide) hk8 rfl rfl dX6_become_61 ?_
  obtain ⟨o1, ho1, hf⟩ := o_bd hf
  refine call_vSN hX (c_X10_copyRow l D a t q_p1_places p1_places 9 q_places places 9 o1 ho1) (va_cnB 2 hts gX6_become_X10_copyRow_n45 rfl rfl rfl (nw_66 hN) hk10 hdS_X10_copyRow ⟨by decide, by decide⟩) hk9 (Cut.of hA hP hD hS [3, 1] (by decide) rfl rfl (W' := [(q_t, .inr (6, [.int p1_rounds, .int p1_months, .int p1_law, .int p1_holds, .int p1_hoarse, .int p1_keptIn, .int p1_colds, .ref q_places])), (q_places, .inl (a 0, 9, .inl o1)), (q_p1, .inr (6, [.int p1_rounds, .int p1_months, .int p1_law, .int p1_holds, .int p1_hoarse, .int p1_keptIn, .int p1_colds, .ref q_p1_places])), (q_p1_places, .inl (a 0, 9, .inl p1_places))]) rfl) hS rfl hl.1 rfl (Nat.le_of_ble_eq_true rfl) dX6_become_64 (by decide) (fun H locs hP hD hS => ?_)
  have hP : va_P D vwCl [(q_t, .inr (6, [.int p1_rounds, .int p1_months, .int p1_law, .int p1_holds, .int p1_hoarse, .int p1_keptIn, .int p1_colds, .ref q_places])), (q_places, .inl (a 0, 9, .inl o1)), (q_p1, .inr (6, [.int p1_rounds, .int p1_months, .int p1_law, .int p1_holds, .int p1_hoarse, .int p1_keptIn, .int p1_colds, .ref q_p1_places])), (q_p1_places, .inl (a 0, 9, .inl p1_places))] H := hP
  have hD : va_D A [(q_t, .inr (6, [.int p1_rounds, .int p1_months, .int p1_law, .int p1_holds, .int p1_hoarse, .int p1_keptIn, .int p1_colds, .ref q_places])), (q_places, .inl (a 0, 9, .inl o1)), (q_p1, .inr (6, [.int p1_rounds, .int p1_months, .int p1_law, .int p1_holds, .int p1_hoarse, .int p1_keptIn, .int p1_colds, .ref q_p1_places])), (q_p1_places, .inl (a 0, 9, .inl p1_places))] := hD
  cases hf
  exact hret _ _ _ _ hP hD hS dX6_become_67
def f_X7_clear (t_clauses : Int32) (t_corners : Int32) (t_hearers : Int32) (t_firstColds : Int32) : Option (Int32 × Int32 × Int32 × Int32) :=
  some ((0 : Int32), (0 : Int32), (0 : Int32), (0 : Int32))
theorem hdS_X7_clear : yX7_clear.cls ≠ "java/lang/invoke/MethodHandle" ∧ yX7_clear.cls ≠ "java/lang/invoke/VarHandle" ∧ (parseMethodDescriptor yX7_clear.desc).map (fun d => d.parameters.length) = some 0 := by decide +kernel
theorem hdV_X7_clear : yX7_clear.cls = RX7 ∧ yX7_clear.cls ≠ "java/lang/invoke/MethodHandle" ∧ yX7_clear.cls ≠ "java/lang/invoke/VarHandle" ∧ (parseMethodDescriptor yX7_clear.desc).map (fun d => d.parameters.length) = some 0 := ⟨rfl, hdS_X7_clear⟩
set_option maxHeartbeats 4000000 in
set_option maxRecDepth 100000 in
theorem c_X7_clear (l : Launch) (D : va_G) (a : Nat → ClassId) (t : Nat) (q_t : Nat) (t_clauses : Int32) (t_corners : Int32) (t_hearers : Int32) (t_firstColds : Int32) (q_beers : Nat) (q_firstPlaces : Nat) (q_pinches : Nat) (q_sayings : Nat) (o_t_clauses : Int32) (o_t_corners : Int32) (o_t_hearers : Int32) (o_t_firstColds : Int32) (hf : f_X7_clear t_clauses t_corners t_hearers t_firstColds = some (o_t_clauses, o_t_corners, o_t_hearers, o_t_firstColds)) : Kv l yX7_clear wsX7_clear 0 0 D a t [.ref q_t] [(q_t, .inr (7, [.int t_clauses, .int t_corners, .int t_hearers, .int t_firstColds, .ref q_beers, .ref q_firstPlaces, .ref q_pinches, .ref q_sayings]))] [(q_t, .inr (7, [.int o_t_clauses, .int o_t_corners, .int o_t_hearers, .int o_t_firstColds, .ref q_beers, .ref q_firstPlaces, .ref q_pinches, .ref q_sayings]))] := by
  refine Kv.mk (cc := cX7_clear) (nL := 1) (own := RX7) (by decide) rfl rfl (Nat.le_of_ble_eq_true rfl) ?_
  intro p e s m args below meth c A Q ls hX hP hD hS hl hret
  have hx := hX.1.1
  have hb := hX.1.2.1
  have hown := hX.1.2.2.2.1
  have hts := hX.1.2.2.2.2
  have hN := hX.2.2.1
  have hA := hX.2.2.2.2
  have hl : lv_has ls 1 [(0, .ref q_t)] := hl
  have hk1 := hts (.fieldLink RX7 24 "GainsaidOnce$Town" "clauses" "I") (List.mem_of_getElem? (i := 1) rfl)
  have hk2 := hts (.fieldLink RX7 28 "GainsaidOnce$Town" "corners" "I") (List.mem_of_getElem? (i := 2) rfl)
  have hk3 := hts (.fieldLink RX7 31 "GainsaidOnce$Town" "hearers" "I") (List.mem_of_getElem? (i := 3) rfl)
  have hk4 := hts (.fieldLink RX7 34 "GainsaidOnce$Town" "firstColds" "I") (List.mem_of_getElem? (i := 4) rfl)
  have hiX7 : ∀ w ∈ wsX70, w ∈ wsX7_clear := (fun _ h => List.mem_cons_of_mem _ (List.mem_append_right _ h))
  unfold f_X7_clear at hf
  refine lv_aload_n hx hb dX7_clear_0 rfl (lv_at hl 0 rfl) ?_
  refine lv_iconst (v := (0 : Int32)) hx hb dX7_clear_1 (by decide) ?_
  refine g_put hX hiX7 tyX7 tyX7_ok nmX7 hP hD hS 0 rfl rfl 0 (by decide) hk1 rfl rfl rfl rfl (Nat.le_of_ble_eq_true rfl) dX7_clear_2 (fun H locs hP hD hS => ?_)
  have hP : va_P D vwCl [(q_t, .inr (7, [.int (0 : Int32), .int t_corners, .int t_hearers, .int t_firstColds, .ref q_beers, .ref q_firstPlaces, .ref q_pinches, .ref q_sayings]))] H := hP
  have hD : va_D A [(q_t, .inr (7, [.int (0 : Int32), .int t_corners, .int t_hearers, .int t_firstColds, .ref q_beers, .ref q_firstPlaces, .ref q_pinches, .ref q_sayings]))] := hD
  refine lv_aload_n hx hb dX7_clear_5 rfl (lv_at hl 0 rfl) ?_
  refine lv_iconst (v := (0 : Int32)) hx hb dX7_clear_6 (by decide) ?_
  refine g_put hX hiX7 tyX7 tyX7_ok nmX7 hP hD hS 0 rfl rfl 1 (by decide) hk2 rfl rfl rfl rfl (Nat.le_of_ble_eq_true rfl) dX7_clear_7 (fun H locs hP hD hS => ?_)
  have hP : va_P D vwCl [(q_t, .inr (7, [.int (0 : Int32), .int (0 : Int32), .int t_hearers, .int t_firstColds, .ref q_beers, .ref q_firstPlaces, .ref q_pinches, .ref q_sayings]))] H := hP
  have hD : va_D A [(q_t, .inr (7, [.int (0 : Int32), .int (0 : Int32), .int t_hearers, .int t_firstColds, .ref q_beers, .ref q_firstPlaces, .ref q_pinches, .ref q_sayings]))] := hD
  refine lv_aload_n hx hb dX7_clear_10 rfl (lv_at hl 0 rfl) ?_
  refine lv_iconst (v := (0 : Int32)) hx hb dX7_clear_11 (by decide) ?_
  refine g_put hX hiX7 tyX7 tyX7_ok nmX7 hP hD hS 0 rfl rfl 2 (by decide) hk3 rfl rfl rfl rfl (Nat.le_of_ble_eq_true rfl) dX7_clear_12 (fun H locs hP hD hS => ?_)
  have hP : va_P D vwCl [(q_t, .inr (7, [.int (0 : Int32), .int (0 : Int32), .int (0 : Int32), .int t_firstColds, .ref q_beers, .ref q_firstPlaces, .ref q_pinches, .ref q_sayings]))] H := hP
  have hD : va_D A [(q_t, .inr (7, [.int (0 : Int32), .int (0 : Int32), .int (0 : Int32), .int t_firstColds, .ref q_beers, .ref q_firstPlaces, .ref q_pinches, .ref q_sayings]))] := hD
  refine lv_aload_n hx hb dX7_clear_15 rfl (lv_at hl 0 rfl) ?_
  refine lv_iconst (v := (0 : Int32)) hx hb dX7_clear_16 (by decide) ?_
  refine g_put hX hiX7 tyX7 tyX7_ok nmX7 hP hD hS 0 rfl rfl 3 (by decide) hk4 rfl rfl rfl rfl (Nat.le_of_ble_eq_true rfl) dX7_clear_17 (fun H locs hP hD hS => ?_)
  have hP : va_P D vwCl [(q_t, .inr (7, [.int (0 : Int32), .int (0 : Int32), .int (0 : Int32), .int (0 : Int32), .ref q_beers, .ref q_firstPlaces, .ref q_pinches, .ref q_sayings]))] H := hP
  have hD : va_D A [(q_t, .inr (7, [.int (0 : Int32), .int (0 : Int32), .int (0 : Int32), .int (0 : Int32), .ref q_beers, .ref q_firstPlaces, .ref q_pinches, .ref q_sayings]))] := hD
  cases hf
  exact hret _ _ _ _ hP hD hS dX7_clear_20
def f_X5_get (n_items : Nat) (t_count : Int32) (items : Nat → Int32) (x1 : Int32) : Option (Int32) :=
  if x1 < 0 then (some (-1 : Int32))
  else (if t_count ≤ x1 then (some (-1 : Int32))
  else (if (Int32.ofNat n_items) ≤ x1 then (some (-1 : Int32))
  else ((o_ld items n_items x1).bind fun v4 =>
  some v4)))
theorem hdS_X5_get : yX5_get.cls ≠ "java/lang/invoke/MethodHandle" ∧ yX5_get.cls ≠ "java/lang/invoke/VarHandle" ∧ (parseMethodDescriptor yX5_get.desc).map (fun d => d.parameters.length) = some 1 := by decide +kernel
theorem hdV_X5_get : yX5_get.cls = RX5 ∧ yX5_get.cls ≠ "java/lang/invoke/MethodHandle" ∧ yX5_get.cls ≠ "java/lang/invoke/VarHandle" ∧ (parseMethodDescriptor yX5_get.desc).map (fun d => d.parameters.length) = some 1 := ⟨rfl, hdS_X5_get⟩
set_option maxHeartbeats 4000000 in
set_option maxRecDepth 100000 in
theorem c_X5_get (l : Launch) (D : va_G) (a : Nat → ClassId) (t : Nat) (q_t : Nat) (q_items : Nat) (t_count : Int32) (items : Nat → Int32) (n_items : Nat) (x1 : Int32) (r : Int32) (hf : f_X5_get n_items t_count items x1 = some r) : Ki l yX5_get wsX5_get 0 0 D a t [.ref q_t, .int x1] [(q_t, .inr (5, [.ref q_items, .int t_count])), (q_items, .inl (a 0, n_items, .inl items))] [(q_t, .inr (5, [.ref q_items, .int t_count])), (q_items, .inl (a 0, n_items, .inl items))] r := by
  refine Ki.mk (cc := cX5_get) (nL := 2) (ty := .int) (own := RX5) (by decide) rfl rfl (Nat.le_of_ble_eq_true rfl) ?_
  intro p e s m args below meth c A Q ls hX hP hD hS hl hret
  have hx := hX.1.1
  have hb := hX.1.2.1
  have hown := hX.1.2.2.2.1
  have hts := hX.1.2.2.2.2
  have hN := hX.2.2.1
  have hA := hX.2.2.2.2
  have hl : lv_has ls 2 [(0, .ref q_t), (1, .int x1)] := hl
  have hk1 := hts (.fieldLink RX5 21 "GainsaidOnce$Row" "count" "I") (List.mem_of_getElem? (i := 1) rfl)
  have hk2 := hts (.fieldLink RX5 15 "GainsaidOnce$Row" "items" "[I") (List.mem_of_getElem? (i := 2) rfl)
  have hiX5 : ∀ w ∈ wsX50, w ∈ wsX5_get := (fun _ h => List.mem_cons_of_mem _ (List.mem_append_right _ h))
  unfold f_X5_get at hf
  refine lv_iload_n hx hb dX5_get_0 rfl (lv_at hl 1 rfl) ?_
  refine lv_if_lt (tgt := 30) hx hb dX5_get_1 (by decide) (fun c1 => ?_) (fun c1 => ?_)
  · have hf := o_ifp hf c1
    refine lv_iconst (v := (-1 : Int32)) hx hb dX5_get_30 (by decide) ?_
    cases hf
    exact hret _ _ _ _ (vp_nar_int _) hP hD hS dX5_get_31
  have hf := o_ifn hf c1
  refine lv_iload_n hx hb dX5_get_4 rfl (lv_at hl 1 rfl) ?_
  refine lv_aload_n hx hb dX5_get_5 rfl (lv_at hl 0 rfl) ?_
  refine g_get hX hiX5 hP 0 rfl rfl 1 (by decide) hk1 rfl rfl dX5_get_6 ?_
  refine lv_icmp_ge (tgt := 30) hx hb dX5_get_9 (by decide) (fun c2 => ?_) (fun c2 => ?_)
  · have hf := o_ifp hf c2
    refine lv_iconst (v := (-1 : Int32)) hx hb dX5_get_30 (by decide) ?_
    cases hf
    exact hret _ _ _ _ (vp_nar_int _) hP hD hS dX5_get_31
  have hf := o_ifn hf c2
  refine lv_iload_n hx hb dX5_get_12 rfl (lv_at hl 1 rfl) ?_
  refine lv_aload_n hx hb dX5_get_13 rfl (lv_at hl 0 rfl) ?_
  refine g_get hX hiX5 hP 0 rfl rfl 0 (by decide) hk2 rfl rfl dX5_get_14 ?_
  refine g_alen hX hP 1 0 rfl rfl dX5_get_17 ?_
  refine lv_icmp_ge (tgt := 30) hx hb dX5_get_18 (by decide) (fun c3 => ?_) (fun c3 => ?_)
  · have hf := o_ifp hf c3
    refine lv_iconst (v := (-1 : Int32)) hx hb dX5_get_30 (by decide) ?_
    cases hf
    exact hret _ _ _ _ (vp_nar_int _) hP hD hS dX5_get_31
  have hf := o_ifn hf c3
  refine lv_aload_n hx hb dX5_get_21 rfl (lv_at hl 0 rfl) ?_
  refine g_get hX hiX5 hP 0 rfl rfl 0 (by decide) hk2 rfl rfl dX5_get_22 ?_
  refine lv_iload_n hx hb dX5_get_25 rfl (lv_at hl 1 rfl) ?_
  obtain ⟨hiv4, hf⟩ := o_ldh hf
  refine g_iald hX hP 1 rfl hiv4 dX5_get_26 (fun v4 ev4 => ?_)
  have hf := hf v4 ev4
  refine lv_goto (tgt := 31) hx hb dX5_get_27 (by decide) ?_
  cases hf
  exact hret _ _ _ _ (vp_nar_int _) hP hD hS dX5_get_31
def f_X7_stands (t_clauses : Int32) : Option (Int32) :=
  if t_clauses = 0 then (some (0 : Int32))
  else (some (1 : Int32))
theorem hdS_X7_stands : yX7_stands.cls ≠ "java/lang/invoke/MethodHandle" ∧ yX7_stands.cls ≠ "java/lang/invoke/VarHandle" ∧ (parseMethodDescriptor yX7_stands.desc).map (fun d => d.parameters.length) = some 0 := by decide +kernel
theorem hdV_X7_stands : yX7_stands.cls = RX7 ∧ yX7_stands.cls ≠ "java/lang/invoke/MethodHandle" ∧ yX7_stands.cls ≠ "java/lang/invoke/VarHandle" ∧ (parseMethodDescriptor yX7_stands.desc).map (fun d => d.parameters.length) = some 0 := ⟨rfl, hdS_X7_stands⟩
set_option maxHeartbeats 4000000 in
set_option maxRecDepth 100000 in
theorem c_X7_stands (l : Launch) (D : va_G) (a : Nat → ClassId) (t : Nat) (q_t : Nat) (t_clauses : Int32) (t_corners : Int32) (t_hearers : Int32) (t_firstColds : Int32) (q_beers : Nat) (q_firstPlaces : Nat) (q_pinches : Nat) (q_sayings : Nat) (r : Int32) (hf : f_X7_stands t_clauses = some r) : Ki l yX7_stands wsX7_stands 0 0 D a t [.ref q_t] [(q_t, .inr (7, [.int t_clauses, .int t_corners, .int t_hearers, .int t_firstColds, .ref q_beers, .ref q_firstPlaces, .ref q_pinches, .ref q_sayings]))] [(q_t, .inr (7, [.int t_clauses, .int t_corners, .int t_hearers, .int t_firstColds, .ref q_beers, .ref q_firstPlaces, .ref q_pinches, .ref q_sayings]))] r := by
  refine Ki.mk (cc := cX7_stands) (nL := 1) (ty := .boolean) (own := RX7) (by decide) rfl rfl (Nat.le_of_ble_eq_true rfl) ?_
  intro p e s m args below meth c A Q ls hX hP hD hS hl hret
  have hx := hX.1.1
  have hb := hX.1.2.1
  have hown := hX.1.2.2.2.1
  have hts := hX.1.2.2.2.2
  have hN := hX.2.2.1
  have hA := hX.2.2.2.2
  have hl : lv_has ls 1 [(0, .ref q_t)] := hl
  have hk1 := hts (.fieldLink RX7 24 "GainsaidOnce$Town" "clauses" "I") (List.mem_of_getElem? (i := 1) rfl)
  have hiX7 : ∀ w ∈ wsX70, w ∈ wsX7_stands := (fun _ h => List.mem_cons_of_mem _ (List.mem_append_right _ h))
  unfold f_X7_stands at hf
  refine lv_aload_n hx hb dX7_stands_0 rfl (lv_at hl 0 rfl) ?_
  refine g_get hX hiX7 hP 0 rfl rfl 0 (by decide) hk1 rfl rfl dX7_stands_1 ?_
  refine lv_if_eq (tgt := 11) hx hb dX7_stands_4 (by decide) (fun c1 => ?_) (fun c1 => ?_)
  · have hf := o_ifp hf c1
    refine lv_iconst (v := (0 : Int32)) hx hb dX7_stands_11 (by decide) ?_
    cases hf
    exact hret _ _ _ _ narrow_b0 hP hD hS dX7_stands_12
  have hf := o_ifn hf c1
  refine lv_iconst (v := (1 : Int32)) hx hb dX7_stands_7 (by decide) ?_
  refine lv_goto (tgt := 12) hx hb dX7_stands_8 (by decide) ?_
  cases hf
  exact hret _ _ _ _ narrow_b1 hP hD hS dX7_stands_12
def f_X10_put (n_p0 : Nat) (p0_a : Nat → Int32) (x1 : Int32) (x2 : Int32) : Option ((Nat → Int32)) :=
  if x1 < 0 then (some p0_a)
  else (if (Int32.ofNat n_p0) ≤ x1 then (some p0_a)
  else ((o_st p0_a n_p0 x1 x2).bind fun w3 =>
  some w3))
theorem hdS_X10_put : yX10_put.cls ≠ "java/lang/invoke/MethodHandle" ∧ yX10_put.cls ≠ "java/lang/invoke/VarHandle" ∧ (parseMethodDescriptor yX10_put.desc).map (fun d => d.parameters.length) = some 3 := by decide +kernel
theorem hdV_X10_put : yX10_put.cls = RX10 ∧ yX10_put.cls ≠ "java/lang/invoke/MethodHandle" ∧ yX10_put.cls ≠ "java/lang/invoke/VarHandle" ∧ (parseMethodDescriptor yX10_put.desc).map (fun d => d.parameters.length) = some 3 := ⟨rfl, hdS_X10_put⟩
set_option maxHeartbeats 4000000 in
set_option maxRecDepth 100000 in
theorem c_X10_put (l : Launch) (D : va_G) (a : Nat → ClassId) (t : Nat) (q_p0 : Nat) (p0_a : Nat → Int32) (n_p0 : Nat) (x1 : Int32) (x2 : Int32) (o_p0_a : Nat → Int32) (hf : f_X10_put n_p0 p0_a x1 x2 = some o_p0_a) : Kv l yX10_put wsX10_put 0 0 D a t [.ref q_p0, .int x1, .int x2] [(q_p0, .inl (a 0, n_p0, .inl p0_a))] [(q_p0, .inl (a 0, n_p0, .inl o_p0_a))] := by
  refine Kv.mk (cc := cX10_put) (nL := 3) (own := RX10) (by decide) rfl rfl (Nat.le_of_ble_eq_true rfl) ?_
  intro p e s m args below meth c A Q ls hX hP hD hS hl hret
  have hx := hX.1.1
  have hb := hX.1.2.1
  have hown := hX.1.2.2.2.1
  have hts := hX.1.2.2.2.2
  have hN := hX.2.2.1
  have hA := hX.2.2.2.2
  have hl : lv_has ls 3 [(0, .ref q_p0), (1, .int x1), (2, .int x2)] := hl
  unfold f_X10_put at hf
  refine lv_iload_n hx hb dX10_put_0 rfl (lv_at hl 1 rfl) ?_
  refine lv_if_lt (tgt := 14) hx hb dX10_put_1 (by decide) (fun c1 => ?_) (fun c1 => ?_)
  · have hf := o_ifp hf c1
    cases hf
    exact hret _ _ _ _ hP hD hS dX10_put_14
  have hf := o_ifn hf c1
  refine lv_iload_n hx hb dX10_put_4 rfl (lv_at hl 1 rfl) ?_
  refine lv_aload_n hx hb dX10_put_5 rfl (lv_at hl 0 rfl) ?_
  refine g_alen hX hP 0 0 rfl rfl dX10_put_6 ?_
  refine lv_icmp_ge (tgt := 14) hx hb dX10_put_7 (by decide) (fun c2 => ?_) (fun c2 => ?_)
  · have hf := o_ifp hf c2
    cases hf
    exact hret _ _ _ _ hP hD hS dX10_put_14
  have hf := o_ifn hf c2
  refine lv_aload_n hx hb dX10_put_10 rfl (lv_at hl 0 rfl) ?_
  refine lv_iload_n hx hb dX10_put_11 rfl (lv_at hl 1 rfl) ?_
  refine lv_iload_n hx hb dX10_put_12 rfl (lv_at hl 2 rfl) ?_
  obtain ⟨hiw3, hf⟩ := o_sth hf
  refine g_iast hX hP hD hS 0 rfl hiw3 dX10_put_13 (fun w3 ew3 H locs hP hD hS => ?_)
  have hf := hf w3 ew3
  have hP : va_P D vwCl [(q_p0, .inl (a 0, n_p0, .inl w3))] H := hP
  have hD : va_D A [(q_p0, .inl (a 0, n_p0, .inl w3))] := hD
  cases hf
  exact hret _ _ _ _ hP hD hS dX10_put_14
def f_X10_withBit (x0 : Int32) (x1 : Int32) (x2 : Int32) : Option (Int32) :=
  if x2 = 0 then (some (x0 &&& (((1 : Int32) <<< (x1 &&& 31)) ^^^ (-1 : Int32))))
  else (some (x0 ||| ((1 : Int32) <<< (x1 &&& 31))))
theorem hdS_X10_withBit : yX10_withBit.cls ≠ "java/lang/invoke/MethodHandle" ∧ yX10_withBit.cls ≠ "java/lang/invoke/VarHandle" ∧ (parseMethodDescriptor yX10_withBit.desc).map (fun d => d.parameters.length) = some 3 := by decide +kernel
theorem hdV_X10_withBit : yX10_withBit.cls = RX10 ∧ yX10_withBit.cls ≠ "java/lang/invoke/MethodHandle" ∧ yX10_withBit.cls ≠ "java/lang/invoke/VarHandle" ∧ (parseMethodDescriptor yX10_withBit.desc).map (fun d => d.parameters.length) = some 3 := ⟨rfl, hdS_X10_withBit⟩
set_option maxHeartbeats 4000000 in
set_option maxRecDepth 100000 in
theorem c_X10_withBit (l : Launch) (D : va_G) (a : Nat → ClassId) (t : Nat) (x0 : Int32) (x1 : Int32) (x2 : Int32) (r : Int32) (hf : f_X10_withBit x0 x1 x2 = some r) : Ki l yX10_withBit wsX10_withBit 0 0 D a t [.int x0, .int x1, .int x2] [] [] r := by
  refine Ki.mk (cc := cX10_withBit) (nL := 3) (ty := .int) (own := RX10) (by decide) rfl rfl (Nat.le_of_ble_eq_true rfl) ?_
  intro p e s m args below meth c A Q ls hX hP hD hS hl hret
  have hx := hX.1.1
  have hb := hX.1.2.1
  have hown := hX.1.2.2.2.1
  have hts := hX.1.2.2.2.2
  have hN := hX.2.2.1
  have hA := hX.2.2.2.2
  have hl : lv_has ls 3 [(0, .int x0), (1, .int x1), (2, .int x2)] := hl
  unfold f_X10_withBit at hf
  refine lv_iload_n hx hb dX10_withBit_0 rfl (lv_at hl 2 rfl) ?_
  refine lv_if_eq (tgt := 12) hx hb dX10_withBit_1 (by decide) (fun c1 => ?_) (fun c1 => ?_)
  · have hf := o_ifp hf c1
    refine lv_iload_n hx hb dX10_withBit_12 rfl (lv_at hl 0 rfl) ?_
    refine lv_iconst (v := (1 : Int32)) hx hb dX10_withBit_13 (by decide) ?_
    refine lv_iload_n hx hb dX10_withBit_14 rfl (lv_at hl 1 rfl) ?_
    refine lv_ishl hx hb dX10_withBit_15 ?_
    refine lv_iconst (v := (-1 : Int32)) hx hb dX10_withBit_16 (by decide) ?_
    refine lv_ixor hx hb dX10_withBit_17 ?_
    refine lv_iand hx hb dX10_withBit_18 ?_
    cases hf
    exact hret _ _ _ _ (vp_nar_int _) hP hD hS dX10_withBit_19
  have hf := o_ifn hf c1
  refine lv_iload_n hx hb dX10_withBit_4 rfl (lv_at hl 0 rfl) ?_
  refine lv_iconst (v := (1 : Int32)) hx hb dX10_withBit_5 (by decide) ?_
  refine lv_iload_n hx hb dX10_withBit_6 rfl (lv_at hl 1 rfl) ?_
  refine lv_ishl hx hb dX10_withBit_7 ?_
  refine lv_ior hx hb dX10_withBit_8 ?_
  refine lv_goto (tgt := 19) hx hb dX10_withBit_9 (by decide) ?_
  cases hf
  exact hret _ _ _ _ (vp_nar_int _) hP hD hS dX10_withBit_19
def f_X7_addCorner (t_corners : Int32) (t_firstColds : Int32) (beers : Nat → Int32) (x1 : Int32) (x2 : Int32) : Option (Int32 × Int32 × (Nat → Int32)) :=
  (f_X10_put 8 beers t_corners x1).bind fun o1 =>
  (f_X10_withBit t_firstColds t_corners x2).bind fun o2 =>
  o_nm ((t_corners + (1 : Int32))) fun v3 =>
  some (v3, o2, o1)
theorem hdS_X7_addCorner : yX7_addCorner.cls ≠ "java/lang/invoke/MethodHandle" ∧ yX7_addCorner.cls ≠ "java/lang/invoke/VarHandle" ∧ (parseMethodDescriptor yX7_addCorner.desc).map (fun d => d.parameters.length) = some 2 := by decide +kernel
theorem hdV_X7_addCorner : yX7_addCorner.cls = RX7 ∧ yX7_addCorner.cls ≠ "java/lang/invoke/MethodHandle" ∧ yX7_addCorner.cls ≠ "java/lang/invoke/VarHandle" ∧ (parseMethodDescriptor yX7_addCorner.desc).map (fun d => d.parameters.length) = some 2 := ⟨rfl, hdS_X7_addCorner⟩
set_option maxHeartbeats 4000000 in
set_option maxRecDepth 100000 in
theorem c_X7_addCorner (l : Launch) (D : va_G) (a : Nat → ClassId) (t : Nat) (q_t : Nat) (t_clauses : Int32) (t_corners : Int32) (t_hearers : Int32) (t_firstColds : Int32) (q_beers : Nat) (q_firstPlaces : Nat) (q_pinches : Nat) (q_sayings : Nat) (beers : Nat → Int32) (x1 : Int32) (x2 : Int32) (o_t_corners : Int32) (o_t_firstColds : Int32) (o_beers : Nat → Int32) (hf : f_X7_addCorner t_corners t_firstColds beers x1 x2 = some (o_t_corners, o_t_firstColds, o_beers)) : Kv l yX7_addCorner wsX7_addCorner 1 22 D a t [.ref q_t, .int x1, .int x2] [(q_t, .inr (7, [.int t_clauses, .int t_corners, .int t_hearers, .int t_firstColds, .ref q_beers, .ref q_firstPlaces, .ref q_pinches, .ref q_sayings])), (q_beers, .inl (a 0, 8, .inl beers))] [(q_t, .inr (7, [.int t_clauses, .int o_t_corners, .int t_hearers, .int o_t_firstColds, .ref q_beers, .ref q_firstPlaces, .ref q_pinches, .ref q_sayings])), (q_beers, .inl (a 0, 8, .inl o_beers))] := by
  refine Kv.mk (cc := cX7_addCorner) (nL := 3) (own := RX7) (by decide) rfl rfl (Nat.le_of_ble_eq_true rfl) ?_
  intro p e s m args below meth c A Q ls hX hP hD hS hl hret
  have hx := hX.1.1
  have hb := hX.1.2.1
  have hown := hX.1.2.2.2.1
  have hts := hX.1.2.2.2.2
  have hN := hX.2.2.1
  have hA := hX.2.2.2.2
  have hl : lv_has ls 3 [(0, .ref q_t), (1, .int x1), (2, .int x2)] := hl
  have hk1 := hts (.fieldLink RX7 9 "GainsaidOnce$Town" "beers" "[I") (List.mem_of_getElem? (i := 1) rfl)
  have hk2 := hts (.fieldLink RX7 28 "GainsaidOnce$Town" "corners" "I") (List.mem_of_getElem? (i := 2) rfl)
  have hk3 := hts (.fieldLink RX7 34 "GainsaidOnce$Town" "firstColds" "I") (List.mem_of_getElem? (i := 3) rfl)
  have hk4 := hts (.static yX10_put) (List.mem_of_getElem? (i := 4) rfl)
  have hk5 := hts (.initialized RX10) (List.mem_of_getElem? (i := 5) rfl)
  have hk7 := hts (.static yX10_withBit) (List.mem_of_getElem? (i := 7) rfl)
  have hiX7 : ∀ w ∈ wsX70, w ∈ wsX7_addCorner := (fun _ h => List.mem_cons_of_mem _ (List.mem_append_right _ h))
  unfold f_X7_addCorner at hf
  refine lv_aload_n hx hb dX7_addCorner_0 rfl (lv_at hl 0 rfl) ?_
  refine g_get hX hiX7 hP 0 rfl rfl 4 (by decide) hk1 rfl rfl dX7_addCorner_1 ?_
  refine lv_aload_n hx hb dX7_addCorner_4 rfl (lv_at hl 0 rfl) ?_
  refine g_get hX hiX7 hP 0 rfl rfl 1 (by decide) hk2 rfl rfl dX7_addCorner_5 ?_
  refine lv_iload_n hx hb dX7_addCorner_8 rfl (lv_at hl 1 rfl) ?_
  obtain ⟨o1, ho1, hf⟩ := o_bd hf
  refine call_vSN hX (c_X10_put l D a t q_beers beers 8 t_corners x1 o1 ho1) (va_cnB 3 hts gX7_addCorner_X10_put_n41 rfl rfl rfl (nw_63 hN) hk5 hdS_X10_put ⟨by decide, by decide⟩) hk4 (Cut.of hA hP hD hS [1] (by decide) rfl rfl (W' := [(q_t, .inr (7, [.int t_clauses, .int t_corners, .int t_hearers, .int t_firstColds, .ref q_beers, .ref q_firstPlaces, .ref q_pinches, .ref q_sayings])), (q_beers, .inl (a 0, 8, .inl o1))]) rfl) hS rfl hl.1 rfl (Nat.le_of_ble_eq_true rfl) dX7_addCorner_9 (by decide) (fun H locs hP hD hS => ?_)
  have hP : va_P D vwCl [(q_t, .inr (7, [.int t_clauses, .int t_corners, .int t_hearers, .int t_firstColds, .ref q_beers, .ref q_firstPlaces, .ref q_pinches, .ref q_sayings])), (q_beers, .inl (a 0, 8, .inl o1))] H := hP
  have hD : va_D A [(q_t, .inr (7, [.int t_clauses, .int t_corners, .int t_hearers, .int t_firstColds, .ref q_beers, .ref q_firstPlaces, .ref q_pinches, .ref q_sayings])), (q_beers, .inl (a 0, 8, .inl o1))] := hD
  refine lv_aload_n hx hb dX7_addCorner_12 rfl (lv_at hl 0 rfl) ?_
  refine lv_aload_n hx hb dX7_addCorner_13 rfl (lv_at hl 0 rfl) ?_
  refine g_get hX hiX7 hP 0 rfl rfl 3 (by decide) hk3 rfl rfl dX7_addCorner_14 ?_
  refine lv_aload_n hx hb dX7_addCorner_17 rfl (lv_at hl 0 rfl) ?_
  refine g_get hX hiX7 hP 0 rfl rfl 1 (by decide) hk2 rfl rfl dX7_addCorner_18 ?_
  refine lv_iload_n hx hb dX7_addCorner_21 rfl (lv_at hl 2 rfl) ?_
  obtain ⟨o2, ho2, hf⟩ := o_bd hf
  refine call_iSN hX (c_X10_withBit l D a t t_firstColds t_corners x2 o2 ho2) (va_cnB 3 hts gX7_addCorner_X10_withBit_n45 rfl rfl rfl (nw_64 hN) hk5 hdS_X10_withBit ⟨by decide, by decide⟩) hk7 (Cut.none hA hP hD hS) hS rfl hl.1 rfl (Nat.le_of_ble_eq_true rfl) dX7_addCorner_22 (by decide) (fun H locs hP hD hS => ?_)
  refine g_put hX hiX7 tyX7 tyX7_ok nmX7 hP hD hS 0 rfl rfl 3 (by decide) hk3 rfl rfl rfl rfl (Nat.le_of_ble_eq_true rfl) dX7_addCorner_25 (fun H locs hP hD hS => ?_)
  have hP : va_P D vwCl [(q_t, .inr (7, [.int t_clauses, .int t_corners, .int t_hearers, .int o2, .ref q_beers, .ref q_firstPlaces, .ref q_pinches, .ref q_sayings])), (q_beers, .inl (a 0, 8, .inl o1))] H := hP
  have hD : va_D A [(q_t, .inr (7, [.int t_clauses, .int t_corners, .int t_hearers, .int o2, .ref q_beers, .ref q_firstPlaces, .ref q_pinches, .ref q_sayings])), (q_beers, .inl (a 0, 8, .inl o1))] := hD
  refine lv_aload_n hx hb dX7_addCorner_28 rfl (lv_at hl 0 rfl) ?_
  refine lv_dup hx hb dX7_addCorner_29 rfl ?_
  refine g_get hX hiX7 hP 0 rfl rfl 1 (by decide) hk2 rfl rfl dX7_addCorner_30 ?_
  refine lv_iconst (v := (1 : Int32)) hx hb dX7_addCorner_33 (by decide) ?_
  refine lv_iadd hx hb dX7_addCorner_34 ?_
  refine lv_topi (fun v3 ev3 => ?_)
  have hf := o_nmh hf v3 ev3
  refine g_put hX hiX7 tyX7 tyX7_ok nmX7 hP hD hS 0 rfl rfl 1 (by decide) hk2 rfl rfl rfl rfl (Nat.le_of_ble_eq_true rfl) dX7_addCorner_35 (fun H locs hP hD hS => ?_)
  have hP : va_P D vwCl [(q_t, .inr (7, [.int t_clauses, .int v3, .int t_hearers, .int o2, .ref q_beers, .ref q_firstPlaces, .ref q_pinches, .ref q_sayings])), (q_beers, .inl (a 0, 8, .inl o1))] H := hP
  have hD : va_D A [(q_t, .inr (7, [.int t_clauses, .int v3, .int t_hearers, .int o2, .ref q_beers, .ref q_firstPlaces, .ref q_pinches, .ref q_sayings])), (q_beers, .inl (a 0, 8, .inl o1))] := hD
  cases hf
  exact hret _ _ _ _ hP hD hS dX7_addCorner_38
def f_X7_addHearer_43  (t_hearers : Int32) (firstPlaces : (Nat → Int32)) (pinches : (Nat → Int32)) (sayings : (Nat → Int32)) (s0 : Int32) (s1 : Int32) : Option (Int32 × (Nat → Int32) × (Nat → Int32) × (Nat → Int32)) :=
  (f_X10_put 9 sayings s0 s1).bind fun o1 =>
  o_nm ((t_hearers + (1 : Int32))) fun v2 =>
  some (v2, firstPlaces, pinches, o1)
def f_X7_addHearer (t_hearers : Int32) (firstPlaces : Nat → Int32) (pinches : Nat → Int32) (sayings : Nat → Int32) (x1 : Int32) (x2 : Int32) (x3 : Int32) : Option (Int32 × (Nat → Int32) × (Nat → Int32) × (Nat → Int32)) :=
  (f_X10_put 9 firstPlaces t_hearers x1).bind fun o3 =>
  (f_X10_put 9 pinches t_hearers x2).bind fun o4 =>
  if x3 = (8 : Int32) then (f_X7_addHearer_43 t_hearers o3 o4 sayings t_hearers (-1 : Int32))
  else (f_X7_addHearer_43 t_hearers o3 o4 sayings t_hearers x3)
theorem hdS_X7_addHearer : yX7_addHearer.cls ≠ "java/lang/invoke/MethodHandle" ∧ yX7_addHearer.cls ≠ "java/lang/invoke/VarHandle" ∧ (parseMethodDescriptor yX7_addHearer.desc).map (fun d => d.parameters.length) = some 3 := by decide +kernel
theorem hdV_X7_addHearer : yX7_addHearer.cls = RX7 ∧ yX7_addHearer.cls ≠ "java/lang/invoke/MethodHandle" ∧ yX7_addHearer.cls ≠ "java/lang/invoke/VarHandle" ∧ (parseMethodDescriptor yX7_addHearer.desc).map (fun d => d.parameters.length) = some 3 := ⟨rfl, hdS_X7_addHearer⟩
set_option maxHeartbeats 4000000 in
set_option maxRecDepth 100000 in
theorem c_X7_addHearer (l : Launch) (D : va_G) (a : Nat → ClassId) (t : Nat) (q_t : Nat) (t_clauses : Int32) (t_corners : Int32) (t_hearers : Int32) (t_firstColds : Int32) (q_beers : Nat) (q_firstPlaces : Nat) (q_pinches : Nat) (q_sayings : Nat) (firstPlaces : Nat → Int32) (pinches : Nat → Int32) (sayings : Nat → Int32) (x1 : Int32) (x2 : Int32) (x3 : Int32) (o_t_hearers : Int32) (o_firstPlaces : Nat → Int32) (o_pinches : Nat → Int32) (o_sayings : Nat → Int32) (hf : f_X7_addHearer t_hearers firstPlaces pinches sayings x1 x2 x3 = some (o_t_hearers, o_firstPlaces, o_pinches, o_sayings)) : Kv l yX7_addHearer wsX7_addHearer 1 22 D a t [.ref q_t, .int x1, .int x2, .int x3] [(q_t, .inr (7, [.int t_clauses, .int t_corners, .int t_hearers, .int t_firstColds, .ref q_beers, .ref q_firstPlaces, .ref q_pinches, .ref q_sayings])), (q_firstPlaces, .inl (a 0, 9, .inl firstPlaces)), (q_pinches, .inl (a 0, 9, .inl pinches)), (q_sayings, .inl (a 0, 9, .inl sayings))] [(q_t, .inr (7, [.int t_clauses, .int t_corners, .int o_t_hearers, .int t_firstColds, .ref q_beers, .ref q_firstPlaces, .ref q_pinches, .ref q_sayings])), (q_firstPlaces, .inl (a 0, 9, .inl o_firstPlaces)), (q_pinches, .inl (a 0, 9, .inl o_pinches)), (q_sayings, .inl (a 0, 9, .inl o_sayings))] := by
  refine Kv.mk (cc := cX7_addHearer) (nL := 4) (own := RX7) (by decide) rfl rfl (Nat.le_of_ble_eq_true rfl) ?_
  intro p e s m args below meth c A Q ls hX hP hD hS hl hret
  have hx := hX.1.1
  have hb := hX.1.2.1
  have hown := hX.1.2.2.2.1
  have hts := hX.1.2.2.2.2
  have hN := hX.2.2.1
  have hA := hX.2.2.2.2
  have hl : lv_has ls 4 [(0, .ref q_t), (1, .int x1), (2, .int x2), (3, .int x3)] := hl
  have hk1 := hts (.fieldLink RX7 15 "GainsaidOnce$Town" "firstPlaces" "[I") (List.mem_of_getElem? (i := 1) rfl)
  have hk2 := hts (.fieldLink RX7 31 "GainsaidOnce$Town" "hearers" "I") (List.mem_of_getElem? (i := 2) rfl)
  have hk3 := hts (.fieldLink RX7 18 "GainsaidOnce$Town" "pinches" "[I") (List.mem_of_getElem? (i := 3) rfl)
  have hk4 := hts (.fieldLink RX7 21 "GainsaidOnce$Town" "sayings" "[I") (List.mem_of_getElem? (i := 4) rfl)
  have hk5 := hts (.static yX10_put) (List.mem_of_getElem? (i := 5) rfl)
  have hk6 := hts (.initialized RX10) (List.mem_of_getElem? (i := 6) rfl)
  have hiX7 : ∀ w ∈ wsX70, w ∈ wsX7_addHearer := (fun _ h => List.mem_cons_of_mem _ (List.mem_append_right _ h))
  have L_43 : ∀ (t_hearers : Int32) (firstPlaces : (Nat → Int32)) (pinches : (Nat → Int32)) (sayings : (Nat → Int32)) (s0 : Int32) (s1 : Int32) (H : Heap) (locs : List Loc) (ls : Array Slot), f_X7_addHearer_43 t_hearers firstPlaces pinches sayings s0 s1 = some (o_t_hearers, o_firstPlaces, o_pinches, o_sayings) → va_P D vwCl [(q_t, .inr (7, [.int t_clauses, .int t_corners, .int t_hearers, .int t_firstColds, .ref q_beers, .ref q_firstPlaces, .ref q_pinches, .ref q_sayings])), (q_firstPlaces, .inl (a 0, 9, .inl firstPlaces)), (q_pinches, .inl (a 0, 9, .inl pinches)), (q_sayings, .inl (a 0, 9, .inl sayings))] H → va_D A [(q_t, .inr (7, [.int t_clauses, .int t_corners, .int t_hearers, .int t_firstColds, .ref q_beers, .ref q_firstPlaces, .ref q_pinches, .ref q_sayings])), (q_firstPlaces, .inl (a 0, 9, .inl firstPlaces)), (q_pinches, .inl (a 0, 9, .inl pinches)), (q_sayings, .inl (a 0, 9, .inl sayings))] → va_S A s.heap H locs → lv_has ls 4 [(0, .ref q_t)] → W p l e { frames := 1, cells := 0, slots := 0, locals := 22 } s m args below meth c H locs 0 0 Q (F0 m 43 ls [.int s1, .int s0, .ref q_sayings]) := by
    intro t_hearers firstPlaces pinches sayings s0 s1 H locs ls hf hP hD hS hl
    unfold f_X7_addHearer_43 at hf
    obtain ⟨o1, ho1, hf⟩ := o_bd hf
    refine call_vSN hX (c_X10_put l D a t q_sayings sayings 9 s0 s1 o1 ho1) (va_cnB 3 hts gX7_addHearer_X10_put_n41 rfl rfl rfl (nw_63 hN) hk6 hdS_X10_put ⟨by decide, by decide⟩) hk5 (Cut.of hA hP hD hS [3] (by decide) rfl rfl (W' := [(q_t, .inr (7, [.int t_clauses, .int t_corners, .int t_hearers, .int t_firstColds, .ref q_beers, .ref q_firstPlaces, .ref q_pinches, .ref q_sayings])), (q_firstPlaces, .inl (a 0, 9, .inl firstPlaces)), (q_pinches, .inl (a 0, 9, .inl pinches)), (q_sayings, .inl (a 0, 9, .inl o1))]) rfl) hS rfl hl.1 rfl (Nat.le_of_ble_eq_true rfl) dX7_addHearer_43 (by decide) (fun H locs hP hD hS => ?_)
    have hP : va_P D vwCl [(q_t, .inr (7, [.int t_clauses, .int t_corners, .int t_hearers, .int t_firstColds, .ref q_beers, .ref q_firstPlaces, .ref q_pinches, .ref q_sayings])), (q_firstPlaces, .inl (a 0, 9, .inl firstPlaces)), (q_pinches, .inl (a 0, 9, .inl pinches)), (q_sayings, .inl (a 0, 9, .inl o1))] H := hP
    have hD : va_D A [(q_t, .inr (7, [.int t_clauses, .int t_corners, .int t_hearers, .int t_firstColds, .ref q_beers, .ref q_firstPlaces, .ref q_pinches, .ref q_sayings])), (q_firstPlaces, .inl (a 0, 9, .inl firstPlaces)), (q_pinches, .inl (a 0, 9, .inl pinches)), (q_sayings, .inl (a 0, 9, .inl o1))] := hD
    refine lv_aload_n hx hb dX7_addHearer_46 rfl (lv_at hl 0 rfl) ?_
    refine lv_dup hx hb dX7_addHearer_47 rfl ?_
    refine g_get hX hiX7 hP 0 rfl rfl 2 (by decide) hk2 rfl rfl dX7_addHearer_48 ?_
    refine lv_iconst (v := (1 : Int32)) hx hb dX7_addHearer_51 (by decide) ?_
    refine lv_iadd hx hb dX7_addHearer_52 ?_
    refine lv_topi (fun v2 ev2 => ?_)
    have hf := o_nmh hf v2 ev2
    refine g_put hX hiX7 tyX7 tyX7_ok nmX7 hP hD hS 0 rfl rfl 2 (by decide) hk2 rfl rfl rfl rfl (Nat.le_of_ble_eq_true rfl) dX7_addHearer_53 (fun H locs hP hD hS => ?_)
    have hP : va_P D vwCl [(q_t, .inr (7, [.int t_clauses, .int t_corners, .int v2, .int t_firstColds, .ref q_beers, .ref q_firstPlaces, .ref q_pinches, .ref q_sayings])), (q_firstPlaces, .inl (a 0, 9, .inl firstPlaces)), (q_pinches, .inl (a 0, 9, .inl pinches)), (q_sayings, .inl (a 0, 9, .inl o1))] H := hP
    have hD : va_D A [(q_t, .inr (7, [.int t_clauses, .int t_corners, .int v2, .int t_firstColds, .ref q_beers, .ref q_firstPlaces, .ref q_pinches, .ref q_sayings])), (q_firstPlaces, .inl (a 0, 9, .inl firstPlaces)), (q_pinches, .inl (a 0, 9, .inl pinches)), (q_sayings, .inl (a 0, 9, .inl o1))] := hD
    cases hf
    exact hret _ _ _ _ hP hD hS dX7_addHearer_56
  unfold f_X7_addHearer at hf
  refine lv_aload_n hx hb dX7_addHearer_0 rfl (lv_at hl 0 rfl) ?_
  refine g_get hX hiX7 hP 0 rfl rfl 5 (by decide) hk1 rfl rfl dX7_addHearer_1 ?_
  refine lv_aload_n hx hb dX7_addHearer_4 rfl (lv_at hl 0 rfl) ?_
  refine g_get hX hiX7 hP 0 rfl rfl 2 (by decide) hk2 rfl rfl dX7_addHearer_5 ?_
  refine lv_iload_n hx hb dX7_addHearer_8 rfl (lv_at hl 1 rfl) ?_
  obtain ⟨o3, ho3, hf⟩ := o_bd hf
  refine call_vSN hX (c_X10_put l D a t q_firstPlaces firstPlaces 9 t_hearers x1 o3 ho3) (va_cnB 3 hts gX7_addHearer_X10_put_n41 rfl rfl rfl (nw_63 hN) hk6 hdS_X10_put ⟨by decide, by decide⟩) hk5 (Cut.of hA hP hD hS [1] (by decide) rfl rfl (W' := [(q_t, .inr (7, [.int t_clauses, .int t_corners, .int t_hearers, .int t_firstColds, .ref q_beers, .ref q_firstPlaces, .ref q_pinches, .ref q_sayings])), (q_firstPlaces, .inl (a 0, 9, .inl o3)), (q_pinches, .inl (a 0, 9, .inl pinches)), (q_sayings, .inl (a 0, 9, .inl sayings))]) rfl) hS rfl hl.1 rfl (Nat.le_of_ble_eq_true rfl) dX7_addHearer_9 (by decide) (fun H locs hP hD hS => ?_)
  have hP : va_P D vwCl [(q_t, .inr (7, [.int t_clauses, .int t_corners, .int t_hearers, .int t_firstColds, .ref q_beers, .ref q_firstPlaces, .ref q_pinches, .ref q_sayings])), (q_firstPlaces, .inl (a 0, 9, .inl o3)), (q_pinches, .inl (a 0, 9, .inl pinches)), (q_sayings, .inl (a 0, 9, .inl sayings))] H := hP
  have hD : va_D A [(q_t, .inr (7, [.int t_clauses, .int t_corners, .int t_hearers, .int t_firstColds, .ref q_beers, .ref q_firstPlaces, .ref q_pinches, .ref q_sayings])), (q_firstPlaces, .inl (a 0, 9, .inl o3)), (q_pinches, .inl (a 0, 9, .inl pinches)), (q_sayings, .inl (a 0, 9, .inl sayings))] := hD
  refine lv_aload_n hx hb dX7_addHearer_12 rfl (lv_at hl 0 rfl) ?_
  refine g_get hX hiX7 hP 0 rfl rfl 6 (by decide) hk3 rfl rfl dX7_addHearer_13 ?_
  refine lv_aload_n hx hb dX7_addHearer_16 rfl (lv_at hl 0 rfl) ?_
  refine g_get hX hiX7 hP 0 rfl rfl 2 (by decide) hk2 rfl rfl dX7_addHearer_17 ?_
  refine lv_iload_n hx hb dX7_addHearer_20 rfl (lv_at hl 2 rfl) ?_
  obtain ⟨o4, ho4, hf⟩ := o_bd hf
  refine call_vSN hX (c_X10_put l D a t q_pinches pinches 9 t_hearers x2 o4 ho4) (va_cnB 3 hts gX7_addHearer_X10_put_n41 rfl rfl rfl (nw_63 hN) hk6 hdS_X10_put ⟨by decide, by decide⟩) hk5 (Cut.of hA hP hD hS [2] (by decide) rfl rfl (W' := [(q_t, .inr (7, [.int t_clauses, .int t_corners, .int t_hearers, .int t_firstColds, .ref q_beers, .ref q_firstPlaces, .ref q_pinches, .ref q_sayings])), (q_firstPlaces, .inl (a 0, 9, .inl o3)), (q_pinches, .inl (a 0, 9, .inl o4)), (q_sayings, .inl (a 0, 9, .inl sayings))]) rfl) hS rfl hl.1 rfl (Nat.le_of_ble_eq_true rfl) dX7_addHearer_21 (by decide) (fun H locs hP hD hS => ?_)
  have hP : va_P D vwCl [(q_t, .inr (7, [.int t_clauses, .int t_corners, .int t_hearers, .int t_firstColds, .ref q_beers, .ref q_firstPlaces, .ref q_pinches, .ref q_sayings])), (q_firstPlaces, .inl (a 0, 9, .inl o3)), (q_pinches, .inl (a 0, 9, .inl o4)), (q_sayings, .inl (a 0, 9, .inl sayings))] H := hP
  have hD : va_D A [(q_t, .inr (7, [.int t_clauses, .int t_corners, .int t_hearers, .int t_firstColds, .ref q_beers, .ref q_firstPlaces, .ref q_pinches, .ref q_sayings])), (q_firstPlaces, .inl (a 0, 9, .inl o3)), (q_pinches, .inl (a 0, 9, .inl o4)), (q_sayings, .inl (a 0, 9, .inl sayings))] := hD
  refine lv_aload_n hx hb dX7_addHearer_24 rfl (lv_at hl 0 rfl) ?_
  refine g_get hX hiX7 hP 0 rfl rfl 7 (by decide) hk4 rfl rfl dX7_addHearer_25 ?_
  refine lv_aload_n hx hb dX7_addHearer_28 rfl (lv_at hl 0 rfl) ?_
  refine g_get hX hiX7 hP 0 rfl rfl 2 (by decide) hk2 rfl rfl dX7_addHearer_29 ?_
  refine lv_iload_n hx hb dX7_addHearer_32 rfl (lv_at hl 3 rfl) ?_
  refine lv_bipush (v := (8 : Int32)) hx hb dX7_addHearer_33 (by decide) ?_
  refine lv_icmp_ne (tgt := 42) hx hb dX7_addHearer_35 (by decide) (fun c5 => ?_) (fun c5 => ?_)
  · have hf := o_ifn hf c5
    refine lv_iload_n hx hb dX7_addHearer_42 rfl (lv_at hl 3 rfl) ?_
    exact L_43 t_hearers o3 o4 sayings t_hearers x3 _ _ _ hf hP hD hS (lv_sub hl [0] rfl)
  have hf := o_ifp hf c5
  refine lv_iconst (v := (-1 : Int32)) hx hb dX7_addHearer_38 (by decide) ?_
  refine lv_goto (tgt := 43) hx hb dX7_addHearer_39 (by decide) ?_
  exact L_43 t_hearers o3 o4 sayings t_hearers (-1 : Int32) _ _ _ hf hP hD hS (lv_sub hl [0] rfl)
def f_X5_add (n_items : Nat) (t_count : Int32) (items : Nat → Int32) (x1 : Int32) : Option (Int32 × Int32 × (Nat → Int32)) :=
  if t_count < 0 then (some ((-1000000004 : Int32), t_count, items))
  else (if t_count < (Int32.ofNat n_items) then ((o_st items n_items t_count x1).bind fun w3 =>
  o_nm ((t_count + (1 : Int32))) fun v4 =>
  some (v4, v4, w3))
  else (some ((-1000000004 : Int32), t_count, items)))
theorem hdS_X5_add : yX5_add.cls ≠ "java/lang/invoke/MethodHandle" ∧ yX5_add.cls ≠ "java/lang/invoke/VarHandle" ∧ (parseMethodDescriptor yX5_add.desc).map (fun d => d.parameters.length) = some 1 := by decide +kernel
theorem hdV_X5_add : yX5_add.cls = RX5 ∧ yX5_add.cls ≠ "java/lang/invoke/MethodHandle" ∧ yX5_add.cls ≠ "java/lang/invoke/VarHandle" ∧ (parseMethodDescriptor yX5_add.desc).map (fun d => d.parameters.length) = some 1 := ⟨rfl, hdS_X5_add⟩
set_option maxHeartbeats 4000000 in
set_option maxRecDepth 100000 in
theorem c_X5_add (l : Launch) (D : va_G) (a : Nat → ClassId) (t : Nat) (q_t : Nat) (q_items : Nat) (t_count : Int32) (items : Nat → Int32) (n_items : Nat) (x1 : Int32) (r : Int32) (o_t_count : Int32) (o_items : Nat → Int32) (hf : f_X5_add n_items t_count items x1 = some (r, o_t_count, o_items)) : Ki l yX5_add wsX5_add 0 0 D a t [.ref q_t, .int x1] [(q_t, .inr (5, [.ref q_items, .int t_count])), (q_items, .inl (a 0, n_items, .inl items))] [(q_t, .inr (5, [.ref q_items, .int o_t_count])), (q_items, .inl (a 0, n_items, .inl o_items))] r := by
  refine Ki.mk (cc := cX5_add) (nL := 2) (ty := .int) (own := RX5) (by decide) rfl rfl (Nat.le_of_ble_eq_true rfl) ?_
  intro p e s m args below meth c A Q ls hX hP hD hS hl hret
  have hx := hX.1.1
  have hb := hX.1.2.1
  have hown := hX.1.2.2.2.1
  have hts := hX.1.2.2.2.2
  have hN := hX.2.2.1
  have hA := hX.2.2.2.2
  have hl : lv_has ls 2 [(0, .ref q_t), (1, .int x1)] := hl
  have hk1 := hts (.fieldLink RX5 21 "GainsaidOnce$Row" "count" "I") (List.mem_of_getElem? (i := 1) rfl)
  have hk2 := hts (.fieldLink RX5 15 "GainsaidOnce$Row" "items" "[I") (List.mem_of_getElem? (i := 2) rfl)
  have hk3 := hts (.constant RX5 25 (-1000000004)) (List.mem_of_getElem? (i := 3) rfl)
  have hiX5 : ∀ w ∈ wsX50, w ∈ wsX5_add := (fun _ h => List.mem_cons_of_mem _ (List.mem_append_right _ h))
  unfold f_X5_add at hf
  refine lv_aload_n hx hb dX5_add_0 rfl (lv_at hl 0 rfl) ?_
  refine g_get hX hiX5 hP 0 rfl rfl 1 (by decide) hk1 rfl rfl dX5_add_1 ?_
  refine lv_if_lt (tgt := 19) hx hb dX5_add_4 (by decide) (fun c1 => ?_) (fun c1 => ?_)
  · have hf := o_ifp hf c1
    refine lv_ldc (v := (-1000000004 : Int32)) hx hb hown hk3 dX5_add_19 ?_
    cases hf
    exact hret _ _ _ _ (vp_nar_int _) hP hD hS dX5_add_21
  have hf := o_ifn hf c1
  refine lv_aload_n hx hb dX5_add_7 rfl (lv_at hl 0 rfl) ?_
  refine g_get hX hiX5 hP 0 rfl rfl 1 (by decide) hk1 rfl rfl dX5_add_8 ?_
  refine lv_aload_n hx hb dX5_add_11 rfl (lv_at hl 0 rfl) ?_
  refine g_get hX hiX5 hP 0 rfl rfl 0 (by decide) hk2 rfl rfl dX5_add_12 ?_
  refine g_alen hX hP 1 0 rfl rfl dX5_add_15 ?_
  refine lv_icmp_lt (tgt := 22) hx hb dX5_add_16 (by decide) (fun c2 => ?_) (fun c2 => ?_)
  · have hf := o_ifp hf c2
    refine lv_aload_n hx hb dX5_add_22 rfl (lv_at hl 0 rfl) ?_
    refine g_get hX hiX5 hP 0 rfl rfl 0 (by decide) hk2 rfl rfl dX5_add_23 ?_
    refine lv_aload_n hx hb dX5_add_26 rfl (lv_at hl 0 rfl) ?_
    refine g_get hX hiX5 hP 0 rfl rfl 1 (by decide) hk1 rfl rfl dX5_add_27 ?_
    refine lv_iload_n hx hb dX5_add_30 rfl (lv_at hl 1 rfl) ?_
    obtain ⟨hiw3, hf⟩ := o_sth hf
    refine g_iast hX hP hD hS 1 rfl hiw3 dX5_add_31 (fun w3 ew3 H locs hP hD hS => ?_)
    have hf := hf w3 ew3
    have hP : va_P D vwCl [(q_t, .inr (5, [.ref q_items, .int t_count])), (q_items, .inl (a 0, n_items, .inl w3))] H := hP
    have hD : va_D A [(q_t, .inr (5, [.ref q_items, .int t_count])), (q_items, .inl (a 0, n_items, .inl w3))] := hD
    refine lv_aload_n hx hb dX5_add_32 rfl (lv_at hl 0 rfl) ?_
    refine lv_dup hx hb dX5_add_33 rfl ?_
    refine g_get hX hiX5 hP 0 rfl rfl 1 (by decide) hk1 rfl rfl dX5_add_34 ?_
    refine lv_iconst (v := (1 : Int32)) hx hb dX5_add_37 (by decide) ?_
    refine lv_iadd hx hb dX5_add_38 ?_
    refine lv_topi (fun v4 ev4 => ?_)
    have hf := o_nmh hf v4 ev4
    refine g_put hX hiX5 tyX5 tyX5_ok nmX5 hP hD hS 0 rfl rfl 1 (by decide) hk1 rfl rfl rfl rfl (Nat.le_of_ble_eq_true rfl) dX5_add_39 (fun H locs hP hD hS => ?_)
    have hP : va_P D vwCl [(q_t, .inr (5, [.ref q_items, .int v4])), (q_items, .inl (a 0, n_items, .inl w3))] H := hP
    have hD : va_D A [(q_t, .inr (5, [.ref q_items, .int v4])), (q_items, .inl (a 0, n_items, .inl w3))] := hD
    refine lv_aload_n hx hb dX5_add_42 rfl (lv_at hl 0 rfl) ?_
    refine g_get hX hiX5 hP 0 rfl rfl 1 (by decide) hk1 rfl rfl dX5_add_43 ?_
    cases hf
    exact hret _ _ _ _ (vp_nar_int _) hP hD hS dX5_add_46
  have hf := o_ifn hf c2
  refine lv_ldc (v := (-1000000004 : Int32)) hx hb hown hk3 dX5_add_19 ?_
  cases hf
  exact hret _ _ _ _ (vp_nar_int _) hP hD hS dX5_add_21
def f_X5_clear (t_count : Int32) : Option (Int32) :=
  some (0 : Int32)
theorem hdS_X5_clear : yX5_clear.cls ≠ "java/lang/invoke/MethodHandle" ∧ yX5_clear.cls ≠ "java/lang/invoke/VarHandle" ∧ (parseMethodDescriptor yX5_clear.desc).map (fun d => d.parameters.length) = some 0 := by decide +kernel
theorem hdV_X5_clear : yX5_clear.cls = RX5 ∧ yX5_clear.cls ≠ "java/lang/invoke/MethodHandle" ∧ yX5_clear.cls ≠ "java/lang/invoke/VarHandle" ∧ (parseMethodDescriptor yX5_clear.desc).map (fun d => d.parameters.length) = some 0 := ⟨rfl, hdS_X5_clear⟩
set_option maxHeartbeats 4000000 in
set_option maxRecDepth 100000 in
theorem c_X5_clear (l : Launch) (D : va_G) (a : Nat → ClassId) (t : Nat) (q_t : Nat) (q_items : Nat) (t_count : Int32) (o_t_count : Int32) (hf : f_X5_clear t_count = some o_t_count) : Kv l yX5_clear wsX5_clear 0 0 D a t [.ref q_t] [(q_t, .inr (5, [.ref q_items, .int t_count]))] [(q_t, .inr (5, [.ref q_items, .int o_t_count]))] := by
  refine Kv.mk (cc := cX5_clear) (nL := 1) (own := RX5) (by decide) rfl rfl (Nat.le_of_ble_eq_true rfl) ?_
  intro p e s m args below meth c A Q ls hX hP hD hS hl hret
  have hx := hX.1.1
  have hb := hX.1.2.1
  have hown := hX.1.2.2.2.1
  have hts := hX.1.2.2.2.2
  have hN := hX.2.2.1
  have hA := hX.2.2.2.2
  have hl : lv_has ls 1 [(0, .ref q_t)] := hl
  have hk1 := hts (.fieldLink RX5 21 "GainsaidOnce$Row" "count" "I") (List.mem_of_getElem? (i := 1) rfl)
  have hiX5 : ∀ w ∈ wsX50, w ∈ wsX5_clear := (fun _ h => List.mem_cons_of_mem _ (List.mem_append_right _ h))
  unfold f_X5_clear at hf
  refine lv_aload_n hx hb dX5_clear_0 rfl (lv_at hl 0 rfl) ?_
  refine lv_iconst (v := (0 : Int32)) hx hb dX5_clear_1 (by decide) ?_
  refine g_put hX hiX5 tyX5 tyX5_ok nmX5 hP hD hS 0 rfl rfl 1 (by decide) hk1 rfl rfl rfl rfl (Nat.le_of_ble_eq_true rfl) dX5_clear_2 (fun H locs hP hD hS => ?_)
  have hP : va_P D vwCl [(q_t, .inr (5, [.ref q_items, .int (0 : Int32)]))] H := hP
  have hD : va_D A [(q_t, .inr (5, [.ref q_items, .int (0 : Int32)]))] := hD
  cases hf
  exact hret _ _ _ _ hP hD hS dX5_clear_5
def f_X6_begin (t_rounds : Int32) (t_months : Int32) (t_law : Int32) (t_holds : Int32) (t_hoarse : Int32) (t_keptIn : Int32) (t_colds : Int32) (places : Nat → Int32) (p1_firstColds : Int32) (p1_firstPlaces : Nat → Int32) : Option (Int32 × Int32 × Int32 × Int32 × Int32 × Int32 × Int32 × (Nat → Int32)) :=
  (f_X10_copyRow 9 9 p1_firstPlaces places).bind fun o1 =>
  some ((0 : Int32), (0 : Int32), (-1 : Int32), (0 : Int32), (0 : Int32), (0 : Int32), p1_firstColds, o1)
theorem hdS_X6_begin : yX6_begin.cls ≠ "java/lang/invoke/MethodHandle" ∧ yX6_begin.cls ≠ "java/lang/invoke/VarHandle" ∧ (parseMethodDescriptor yX6_begin.desc).map (fun d => d.parameters.length) = some 1 := by decide +kernel
theorem hdV_X6_begin : yX6_begin.cls = RX6 ∧ yX6_begin.cls ≠ "java/lang/invoke/MethodHandle" ∧ yX6_begin.cls ≠ "java/lang/invoke/VarHandle" ∧ (parseMethodDescriptor yX6_begin.desc).map (fun d => d.parameters.length) = some 1 := ⟨rfl, hdS_X6_begin⟩
set_option maxHeartbeats 4000000 in
set_option maxRecDepth 100000 in
theorem c_X6_begin (l : Launch) (D : va_G) (a : Nat → ClassId) (t : Nat) (q_t : Nat) (t_rounds : Int32) (t_months : Int32) (t_law : Int32) (t_holds : Int32) (t_hoarse : Int32) (t_keptIn : Int32) (t_colds : Int32) (q_places : Nat) (places : Nat → Int32) (q_p1 : Nat) (p1_clauses : Int32) (p1_corners : Int32) (p1_hearers : Int32) (p1_firstColds : Int32) (q_p1_beers : Nat) (q_p1_firstPlaces : Nat) (q_p1_pinches : Nat) (q_p1_sayings : Nat) (p1_firstPlaces : Nat → Int32) (o_t_rounds : Int32) (o_t_months : Int32) (o_t_law : Int32) (o_t_holds : Int32) (o_t_hoarse : Int32) (o_t_keptIn : Int32) (o_t_colds : Int32) (o_places : Nat → Int32) (hf : f_X6_begin t_rounds t_months t_law t_holds t_hoarse t_keptIn t_colds places p1_firstColds p1_firstPlaces = some (o_t_rounds, o_t_months, o_t_law, o_t_holds, o_t_hoarse, o_t_keptIn, o_t_colds, o_places)) : Kv l yX6_begin wsX6_begin 1 22 D a t [.ref q_t, .ref q_p1] [(q_t, .inr (6, [.int t_rounds, .int t_months, .int t_law, .int t_holds, .int t_hoarse, .int t_keptIn, .int t_colds, .ref q_places])), (q_places, .inl (a 0, 9, .inl places)), (q_p1, .inr (7, [.int p1_clauses, .int p1_corners, .int p1_hearers, .int p1_firstColds, .ref q_p1_beers, .ref q_p1_firstPlaces, .ref q_p1_pinches, .ref q_p1_sayings])), (q_p1_firstPlaces, .inl (a 0, 9, .inl p1_firstPlaces))] [(q_t, .inr (6, [.int o_t_rounds, .int o_t_months, .int o_t_law, .int o_t_holds, .int o_t_hoarse, .int o_t_keptIn, .int o_t_colds, .ref q_places])), (q_places, .inl (a 0, 9, .inl o_places)), (q_p1, .inr (7, [.int p1_clauses, .int p1_corners, .int p1_hearers, .int p1_firstColds, .ref q_p1_beers, .ref q_p1_firstPlaces, .ref q_p1_pinches, .ref q_p1_sayings])), (q_p1_firstPlaces, .inl (a 0, 9, .inl p1_firstPlaces))] := by
  refine Kv.mk (cc := cX6_begin) (nL := 2) (own := RX6) (by decide) rfl rfl (Nat.le_of_ble_eq_true rfl) ?_
  intro p e s m args below meth c A Q ls hX hP hD hS hl hret
  have hx := hX.1.1
  have hb := hX.1.2.1
  have hown := hX.1.2.2.2.1
  have hts := hX.1.2.2.2.2
  have hN := hX.2.2.1
  have hA := hX.2.2.2.2
  have hl : lv_has ls 2 [(0, .ref q_t), (1, .ref q_p1)] := hl
  have hk1 := hts (.fieldLink RX6 19 "GainsaidOnce$State" "rounds" "I") (List.mem_of_getElem? (i := 1) rfl)
  have hk2 := hts (.fieldLink RX6 22 "GainsaidOnce$State" "months" "I") (List.mem_of_getElem? (i := 2) rfl)
  have hk3 := hts (.fieldLink RX6 9 "GainsaidOnce$State" "law" "I") (List.mem_of_getElem? (i := 3) rfl)
  have hk4 := hts (.fieldLink RX6 25 "GainsaidOnce$State" "holds" "I") (List.mem_of_getElem? (i := 4) rfl)
  have hk5 := hts (.fieldLink RX6 28 "GainsaidOnce$State" "hoarse" "I") (List.mem_of_getElem? (i := 5) rfl)
  have hk6 := hts (.fieldLink RX6 31 "GainsaidOnce$State" "keptIn" "I") (List.mem_of_getElem? (i := 6) rfl)
  have hk7 := hts (.fieldLink RX6 39 "GainsaidOnce$State" "colds" "I") (List.mem_of_getElem? (i := 7) rfl)
  have hk8 := hts (.fieldLink RX6 15 "GainsaidOnce$State" "places" "[I") (List.mem_of_getElem? (i := 8) rfl)
  have hk9 := hts (.static yX10_copyRow) (List.mem_of_getElem? (i := 9) rfl)
  have hk10 := hts (.initialized RX10) (List.mem_of_getElem? (i := 10) rfl)
  have hiX6 : ∀ w ∈ wsX60, w ∈ wsX6_begin := (fun _ h => List.mem_cons_of_mem _ (List.mem_append_left _ (List.mem_append_right _ h)))
  have hiX7 : ∀ w ∈ wsX70, w ∈ wsX6_begin := (fun _ h => List.mem_cons_of_mem _ (List.mem_append_right _ h))
  unfold f_X6_begin at hf
  refine lv_aload_n hx hb dX6_begin_0 rfl (lv_at hl 0 rfl) ?_
  refine lv_iconst (v := (0 : Int32)) hx hb dX6_begin_1 (by decide) ?_
  refine g_put hX hiX6 tyX6 tyX6_ok nmX6 hP hD hS 0 rfl rfl 0 (by decide) hk1 rfl rfl rfl rfl (Nat.le_of_ble_eq_true rfl) dX6_begin_2 (fun H locs hP hD hS => ?_)
  have hP : va_P D vwCl [(q_t, .inr (6, [.int (0 : Int32), .int t_months, .int t_law, .int t_holds, .int t_hoarse, .int t_keptIn, .int t_colds, .ref q_places])), (q_places, .inl (a 0, 9, .inl places)), (q_p1, .inr (7, [.int p1_clauses, .int p1_corners, .int p1_hearers, .int p1_firstColds, .ref q_p1_beers, .ref q_p1_firstPlaces, .ref q_p1_pinches, .ref q_p1_sayings])), (q_p1_firstPlaces, .inl (a 0, 9, .inl p1_firstPlaces))] H := hP
  have hD : va_D A [(q_t, .inr (6, [.int (0 : Int32), .int t_months, .int t_law, .int t_holds, .int t_hoarse, .int t_keptIn, .int t_colds, .ref q_places])), (q_places, .inl (a 0, 9, .inl places)), (q_p1, .inr (7, [.int p1_clauses, .int p1_corners, .int p1_hearers, .int p1_firstColds, .ref q_p1_beers, .ref q_p1_firstPlaces, .ref q_p1_pinches, .ref q_p1_sayings])), (q_p1_firstPlaces, .inl (a 0, 9, .inl p1_firstPlaces))] := hD
  refine lv_aload_n hx hb dX6_begin_5 rfl (lv_at hl 0 rfl) ?_
  refine lv_iconst (v := (0 : Int32)) hx hb dX6_begin_6 (by decide) ?_
  refine g_put hX hiX6 tyX6 tyX6_ok nmX6 hP hD hS 0 rfl rfl 1 (by decide) hk2 rfl rfl rfl rfl (Nat.le_of_ble_eq_true rfl) dX6_begin_7 (fun H locs hP hD hS => ?_)
  have hP : va_P D vwCl [(q_t, .inr (6, [.int (0 : Int32), .int (0 : Int32), .int t_law, .int t_holds, .int t_hoarse, .int t_keptIn, .int t_colds, .ref q_places])), (q_places, .inl (a 0, 9, .inl places)), (q_p1, .inr (7, [.int p1_clauses, .int p1_corners, .int p1_hearers, .int p1_firstColds, .ref q_p1_beers, .ref q_p1_firstPlaces, .ref q_p1_pinches, .ref q_p1_sayings])), (q_p1_firstPlaces, .inl (a 0, 9, .inl p1_firstPlaces))] H := hP
  have hD : va_D A [(q_t, .inr (6, [.int (0 : Int32), .int (0 : Int32), .int t_law, .int t_holds, .int t_hoarse, .int t_keptIn, .int t_colds, .ref q_places])), (q_places, .inl (a 0, 9, .inl places)), (q_p1, .inr (7, [.int p1_clauses, .int p1_corners, .int p1_hearers, .int p1_firstColds, .ref q_p1_beers, .ref q_p1_firstPlaces, .ref q_p1_pinches, .ref q_p1_sayings])), (q_p1_firstPlaces, .inl (a 0, 9, .inl p1_firstPlaces))] := hD
  refine lv_aload_n hx hb dX6_begin_10 rfl (lv_at hl 0 rfl) ?_
  refine lv_iconst (v := (-1 : Int32)) hx hb dX6_begin_11 (by decide) ?_
  refine g_put hX hiX6 tyX6 tyX6_ok nmX6 hP hD hS 0 rfl rfl 2 (by decide) hk3 rfl rfl rfl rfl (Nat.le_of_ble_eq_true rfl) dX6_begin_12 (fun H locs hP hD hS => ?_)
  have hP : va_P D vwCl [(q_t, .inr (6, [.int (0 : Int32), .int (0 : Int32), .int (-1 : Int32), .int t_holds, .int t_hoarse, .int t_keptIn, .int t_colds, .ref q_places])), (q_places, .inl (a 0, 9, .inl places)), (q_p1, .inr (7, [.int p1_clauses, .int p1_corners, .int p1_hearers, .int p1_firstColds, .ref q_p1_beers, .ref q_p1_firstPlaces, .ref q_p1_pinches, .ref q_p1_sayings])), (q_p1_firstPlaces, .inl (a 0, 9, .inl p1_firstPlaces))] H := hP
  have hD : va_D A [(q_t, .inr (6, [.int (0 : Int32), .int (0 : Int32), .int (-1 : Int32), .int t_holds, .int t_hoarse, .int t_keptIn, .int t_colds, .ref q_places])), (q_places, .inl (a 0, 9, .inl places)), (q_p1, .inr (7, [.int p1_clauses, .int p1_corners, .int p1_hearers, .int p1_firstColds, .ref q_p1_beers, .ref q_p1_firstPlaces, .ref q_p1_pinches, .ref q_p1_sayings])), (q_p1_firstPlaces, .inl (a 0, 9, .inl p1_firstPlaces))] := hD
  refine lv_aload_n hx hb dX6_begin_15 rfl (lv_at hl 0 rfl) ?_
  refine lv_iconst (v := (0 : Int32)) hx hb dX6_begin_16 (by decide) ?_
  refine g_put hX hiX6 tyX6 tyX6_ok nmX6 hP hD hS 0 rfl rfl 3 (by decide) hk4 rfl rfl rfl rfl (Nat.le_of_ble_eq_true rfl) dX6_begin_17 (fun H locs hP hD hS => ?_)
  have hP : va_P D vwCl [(q_t, .inr (6, [.int (0 : Int32), .int (0 : Int32), .int (-1 : Int32), .int (0 : Int32), .int t_hoarse, .int t_keptIn, .int t_colds, .ref q_places])), (q_places, .inl (a 0, 9, .inl places)), (q_p1, .inr (7, [.int p1_clauses, .int p1_corners, .int p1_hearers, .int p1_firstColds, .ref q_p1_beers, .ref q_p1_firstPlaces, .ref q_p1_pinches, .ref q_p1_sayings])), (q_p1_firstPlaces, .inl (a 0, 9, .inl p1_firstPlaces))] H := hP
  have hD : va_D A [(q_t, .inr (6, [.int (0 : Int32), .int (0 : Int32), .int (-1 : Int32), .int (0 : Int32), .int t_hoarse, .int t_keptIn, .int t_colds, .ref q_places])), (q_places, .inl (a 0, 9, .inl places)), (q_p1, .inr (7, [.int p1_clauses, .int p1_corners, .int p1_hearers, .int p1_firstColds, .ref q_p1_beers, .ref q_p1_firstPlaces, .ref q_p1_pinches, .ref q_p1_sayings])), (q_p1_firstPlaces, .inl (a 0, 9, .inl p1_firstPlaces))] := hD
  refine lv_aload_n hx hb dX6_begin_20 rfl (lv_at hl 0 rfl) ?_
  refine lv_iconst (v := (0 : Int32)) hx hb dX6_begin_21 (by decide) ?_
  refine g_put hX hiX6 tyX6 tyX6_ok nmX6 hP hD hS 0 rfl rfl 4 (by decide) hk5 rfl rfl rfl rfl (Nat.le_of_ble_eq_true rfl) dX6_begin_22 (fun H locs hP hD hS => ?_)
  have hP : va_P D vwCl [(q_t, .inr (6, [.int (0 : Int32), .int (0 : Int32), .int (-1 : Int32), .int (0 : Int32), .int (0 : Int32), .int t_keptIn, .int t_colds, .ref q_places])), (q_places, .inl (a 0, 9, .inl places)), (q_p1, .inr (7, [.int p1_clauses, .int p1_corners, .int p1_hearers, .int p1_firstColds, .ref q_p1_beers, .ref q_p1_firstPlaces, .ref q_p1_pinches, .ref q_p1_sayings])), (q_p1_firstPlaces, .inl (a 0, 9, .inl p1_firstPlaces))] H := hP
  have hD : va_D A [(q_t, .inr (6, [.int (0 : Int32), .int (0 : Int32), .int (-1 : Int32), .int (0 : Int32), .int (0 : Int32), .int t_keptIn, .int t_colds, .ref q_places])), (q_places, .inl (a 0, 9, .inl places)), (q_p1, .inr (7, [.int p1_clauses, .int p1_corners, .int p1_hearers, .int p1_firstColds, .ref q_p1_beers, .ref q_p1_firstPlaces, .ref q_p1_pinches, .ref q_p1_sayings])), (q_p1_firstPlaces, .inl (a 0, 9, .inl p1_firstPlaces))] := hD
  refine lv_aload_n hx hb dX6_begin_25 rfl (lv_at hl 0 rfl) ?_
  refine lv_iconst (v := (0 : Int32)) hx hb dX6_begin_26 (by decide) ?_
  refine g_put hX hiX6 tyX6 tyX6_ok nmX6 hP hD hS 0 rfl rfl 5 (by decide) hk6 rfl rfl rfl rfl (Nat.le_of_ble_eq_true rfl) dX6_begin_27 (fun H locs hP hD hS => ?_)
  have hP : va_P D vwCl [(q_t, .inr (6, [.int (0 : Int32), .int (0 : Int32), .int (-1 : Int32), .int (0 : Int32), .int (0 : Int32), .int (0 : Int32), .int t_colds, .ref q_places])), (q_places, .inl (a 0, 9, .inl places)), (q_p1, .inr (7, [.int p1_clauses, .int p1_corners, .int p1_hearers, .int p1_firstColds, .ref q_p1_beers, .ref q_p1_firstPlaces, .ref q_p1_pinches, .ref q_p1_sayings])), (q_p1_firstPlaces, .inl (a 0, 9, .inl p1_firstPlaces))] H := hP
  have hD : va_D A [(q_t, .inr (6, [.int (0 : Int32), .int (0 : Int32), .int (-1 : Int32), .int (0 : Int32), .int (0 : Int32), .int (0 : Int32), .int t_colds, .ref q_places])), (q_places, .inl (a 0, 9, .inl places)), (q_p1, .inr (7, [.int p1_clauses, .int p1_corners, .int p1_hearers, .int p1_firstColds, .ref q_p1_beers, .ref q_p1_firstPlaces, .ref q_p1_pinches, .ref q_p1_sayings])), (q_p1_firstPlaces, .inl (a 0, 9, .inl p1_firstPlaces))] := hD
  refine lv_aload_n hx hb dX6_begin_30 rfl (lv_at hl 0 rfl) ?_
  refine lv_aload_n hx hb dX6_begin_31 rfl (lv_at hl 1 rfl) ?_
  refine g_getN hX hiX7 hP 2 rfl rfl 3 (by decide) (nw_19 hN) rfl rfl dX6_begin_32 ?_
  refine g_put hX hiX6 tyX6 tyX6_ok nmX6 hP hD hS 0 rfl rfl 6 (by decide) hk7 rfl rfl rfl rfl (Nat.le_of_ble_eq_true rfl) dX6_begin_35 (fun H locs hP hD hS => ?_)
  have hP : va_P D vwCl [(q_t, .inr (6, [.int (0 : Int32), .int (0 : Int32), .int (-1 : Int32), .int (0 : Int32), .int (0 : Int32), .int (0 : Int32), .int p1_firstColds, .ref q_places])), (q_places, .inl (a 0, 9, .inl places)), (q_p1, .inr (7, [.int p1_clauses, .int p1_corners, .int p1_hearers, .int p1_firstColds, .ref q_p1_beers, .ref q_p1_firstPlaces, .ref q_p1_pinches, .ref q_p1_sayings])), (q_p1_firstPlaces, .inl (a 0, 9, .inl p1_firstPlaces))] H := hP
  have hD : va_D A [(q_t, .inr (6, [.int (0 : Int32), .int (0 : Int32), .int (-1 : Int32), .int (0 : Int32), .int (0 : Int32), .int (0 : Int32), .int p1_firstColds, .ref q_places])), (q_places, .inl (a 0, 9, .inl places)), (q_p1, .inr (7, [.int p1_clauses, .int p1_corners, .int p1_hearers, .int p1_firstColds, .ref q_p1_beers, .ref q_p1_firstPlaces, .ref q_p1_pinches, .ref q_p1_sayings])), (q_p1_firstPlaces, .inl (a 0, 9, .inl p1_firstPlaces))] := hD
  refine lv_aload_n hx hb dX6_begin_38 rfl (lv_at hl 1 rfl) ?_
  refine g_getN hX hiX7 hP 2 rfl rfl 5 (by decide) (nw_21 hN) rfl rfl dX6_begin_39 ?_
  refine lv_aload_n hx hb dX6_begin_42 rfl (lv_at hl 0 rfl) ?_
  refine g_get hX hiX6 hP 0 rfl rfl 7 (by decide) hk8 rfl rfl dX6_begin_43 ?_
  obtain ⟨o1, ho1, hf⟩ := o_bd hf
  refine call_vSN hX (c_X10_copyRow l D a t q_p1_firstPlaces p1_firstPlaces 9 q_places places 9 o1 ho1) (va_cnB 2 hts gX6_begin_X10_copyRow_n45 rfl rfl rfl (nw_66 hN) hk10 hdS_X10_copyRow ⟨by decide, by decide⟩) hk9 (Cut.of hA hP hD hS [3, 1] (by decide) rfl rfl (W' := [(q_t, .inr (6, [.int (0 : Int32), .int (0 : Int32), .int (-1 : Int32), .int (0 : Int32), .int (0 : Int32), .int (0 : Int32), .int p1_firstColds, .ref q_places])), (q_places, .inl (a 0, 9, .inl o1)), (q_p1, .inr (7, [.int p1_clauses, .int p1_corners, .int p1_hearers, .int p1_firstColds, .ref q_p1_beers, .ref q_p1_firstPlaces, .ref q_p1_pinches, .ref q_p1_sayings])), (q_p1_firstPlaces, .inl (a 0, 9, .inl p1_firstPlaces))]) rfl) hS rfl hl.1 rfl (Nat.le_of_ble_eq_true rfl) dX6_begin_46 (by decide) (fun H locs hP hD hS => ?_)
  have hP : va_P D vwCl [(q_t, .inr (6, [.int (0 : Int32), .int (0 : Int32), .int (-1 : Int32), .int (0 : Int32), .int (0 : Int32), .int (0 : Int32), .int p1_firstColds, .ref q_places])), (q_places, .inl (a 0, 9, .inl o1)), (q_p1, .inr (7, [.int p1_clauses, .int p1_corners, .int p1_hearers, .int p1_firstColds, .ref q_p1_beers, .ref q_p1_firstPlaces, .ref q_p1_pinches, .ref q_p1_sayings])), (q_p1_firstPlaces, .inl (a 0, 9, .inl p1_firstPlaces))] H := hP
  have hD : va_D A [(q_t, .inr (6, [.int (0 : Int32), .int (0 : Int32), .int (-1 : Int32), .int (0 : Int32), .int (0 : Int32), .int (0 : Int32), .int p1_firstColds, .ref q_places])), (q_places, .inl (a 0, 9, .inl o1)), (q_p1, .inr (7, [.int p1_clauses, .int p1_corners, .int p1_hearers, .int p1_firstColds, .ref q_p1_beers, .ref q_p1_firstPlaces, .ref q_p1_pinches, .ref q_p1_sayings])), (q_p1_firstPlaces, .inl (a 0, 9, .inl p1_firstPlaces))] := hD
  cases hf
  exact hret _ _ _ _ hP hD hS dX6_begin_49
def f_X6_passMonth (t_months : Int32) (t_hoarse : Int32) : Option (Int32 × Int32) :=
  o_nm ((t_months + (1 : Int32))) fun v1 =>
  some (v1, (0 : Int32))
theorem hdS_X6_passMonth : yX6_passMonth.cls ≠ "java/lang/invoke/MethodHandle" ∧ yX6_passMonth.cls ≠ "java/lang/invoke/VarHandle" ∧ (parseMethodDescriptor yX6_passMonth.desc).map (fun d => d.parameters.length) = some 0 := by decide +kernel
theorem hdV_X6_passMonth : yX6_passMonth.cls = RX6 ∧ yX6_passMonth.cls ≠ "java/lang/invoke/MethodHandle" ∧ yX6_passMonth.cls ≠ "java/lang/invoke/VarHandle" ∧ (parseMethodDescriptor yX6_passMonth.desc).map (fun d => d.parameters.length) = some 0 := ⟨rfl, hdS_X6_passMonth⟩
set_option maxHeartbeats 4000000 in
set_option maxRecDepth 100000 in
theorem c_X6_passMonth (l : Launch) (D : va_G) (a : Nat → ClassId) (t : Nat) (q_t : Nat) (t_rounds : Int32) (t_months : Int32) (t_law : Int32) (t_holds : Int32) (t_hoarse : Int32) (t_keptIn : Int32) (t_colds : Int32) (q_places : Nat) (o_t_months : Int32) (o_t_hoarse : Int32) (hf : f_X6_passMonth t_months t_hoarse = some (o_t_months, o_t_hoarse)) : Kv l yX6_passMonth wsX6_passMonth 0 0 D a t [.ref q_t] [(q_t, .inr (6, [.int t_rounds, .int t_months, .int t_law, .int t_holds, .int t_hoarse, .int t_keptIn, .int t_colds, .ref q_places]))] [(q_t, .inr (6, [.int t_rounds, .int o_t_months, .int t_law, .int t_holds, .int o_t_hoarse, .int t_keptIn, .int t_colds, .ref q_places]))] := by
  refine Kv.mk (cc := cX6_passMonth) (nL := 1) (own := RX6) (by decide) rfl rfl (Nat.le_of_ble_eq_true rfl) ?_
  intro p e s m args below meth c A Q ls hX hP hD hS hl hret
  have hx := hX.1.1
  have hb := hX.1.2.1
  have hown := hX.1.2.2.2.1
  have hts := hX.1.2.2.2.2
  have hN := hX.2.2.1
  have hA := hX.2.2.2.2
  have hl : lv_has ls 1 [(0, .ref q_t)] := hl
  have hk1 := hts (.fieldLink RX6 28 "GainsaidOnce$State" "hoarse" "I") (List.mem_of_getElem? (i := 1) rfl)
  have hk2 := hts (.fieldLink RX6 22 "GainsaidOnce$State" "months" "I") (List.mem_of_getElem? (i := 2) rfl)
  have hiX6 : ∀ w ∈ wsX60, w ∈ wsX6_passMonth := (fun _ h => List.mem_cons_of_mem _ (List.mem_append_right _ h))
  unfold f_X6_passMonth at hf
  refine lv_aload_n hx hb dX6_passMonth_0 rfl (lv_at hl 0 rfl) ?_
  refine lv_iconst (v := (0 : Int32)) hx hb dX6_passMonth_1 (by decide) ?_
  refine g_put hX hiX6 tyX6 tyX6_ok nmX6 hP hD hS 0 rfl rfl 4 (by decide) hk1 rfl rfl rfl rfl (Nat.le_of_ble_eq_true rfl) dX6_passMonth_2 (fun H locs hP hD hS => ?_)
  have hP : va_P D vwCl [(q_t, .inr (6, [.int t_rounds, .int t_months, .int t_law, .int t_holds, .int (0 : Int32), .int t_keptIn, .int t_colds, .ref q_places]))] H := hP
  have hD : va_D A [(q_t, .inr (6, [.int t_rounds, .int t_months, .int t_law, .int t_holds, .int (0 : Int32), .int t_keptIn, .int t_colds, .ref q_places]))] := hD
  refine lv_aload_n hx hb dX6_passMonth_5 rfl (lv_at hl 0 rfl) ?_
  refine lv_dup hx hb dX6_passMonth_6 rfl ?_
  refine g_get hX hiX6 hP 0 rfl rfl 1 (by decide) hk2 rfl rfl dX6_passMonth_7 ?_
  refine lv_iconst (v := (1 : Int32)) hx hb dX6_passMonth_10 (by decide) ?_
  refine lv_iadd hx hb dX6_passMonth_11 ?_
  refine lv_topi (fun v1 ev1 => ?_)
  have hf := o_nmh hf v1 ev1
  refine g_put hX hiX6 tyX6 tyX6_ok nmX6 hP hD hS 0 rfl rfl 1 (by decide) hk2 rfl rfl rfl rfl (Nat.le_of_ble_eq_true rfl) dX6_passMonth_12 (fun H locs hP hD hS => ?_)
  have hP : va_P D vwCl [(q_t, .inr (6, [.int t_rounds, .int v1, .int t_law, .int t_holds, .int (0 : Int32), .int t_keptIn, .int t_colds, .ref q_places]))] H := hP
  have hD : va_D A [(q_t, .inr (6, [.int t_rounds, .int v1, .int t_law, .int t_holds, .int (0 : Int32), .int t_keptIn, .int t_colds, .ref q_places]))] := hD
  cases hf
  exact hret _ _ _ _ hP hD hS dX6_passMonth_15
def f_X6_standingAt_5 (places : Nat → Int32) : Nat → Int32 → Int32 → Int32 → Int32 → Option (Int32)
  | 0, _, _, _, _ => none
  | n_5 + 1, x1, x2, x3, x4 =>
    if x2 ≤ x4 then (some x3)
    else ((f_X10_at 9 places x4).bind fun o2 =>
    if o2 = x1 then (o_nm ((x3 ||| ((1 : Int32) <<< (x4 &&& 31)))) fun v5 =>
    o_nm (x4 + (1 : Int32)) fun v6 =>
    f_X6_standingAt_5 places n_5 x1 x2 v5 v6)
    else (o_nm (x4 + (1 : Int32)) fun v4 =>
    f_X6_standingAt_5 places n_5 x1 x2 x3 v4))
def f_X6_standingAt (places : Nat → Int32) (x1 : Int32) (x2 : Int32) : Option (Int32) :=
  f_X6_standingAt_5 places 1000 x1 x2 (0 : Int32) (0 : Int32)
theorem hdS_X6_standingAt : yX6_standingAt.cls ≠ "java/lang/invoke/MethodHandle" ∧ yX6_standingAt.cls ≠ "java/lang/invoke/VarHandle" ∧ (parseMethodDescriptor yX6_standingAt.desc).map (fun d => d.parameters.length) = some 2 := by decide +kernel
theorem hdV_X6_standingAt : yX6_standingAt.cls = RX6 ∧ yX6_standingAt.cls ≠ "java/lang/invoke/MethodHandle" ∧ yX6_standingAt.cls ≠ "java/lang/invoke/VarHandle" ∧ (parseMethodDescriptor yX6_standingAt.desc).map (fun d => d.parameters.length) = some 2 := ⟨rfl, hdS_X6_standingAt⟩
set_option maxHeartbeats 4000000 in
set_option maxRecDepth 100000 in
theorem c_X6_standingAt (l : Launch) (D : va_G) (a : Nat → ClassId) (t : Nat) (q_t : Nat) (t_rounds : Int32) (t_months : Int32) (t_law : Int32) (t_holds : Int32) (t_hoarse : Int32) (t_keptIn : Int32) (t_colds : Int32) (q_places : Nat) (places : Nat → Int32) (x1 : Int32) (x2 : Int32) (r : Int32) (hf : f_X6_standingAt places x1 x2 = some r) : Ki l yX6_standingAt wsX6_standingAt 1 21 D a t [.ref q_t, .int x1, .int x2] [(q_t, .inr (6, [.int t_rounds, .int t_months, .int t_law, .int t_holds, .int t_hoarse, .int t_keptIn, .int t_colds, .ref q_places])), (q_places, .inl (a 0, 9, .inl places))] [(q_t, .inr (6, [.int t_rounds, .int t_months, .int t_law, .int t_holds, .int t_hoarse, .int t_keptIn, .int t_colds, .ref q_places])), (q_places, .inl (a 0, 9, .inl places))] r := by
  refine Ki.mk (cc := cX6_standingAt) (nL := 5) (ty := .int) (own := RX6) (by decide) rfl rfl (Nat.le_of_ble_eq_true rfl) ?_
  intro p e s m args below meth c A Q ls hX hP hD hS hl hret
  have hx := hX.1.1
  have hb := hX.1.2.1
  have hown := hX.1.2.2.2.1
  have hts := hX.1.2.2.2.2
  have hN := hX.2.2.1
  have hA := hX.2.2.2.2
  have hl : lv_has ls 5 [(0, .ref q_t), (1, .int x1), (2, .int x2)] := hl
  have hk1 := hts (.fieldLink RX6 15 "GainsaidOnce$State" "places" "[I") (List.mem_of_getElem? (i := 1) rfl)
  have hk2 := hts (.static yX10_at) (List.mem_of_getElem? (i := 2) rfl)
  have hk3 := hts (.initialized RX10) (List.mem_of_getElem? (i := 3) rfl)
  have hiX6 : ∀ w ∈ wsX60, w ∈ wsX6_standingAt := (fun _ h => List.mem_cons_of_mem _ (List.mem_append_right _ h))
  have L_5 : ∀ (n_5 : Nat) (x1 : Int32) (x2 : Int32) (x3 : Int32) (x4 : Int32) (H : Heap) (locs : List Loc) (ls : Array Slot), f_X6_standingAt_5 places n_5 x1 x2 x3 x4 = some r → va_P D vwCl [(q_t, .inr (6, [.int t_rounds, .int t_months, .int t_law, .int t_holds, .int t_hoarse, .int t_keptIn, .int t_colds, .ref q_places])), (q_places, .inl (a 0, 9, .inl places))] H → va_D A [(q_t, .inr (6, [.int t_rounds, .int t_months, .int t_law, .int t_holds, .int t_hoarse, .int t_keptIn, .int t_colds, .ref q_places])), (q_places, .inl (a 0, 9, .inl places))] → va_S A s.heap H locs → lv_has ls 5 [(0, .ref q_t), (1, .int x1), (2, .int x2), (3, .int x3), (4, .int x4)] → W p l e { frames := 1, cells := 0, slots := 0, locals := 21 } s m args below meth c H locs 0 0 Q (F0 m 5 ls []) := by
    intro n_5
    induction n_5 with
    | zero => intro x1 x2 x3 x4 H locs ls hf hP hD hS hl; rw [f_X6_standingAt_5] at hf; cases hf
    | succ n_5 ih_5 =>
      intro x1 x2 x3 x4 H locs ls hf hP hD hS hl
      rw [f_X6_standingAt_5] at hf
      refine lv_iload hx hb dX6_standingAt_5 (lv_at hl 4 rfl) ?_
      refine lv_iload_n hx hb dX6_standingAt_7 rfl (lv_at hl 2 rfl) ?_
      refine lv_icmp_ge (tgt := 37) hx hb dX6_standingAt_8 (by decide) (fun c1 => ?_) (fun c1 => ?_)
      · have hf := o_ifp hf c1
        refine lv_iload_n hx hb dX6_standingAt_37 rfl (lv_at hl 3 rfl) ?_
        cases hf
        exact hret _ _ _ _ (vp_nar_int _) hP hD hS dX6_standingAt_38
      have hf := o_ifn hf c1
      refine lv_aload_n hx hb dX6_standingAt_11 rfl (lv_at hl 0 rfl) ?_
      refine g_get hX hiX6 hP 0 rfl rfl 7 (by decide) hk1 rfl rfl dX6_standingAt_12 ?_
      refine lv_iload hx hb dX6_standingAt_15 (lv_at hl 4 rfl) ?_
      obtain ⟨o2, ho2, hf⟩ := o_bd hf
      refine call_iSN hX (c_X10_at l D a t q_places places 9 x4 o2 ho2) (va_cnB 2 hts gX6_standingAt_X10_at_n49 rfl rfl rfl (nw_67 hN) hk3 hdS_X10_at ⟨by decide, by decide⟩) hk2 (Cut.of hA hP hD hS [1] (by decide) rfl rfl (W' := [(q_t, .inr (6, [.int t_rounds, .int t_months, .int t_law, .int t_holds, .int t_hoarse, .int t_keptIn, .int t_colds, .ref q_places])), (q_places, .inl (a 0, 9, .inl places))]) rfl) hS rfl hl.1 rfl (Nat.le_of_ble_eq_true rfl) dX6_standingAt_17 (by decide) (fun H locs hP hD hS => ?_)
      have hP : va_P D vwCl [(q_t, .inr (6, [.int t_rounds, .int t_months, .int t_law, .int t_holds, .int t_hoarse, .int t_keptIn, .int t_colds, .ref q_places])), (q_places, .inl (a 0, 9, .inl places))] H := hP
      have hD : va_D A [(q_t, .inr (6, [.int t_rounds, .int t_months, .int t_law, .int t_holds, .int t_hoarse, .int t_keptIn, .int t_colds, .ref q_places])), (q_places, .inl (a 0, 9, .inl places))] := hD
      refine lv_iload_n hx hb dX6_standingAt_20 rfl (lv_at hl 1 rfl) ?_
      refine lv_icmp_ne (tgt := 31) hx hb dX6_standingAt_21 (by decide) (fun c3 => ?_) (fun c3 => ?_)
      · have hf := o_ifn hf c3
        obtain ⟨v4, ev4⟩ : ∃ y : Int32, y = x4 + (1 : Int32) := ⟨_, rfl⟩
        have hf := o_nmh hf v4 ev4
        refine lv_iinc (v := v4) (lv' := [(4, .int v4), (0, .ref q_t), (1, .int x1), (2, .int x2), (3, .int x3)]) hx hb dX6_standingAt_31 hl (k := 4) rfl (by rw [ev4]; rfl) (by decide) rfl (fun ls hl => ?_)
        refine lv_goto (tgt := 5) hx hb dX6_standingAt_34 (by decide) ?_
        exact ih_5 x1 x2 x3 v4 _ _ _ hf hP hD hS (lv_sub hl [1, 2, 3, 4, 0] rfl)
      have hf := o_ifp hf c3
      refine lv_iload_n hx hb dX6_standingAt_24 rfl (lv_at hl 3 rfl) ?_
      refine lv_iconst (v := (1 : Int32)) hx hb dX6_standingAt_25 (by decide) ?_
      refine lv_iload hx hb dX6_standingAt_26 (lv_at hl 4 rfl) ?_
      refine lv_ishl hx hb dX6_standingAt_28 ?_
      refine lv_ior hx hb dX6_standingAt_29 ?_
      refine lv_topi (fun v5 ev5 => ?_)
      have hf := o_nmh hf v5 ev5
      refine lv_istore_n (lv' := [(3, .int v5), (0, .ref q_t), (1, .int x1), (2, .int x2), (4, .int x4)]) hx hb dX6_standingAt_30 rfl hl (by decide) rfl (fun ls hl => ?_)
      obtain ⟨v6, ev6⟩ : ∃ y : Int32, y = x4 + (1 : Int32) := ⟨_, rfl⟩
      have hf := o_nmh hf v6 ev6
      refine lv_iinc (v := v6) (lv' := [(4, .int v6), (3, .int v5), (0, .ref q_t), (1, .int x1), (2, .int x2)]) hx hb dX6_standingAt_31 hl (k := 4) rfl (by rw [ev6]; rfl) (by decide) rfl (fun ls hl => ?_)
      refine lv_goto (tgt := 5) hx hb dX6_standingAt_34 (by decide) ?_
      exact ih_5 x1 x2 v5 v6 _ _ _ hf hP hD hS (lv_sub hl [2, 3, 4, 1, 0] rfl)
  unfold f_X6_standingAt at hf
  refine lv_iconst (v := (0 : Int32)) hx hb dX6_standingAt_0 (by decide) ?_
  refine lv_istore_n (lv' := [(3, .int (0 : Int32)), (0, .ref q_t), (1, .int x1), (2, .int x2)]) hx hb dX6_standingAt_1 rfl hl (by decide) rfl (fun ls hl => ?_)
  refine lv_iconst (v := (0 : Int32)) hx hb dX6_standingAt_2 (by decide) ?_
  refine lv_istore (lv' := [(4, .int (0 : Int32)), (3, .int (0 : Int32)), (0, .ref q_t), (1, .int x1), (2, .int x2)]) hx hb dX6_standingAt_3 hl (by decide) rfl (fun ls hl => ?_)
  exact L_5 1000 x1 x2 (0 : Int32) (0 : Int32) _ _ _ hf hP hD hS (lv_sub hl [2, 3, 4, 1, 0] rfl)
def f_X7_become (t_clauses : Int32) (t_corners : Int32) (t_hearers : Int32) (t_firstColds : Int32) (beers : Nat → Int32) (firstPlaces : Nat → Int32) (pinches : Nat → Int32) (sayings : Nat → Int32) (p1_clauses : Int32) (p1_corners : Int32) (p1_hearers : Int32) (p1_firstColds : Int32) (p1_beers : Nat → Int32) (p1_firstPlaces : Nat → Int32) (p1_pinches : Nat → Int32) (p1_sayings : Nat → Int32) : Option (Int32 × Int32 × Int32 × Int32 × (Nat → Int32) × (Nat → Int32) × (Nat → Int32) × (Nat → Int32)) :=
  (f_X10_copyRow 8 8 p1_beers beers).bind fun o1 =>
  (f_X10_copyRow 9 9 p1_firstPlaces firstPlaces).bind fun o2 =>
  (f_X10_copyRow 9 9 p1_pinches pinches).bind fun o3 =>
  (f_X10_copyRow 9 9 p1_sayings sayings).bind fun o4 =>
  some (p1_clauses, p1_corners, p1_hearers, p1_firstColds, o1, o2, o3, o4)
theorem hdS_X7_become : yX7_become.cls ≠ "java/lang/invoke/MethodHandle" ∧ yX7_become.cls ≠ "java/lang/invoke/VarHandle" ∧ (parseMethodDescriptor yX7_become.desc).map (fun d => d.parameters.length) = some 1 := by decide +kernel
theorem hdV_X7_become : yX7_become.cls = RX7 ∧ yX7_become.cls ≠ "java/lang/invoke/MethodHandle" ∧ yX7_become.cls ≠ "java/lang/invoke/VarHandle" ∧ (parseMethodDescriptor yX7_become.desc).map (fun d => d.parameters.length) = some 1 := ⟨rfl, hdS_X7_become⟩
set_option maxHeartbeats 4000000 in
set_option maxRecDepth 100000 in
theorem c_X7_become (l : Launch) (D : va_G) (a : Nat → ClassId) (t : Nat) (q_t : Nat) (t_clauses : Int32) (t_corners : Int32) (t_hearers : Int32) (t_firstColds : Int32) (q_beers : Nat) (q_firstPlaces : Nat) (q_pinches : Nat) (q_sayings : Nat) (beers : Nat → Int32) (firstPlaces : Nat → Int32) (pinches : Nat → Int32) (sayings : Nat → Int32) (q_p1 : Nat) (p1_clauses : Int32) (p1_corners : Int32) (p1_hearers : Int32) (p1_firstColds : Int32) (q_p1_beers : Nat) (q_p1_firstPlaces : Nat) (q_p1_pinches : Nat) (q_p1_sayings : Nat) (p1_beers : Nat → Int32) (p1_firstPlaces : Nat → Int32) (p1_pinches : Nat → Int32) (p1_sayings : Nat → Int32) (o_t_clauses : Int32) (o_t_corners : Int32) (o_t_hearers : Int32) (o_t_firstColds : Int32) (o_beers : Nat → Int32) (o_firstPlaces : Nat → Int32) (o_pinches : Nat → Int32) (o_sayings : Nat → Int32) (hf : f_X7_become t_clauses t_corners t_hearers t_firstColds beers firstPlaces pinches sayings p1_clauses p1_corners p1_hearers p1_firstColds p1_beers p1_firstPlaces p1_pinches p1_sayings = some (o_t_clauses, o_t_corners, o_t_hearers, o_t_firstColds, o_beers, o_firstPlaces, o_pinches, o_sayings)) : Kv l yX7_become wsX7_become 1 22 D a t [.ref q_t, .ref q_p1] [(q_t, .inr (7, [.int t_clauses, .int t_corners, .int t_hearers, .int t_firstColds, .ref q_beers, .ref q_firstPlaces, .ref q_pinches, .ref q_sayings])), (q_beers, .inl (a 0, 8, .inl beers)), (q_firstPlaces, .inl (a 0, 9, .inl firstPlaces)), (q_pinches, .inl (a 0, 9, .inl pinches)), (q_sayings, .inl (a 0, 9, .inl sayings)), (q_p1, .inr (7, [.int p1_clauses, .int p1_corners, .int p1_hearers, .int p1_firstColds, .ref q_p1_beers, .ref q_p1_firstPlaces, .ref q_p1_pinches, .ref q_p1_sayings])), (q_p1_beers, .inl (a 0, 8, .inl p1_beers)), (q_p1_firstPlaces, .inl (a 0, 9, .inl p1_firstPlaces)), (q_p1_pinches, .inl (a 0, 9, .inl p1_pinches)), (q_p1_sayings, .inl (a 0, 9, .inl p1_sayings))] [(q_t, .inr (7, [.int o_t_clauses, .int o_t_corners, .int o_t_hearers, .int o_t_firstColds, .ref q_beers, .ref q_firstPlaces, .ref q_pinches, .ref q_sayings])), (q_beers, .inl (a 0, 8, .inl o_beers)), (q_firstPlaces, .inl (a 0, 9, .inl o_firstPlaces)), (q_pinches, .inl (a 0, 9, .inl o_pinches)), (q_sayings, .inl (a 0, 9, .inl o_sayings)), (q_p1, .inr (7, [.int p1_clauses, .int p1_corners, .int p1_hearers, .int p1_firstColds, .ref q_p1_beers, .ref q_p1_firstPlaces, .ref q_p1_pinches, .ref q_p1_sayings])), (q_p1_beers, .inl (a 0, 8, .inl p1_beers)), (q_p1_firstPlaces, .inl (a 0, 9, .inl p1_firstPlaces)), (q_p1_pinches, .inl (a 0, 9, .inl p1_pinches)), (q_p1_sayings, .inl (a 0, 9, .inl p1_sayings))] := by
  refine Kv.mk (cc := cX7_become) (nL := 2) (own := RX7) (by decide) rfl rfl (Nat.le_of_ble_eq_true rfl) ?_
  intro p e s m args below meth c A Q ls hX hP hD hS hl hret
  have hx := hX.1.1
  have hb := hX.1.2.1
  have hown := hX.1.2.2.2.1
  have hts := hX.1.2.2.2.2
  have hN := hX.2.2.1
  have hA := hX.2.2.2.2
  have hl : lv_has ls 2 [(0, .ref q_t), (1, .ref q_p1)] := hl
  have hk1 := hts (.fieldLink RX7 24 "GainsaidOnce$Town" "clauses" "I") (List.mem_of_getElem? (i := 1) rfl)
  have hk2 := hts (.fieldLink RX7 28 "GainsaidOnce$Town" "corners" "I") (List.mem_of_getElem? (i := 2) rfl)
  have hk3 := hts (.fieldLink RX7 31 "GainsaidOnce$Town" "hearers" "I") (List.mem_of_getElem? (i := 3) rfl)
  have hk4 := hts (.fieldLink RX7 34 "GainsaidOnce$Town" "firstColds" "I") (List.mem_of_getElem? (i := 4) rfl)
  have hk5 := hts (.fieldLink RX7 9 "GainsaidOnce$Town" "beers" "[I") (List.mem_of_getElem? (i := 5) rfl)
  have hk6 := hts (.fieldLink RX7 15 "GainsaidOnce$Town" "firstPlaces" "[I") (List.mem_of_getElem? (i := 6) rfl)
  have hk7 := hts (.fieldLink RX7 18 "GainsaidOnce$Town" "pinches" "[I") (List.mem_of_getElem? (i := 7) rfl)
  have hk8 := hts (.fieldLink RX7 21 "GainsaidOnce$Town" "sayings" "[I") (List.mem_of_getElem? (i := 8) rfl)
  have hk9 := hts (.static yX10_copyRow) (List.mem_of_getElem? (i := 9) rfl)
  have hk10 := hts (.initialized RX10) (List.mem_of_getElem? (i := 10) rfl)
  have hiX7 : ∀ w ∈ wsX70, w ∈ wsX7_become := (fun _ h => List.mem_cons_of_mem _ (List.mem_append_right _ h))
  unfold f_X7_become at hf
  refine lv_aload_n hx hb dX7_become_0 rfl (lv_at hl 0 rfl) ?_
  refine lv_aload_n hx hb dX7_become_1 rfl (lv_at hl 1 rfl) ?_
  refine g_get hX hiX7 hP 5 rfl rfl 0 (by decide) hk1 rfl rfl dX7_become_2 ?_
  refine g_put hX hiX7 tyX7 tyX7_ok nmX7 hP hD hS 0 rfl rfl 0 (by decide) hk1 rfl rfl rfl rfl (Nat.le_of_ble_eq_true rfl) dX7_become_5 (fun H locs hP hD hS => ?_)
  have hP : va_P D vwCl [(q_t, .inr (7, [.int p1_clauses, .int t_corners, .int t_hearers, .int t_firstColds, .ref q_beers, .ref q_firstPlaces, .ref q_pinches, .ref q_sayings])), (q_beers, .inl (a 0, 8, .inl beers)), (q_firstPlaces, .inl (a 0, 9, .inl firstPlaces)), (q_pinches, .inl (a 0, 9, .inl pinches)), (q_sayings, .inl (a 0, 9, .inl sayings)), (q_p1, .inr (7, [.int p1_clauses, .int p1_corners, .int p1_hearers, .int p1_firstColds, .ref q_p1_beers, .ref q_p1_firstPlaces, .ref q_p1_pinches, .ref q_p1_sayings])), (q_p1_beers, .inl (a 0, 8, .inl p1_beers)), (q_p1_firstPlaces, .inl (a 0, 9, .inl p1_firstPlaces)), (q_p1_pinches, .inl (a 0, 9, .inl p1_pinches)), (q_p1_sayings, .inl (a 0, 9, .inl p1_sayings))] H := hP
  have hD : va_D A [(q_t, .inr (7, [.int p1_clauses, .int t_corners, .int t_hearers, .int t_firstColds, .ref q_beers, .ref q_firstPlaces, .ref q_pinches, .ref q_sayings])), (q_beers, .inl (a 0, 8, .inl beers)), (q_firstPlaces, .inl (a 0, 9, .inl firstPlaces)), (q_pinches, .inl (a 0, 9, .inl pinches)), (q_sayings, .inl (a 0, 9, .inl sayings)), (q_p1, .inr (7, [.int p1_clauses, .int p1_corners, .int p1_hearers, .int p1_firstColds, .ref q_p1_beers, .ref q_p1_firstPlaces, .ref q_p1_pinches, .ref q_p1_sayings])), (q_p1_beers, .inl (a 0, 8, .inl p1_beers)), (q_p1_firstPlaces, .inl (a 0, 9, .inl p1_firstPlaces)), (q_p1_pinches, .inl (a 0, 9, .inl p1_pinches)), (q_p1_sayings, .inl (a 0, 9, .inl p1_sayings))] := hD
  refine lv_aload_n hx hb dX7_become_8 rfl (lv_at hl 0 rfl) ?_
  refine lv_aload_n hx hb dX7_become_9 rfl (lv_at hl 1 rfl) ?_
  refine g_get hX hiX7 hP 5 rfl rfl 1 (by decide) hk2 rfl rfl dX7_become_10 ?_
  refine g_put hX hiX7 tyX7 tyX7_ok nmX7 hP hD hS 0 rfl rfl 1 (by decide) hk2 rfl rfl rfl rfl (Nat.le_of_ble_eq_true rfl) dX7_become_13 (fun H locs hP hD hS => ?_)
  have hP : va_P D vwCl [(q_t, .inr (7, [.int p1_clauses, .int p1_corners, .int t_hearers, .int t_firstColds, .ref q_beers, .ref q_firstPlaces, .ref q_pinches, .ref q_sayings])), (q_beers, .inl (a 0, 8, .inl beers)), (q_firstPlaces, .inl (a 0, 9, .inl firstPlaces)), (q_pinches, .inl (a 0, 9, .inl pinches)), (q_sayings, .inl (a 0, 9, .inl sayings)), (q_p1, .inr (7, [.int p1_clauses, .int p1_corners, .int p1_hearers, .int p1_firstColds, .ref q_p1_beers, .ref q_p1_firstPlaces, .ref q_p1_pinches, .ref q_p1_sayings])), (q_p1_beers, .inl (a 0, 8, .inl p1_beers)), (q_p1_firstPlaces, .inl (a 0, 9, .inl p1_firstPlaces)), (q_p1_pinches, .inl (a 0, 9, .inl p1_pinches)), (q_p1_sayings, .inl (a 0, 9, .inl p1_sayings))] H := hP
  have hD : va_D A [(q_t, .inr (7, [.int p1_clauses, .int p1_corners, .int t_hearers, .int t_firstColds, .ref q_beers, .ref q_firstPlaces, .ref q_pinches, .ref q_sayings])), (q_beers, .inl (a 0, 8, .inl beers)), (q_firstPlaces, .inl (a 0, 9, .inl firstPlaces)), (q_pinches, .inl (a 0, 9, .inl pinches)), (q_sayings, .inl (a 0, 9, .inl sayings)), (q_p1, .inr (7, [.int p1_clauses, .int p1_corners, .int p1_hearers, .int p1_firstColds, .ref q_p1_beers, .ref q_p1_firstPlaces, .ref q_p1_pinches, .ref q_p1_sayings])), (q_p1_beers, .inl (a 0, 8, .inl p1_beers)), (q_p1_firstPlaces, .inl (a 0, 9, .inl p1_firstPlaces)), (q_p1_pinches, .inl (a 0, 9, .inl p1_pinches)), (q_p1_sayings, .inl (a 0, 9, .inl p1_sayings))] := hD
  refine lv_aload_n hx hb dX7_become_16 rfl (lv_at hl 0 rfl) ?_
  refine lv_aload_n hx hb dX7_become_17 rfl (lv_at hl 1 rfl) ?_
  refine g_get hX hiX7 hP 5 rfl rfl 2 (by decide) hk3 rfl rfl dX7_become_18 ?_
  refine g_put hX hiX7 tyX7 tyX7_ok nmX7 hP hD hS 0 rfl rfl 2 (by decide) hk3 rfl rfl rfl rfl (Nat.le_of_ble_eq_true rfl) dX7_become_21 (fun H locs hP hD hS => ?_)
  have hP : va_P D vwCl [(q_t, .inr (7, [.int p1_clauses, .int p1_corners, .int p1_hearers, .int t_firstColds, .ref q_beers, .ref q_firstPlaces, .ref q_pinches, .ref q_sayings])), (q_beers, .inl (a 0, 8, .inl beers)), (q_firstPlaces, .inl (a 0, 9, .inl firstPlaces)), (q_pinches, .inl (a 0, 9, .inl pinches)), (q_sayings, .inl (a 0, 9, .inl sayings)), (q_p1, .inr (7, [.int p1_clauses, .int p1_corners, .int p1_hearers, .int p1_firstColds, .ref q_p1_beers, .ref q_p1_firstPlaces, .ref q_p1_pinches, .ref q_p1_sayings])), (q_p1_beers, .inl (a 0, 8, .inl p1_beers)), (q_p1_firstPlaces, .inl (a 0, 9, .inl p1_firstPlaces)), (q_p1_pinches, .inl (a 0, 9, .inl p1_pinches)), (q_p1_sayings, .inl (a 0, 9, .inl p1_sayings))] H := hP
  have hD : va_D A [(q_t, .inr (7, [.int p1_clauses, .int p1_corners, .int p1_hearers, .int t_firstColds, .ref q_beers, .ref q_firstPlaces, .ref q_pinches, .ref q_sayings])), (q_beers, .inl (a 0, 8, .inl beers)), (q_firstPlaces, .inl (a 0, 9, .inl firstPlaces)), (q_pinches, .inl (a 0, 9, .inl pinches)), (q_sayings, .inl (a 0, 9, .inl sayings)), (q_p1, .inr (7, [.int p1_clauses, .int p1_corners, .int p1_hearers, .int p1_firstColds, .ref q_p1_beers, .ref q_p1_firstPlaces, .ref q_p1_pinches, .ref q_p1_sayings])), (q_p1_beers, .inl (a 0, 8, .inl p1_beers)), (q_p1_firstPlaces, .inl (a 0, 9, .inl p1_firstPlaces)), (q_p1_pinches, .inl (a 0, 9, .inl p1_pinches)), (q_p1_sayings, .inl (a 0, 9, .inl p1_sayings))] := hD
  refine lv_aload_n hx hb dX7_become_24 rfl (lv_at hl 0 rfl) ?_
  refine lv_aload_n hx hb dX7_become_25 rfl (lv_at hl 1 rfl) ?_
  refine g_get hX hiX7 hP 5 rfl rfl 3 (by decide) hk4 rfl rfl dX7_become_26 ?_
  refine g_put hX hiX7 tyX7 tyX7_ok nmX7 hP hD hS 0 rfl rfl 3 (by decide) hk4 rfl rfl rfl rfl (Nat.le_of_ble_eq_true rfl) dX7_become_29 (fun H locs hP hD hS => ?_)
  have hP : va_P D vwCl [(q_t, .inr (7, [.int p1_clauses, .int p1_corners, .int p1_hearers, .int p1_firstColds, .ref q_beers, .ref q_firstPlaces, .ref q_pinches, .ref q_sayings])), (q_beers, .inl (a 0, 8, .inl beers)), (q_firstPlaces, .inl (a 0, 9, .inl firstPlaces)), (q_pinches, .inl (a 0, 9, .inl pinches)), (q_sayings, .inl (a 0, 9, .inl sayings)), (q_p1, .inr (7, [.int p1_clauses, .int p1_corners, .int p1_hearers, .int p1_firstColds, .ref q_p1_beers, .ref q_p1_firstPlaces, .ref q_p1_pinches, .ref q_p1_sayings])), (q_p1_beers, .inl (a 0, 8, .inl p1_beers)), (q_p1_firstPlaces, .inl (a 0, 9, .inl p1_firstPlaces)), (q_p1_pinches, .inl (a 0, 9, .inl p1_pinches)), (q_p1_sayings, .inl (a 0, 9, .inl p1_sayings))] H := hP
  have hD : va_D A [(q_t, .inr (7, [.int p1_clauses, .int p1_corners, .int p1_hearers, .int p1_firstColds, .ref q_beers, .ref q_firstPlaces, .ref q_pinches, .ref q_sayings])), (q_beers, .inl (a 0, 8, .inl beers)), (q_firstPlaces, .inl (a 0, 9, .inl firstPlaces)), (q_pinches, .inl (a 0, 9, .inl pinches)), (q_sayings, .inl (a 0, 9, .inl sayings)), (q_p1, .inr (7, [.int p1_clauses, .int p1_corners, .int p1_hearers, .int p1_firstColds, .ref q_p1_beers, .ref q_p1_firstPlaces, .ref q_p1_pinches, .ref q_p1_sayings])), (q_p1_beers, .inl (a 0, 8, .inl p1_beers)), (q_p1_firstPlaces, .inl (a 0, 9, .inl p1_firstPlaces)), (q_p1_pinches, .inl (a 0, 9, .inl p1_pinches)), (q_p1_sayings, .inl (a 0, 9, .inl p1_sayings))] := hD
  refine lv_aload_n hx hb dX7_become_32 rfl (lv_at hl 1 rfl) ?_
  refine g_get hX hiX7 hP 5 rfl rfl 4 (by decide) hk5 rfl rfl dX7_become_33 ?_
  refine lv_aload_n hx hb dX7_become_36 rfl (lv_at hl 0 rfl) ?_
  refine g_get hX hiX7 hP 0 rfl rfl 4 (by decide) hk5 rfl rfl dX7_become_37 ?_
  obtain ⟨o1, ho1, hf⟩ := o_bd hf
  refine call_vSN hX (c_X10_copyRow l D a t q_p1_beers p1_beers 8 q_beers beers 8 o1 ho1) (va_cnB 2 hts gX7_become_X10_copyRow_n37 rfl rfl rfl (nw_65 hN) hk10 hdS_X10_copyRow ⟨by decide, by decide⟩) hk9 (Cut.of hA hP hD hS [6, 1] (by decide) rfl rfl (W' := [(q_t, .inr (7, [.int p1_clauses, .int p1_corners, .int p1_hearers, .int p1_firstColds, .ref q_beers, .ref q_firstPlaces, .ref q_pinches, .ref q_sayings])), (q_beers, .inl (a 0, 8, .inl o1)), (q_firstPlaces, .inl (a 0, 9, .inl firstPlaces)), (q_pinches, .inl (a 0, 9, .inl pinches)), (q_sayings, .inl (a 0, 9, .inl sayings)), (q_p1, .inr (7, [.int p1_clauses, .int p1_corners, .int p1_hearers, .int p1_firstColds, .ref q_p1_beers, .ref q_p1_firstPlaces, .ref q_p1_pinches, .ref q_p1_sayings])), (q_p1_beers, .inl (a 0, 8, .inl p1_beers)), (q_p1_firstPlaces, .inl (a 0, 9, .inl p1_firstPlaces)), (q_p1_pinches, .inl (a 0, 9, .inl p1_pinches)), (q_p1_sayings, .inl (a 0, 9, .inl p1_sayings))]) rfl) hS rfl hl.1 rfl (Nat.le_of_ble_eq_true rfl) dX7_become_40 (by decide) (fun H locs hP hD hS => ?_)
  have hP : va_P D vwCl [(q_t, .inr (7, [.int p1_clauses, .int p1_corners, .int p1_hearers, .int p1_firstColds, .ref q_beers, .ref q_firstPlaces, .ref q_pinches, .ref q_sayings])), (q_beers, .inl (a 0, 8, .inl o1)), (q_firstPlaces, .inl (a 0, 9, .inl firstPlaces)), (q_pinches, .inl (a 0, 9, .inl pinches)), (q_sayings, .inl (a 0, 9, .inl sayings)), (q_p1, .inr (7, [.int p1_clauses, .int p1_corners, .int p1_hearers, .int p1_firstColds, .ref q_p1_beers, .ref q_p1_firstPlaces, .ref q_p1_pinches, .ref q_p1_sayings])), (q_p1_beers, .inl (a 0, 8, .inl p1_beers)), (q_p1_firstPlaces, .inl (a 0, 9, .inl p1_firstPlaces)), (q_p1_pinches, .inl (a 0, 9, .inl p1_pinches)), (q_p1_sayings, .inl (a 0, 9, .inl p1_sayings))] H := hP
  have hD : va_D A [(q_t, .inr (7, [.int p1_clauses, .int p1_corners, .int p1_hearers, .int p1_firstColds, .ref q_beers, .ref q_firstPlaces, .ref q_pinches, .ref q_sayings])), (q_beers, .inl (a 0, 8, .inl o1)), (q_firstPlaces, .inl (a 0, 9, .inl firstPlaces)), (q_pinches, .inl (a 0, 9, .inl pinches)), (q_sayings, .inl (a 0, 9, .inl sayings)), (q_p1, .inr (7, [.int p1_clauses, .int p1_corners, .int p1_hearers, .int p1_firstColds, .ref q_p1_beers, .ref q_p1_firstPlaces, .ref q_p1_pinches, .ref q_p1_sayings])), (q_p1_beers, .inl (a 0, 8, .inl p1_beers)), (q_p1_firstPlaces, .inl (a 0, 9, .inl p1_firstPlaces)), (q_p1_pinches, .inl (a 0, 9, .inl p1_pinches)), (q_p1_sayings, .inl (a 0, 9, .inl p1_sayings))] := hD
  refine lv_aload_n hx hb dX7_become_43 rfl (lv_at hl 1 rfl) ?_
  refine g_get hX hiX7 hP 5 rfl rfl 5 (by decide) hk6 rfl rfl dX7_become_44 ?_
  refine lv_aload_n hx hb dX7_become_47 rfl (lv_at hl 0 rfl) ?_
  refine g_get hX hiX7 hP 0 rfl rfl 5 (by decide) hk6 rfl rfl dX7_become_48 ?_
  obtain ⟨o2, ho2, hf⟩ := o_bd hf
  refine call_vSN hX (c_X10_copyRow l D a t q_p1_firstPlaces p1_firstPlaces 9 q_firstPlaces firstPlaces 9 o2 ho2) (va_cnB 2 hts gX7_become_X10_copyRow_n37 rfl rfl rfl (nw_65 hN) hk10 hdS_X10_copyRow ⟨by decide, by decide⟩) hk9 (Cut.of hA hP hD hS [7, 2] (by decide) rfl rfl (W' := [(q_t, .inr (7, [.int p1_clauses, .int p1_corners, .int p1_hearers, .int p1_firstColds, .ref q_beers, .ref q_firstPlaces, .ref q_pinches, .ref q_sayings])), (q_beers, .inl (a 0, 8, .inl o1)), (q_firstPlaces, .inl (a 0, 9, .inl o2)), (q_pinches, .inl (a 0, 9, .inl pinches)), (q_sayings, .inl (a 0, 9, .inl sayings)), (q_p1, .inr (7, [.int p1_clauses, .int p1_corners, .int p1_hearers, .int p1_firstColds, .ref q_p1_beers, .ref q_p1_firstPlaces, .ref q_p1_pinches, .ref q_p1_sayings])), (q_p1_beers, .inl (a 0, 8, .inl p1_beers)), (q_p1_firstPlaces, .inl (a 0, 9, .inl p1_firstPlaces)), (q_p1_pinches, .inl (a 0, 9, .inl p1_pinches)), (q_p1_sayings, .inl (a 0, 9, .inl p1_sayings))]) rfl) hS rfl hl.1 rfl (Nat.le_of_ble_eq_true rfl) dX7_become_51 (by decide) (fun H locs hP hD hS => ?_)
  have hP : va_P D vwCl [(q_t, .inr (7, [.int p1_clauses, .int p1_corners, .int p1_hearers, .int p1_firstColds, .ref q_beers, .ref q_firstPlaces, .ref q_pinches, .ref q_sayings])), (q_beers, .inl (a 0, 8, .inl o1)), (q_firstPlaces, .inl (a 0, 9, .inl o2)), (q_pinches, .inl (a 0, 9, .inl pinches)), (q_sayings, .inl (a 0, 9, .inl sayings)), (q_p1, .inr (7, [.int p1_clauses, .int p1_corners, .int p1_hearers, .int p1_firstColds, .ref q_p1_beers, .ref q_p1_firstPlaces, .ref q_p1_pinches, .ref q_p1_sayings])), (q_p1_beers, .inl (a 0, 8, .inl p1_beers)), (q_p1_firstPlaces, .inl (a 0, 9, .inl p1_firstPlaces)), (q_p1_pinches, .inl (a 0, 9, .inl p1_pinches)), (q_p1_sayings, .inl (a 0, 9, .inl p1_sayings))] H := hP
  have hD : va_D A [(q_t, .inr (7, [.int p1_clauses, .int p1_corners, .int p1_hearers, .int p1_firstColds, .ref q_beers, .ref q_firstPlaces, .ref q_pinches, .ref q_sayings])), (q_beers, .inl (a 0, 8, .inl o1)), (q_firstPlaces, .inl (a 0, 9, .inl o2)), (q_pinches, .inl (a 0, 9, .inl pinches)), (q_sayings, .inl (a 0, 9, .inl sayings)), (q_p1, .inr (7, [.int p1_clauses, .int p1_corners, .int p1_hearers, .int p1_firstColds, .ref q_p1_beers, .ref q_p1_firstPlaces, .ref q_p1_pinches, .ref q_p1_sayings])), (q_p1_beers, .inl (a 0, 8, .inl p1_beers)), (q_p1_firstPlaces, .inl (a 0, 9, .inl p1_firstPlaces)), (q_p1_pinches, .inl (a 0, 9, .inl p1_pinches)), (q_p1_sayings, .inl (a 0, 9, .inl p1_sayings))] := hD
  refine lv_aload_n hx hb dX7_become_54 rfl (lv_at hl 1 rfl) ?_
  refine g_get hX hiX7 hP 5 rfl rfl 6 (by decide) hk7 rfl rfl dX7_become_55 ?_
  refine lv_aload_n hx hb dX7_become_58 rfl (lv_at hl 0 rfl) ?_
  refine g_get hX hiX7 hP 0 rfl rfl 6 (by decide) hk7 rfl rfl dX7_become_59 ?_
  obtain ⟨o3, ho3, hf⟩ := o_bd hf
  refine call_vSN hX (c_X10_copyRow l D a t q_p1_pinches p1_pinches 9 q_pinches pinches 9 o3 ho3) (va_cnB 2 hts gX7_become_X10_copyRow_n37 rfl rfl rfl (nw_65 hN) hk10 hdS_X10_copyRow ⟨by decide, by decide⟩) hk9 (Cut.of hA hP hD hS [8, 3] (by decide) rfl rfl (W' := [(q_t, .inr (7, [.int p1_clauses, .int p1_corners, .int p1_hearers, .int p1_firstColds, .ref q_beers, .ref q_firstPlaces, .ref q_pinches, .ref q_sayings])), (q_beers, .inl (a 0, 8, .inl o1)), (q_firstPlaces, .inl (a 0, 9, .inl o2)), (q_pinches, .inl (a 0, 9, .inl o3)), (q_sayings, .inl (a 0, 9, .inl sayings)), (q_p1, .inr (7, [.int p1_clauses, .int p1_corners, .int p1_hearers, .int p1_firstColds, .ref q_p1_beers, .ref q_p1_firstPlaces, .ref q_p1_pinches, .ref q_p1_sayings])), (q_p1_beers, .inl (a 0, 8, .inl p1_beers)), (q_p1_firstPlaces, .inl (a 0, 9, .inl p1_firstPlaces)), (q_p1_pinches, .inl (a 0, 9, .inl p1_pinches)), (q_p1_sayings, .inl (a 0, 9, .inl p1_sayings))]) rfl) hS rfl hl.1 rfl (Nat.le_of_ble_eq_true rfl) dX7_become_62 (by decide) (fun H locs hP hD hS => ?_)
  have hP : va_P D vwCl [(q_t, .inr (7, [.int p1_clauses, .int p1_corners, .int p1_hearers, .int p1_firstColds, .ref q_beers, .ref q_firstPlaces, .ref q_pinches, .ref q_sayings])), (q_beers, .inl (a 0, 8, .inl o1)), (q_firstPlaces, .inl (a 0, 9, .inl o2)), (q_pinches, .inl (a 0, 9, .inl o3)), (q_sayings, .inl (a 0, 9, .inl sayings)), (q_p1, .inr (7, [.int p1_clauses, .int p1_corners, .int p1_hearers, .int p1_firstColds, .ref q_p1_beers, .ref q_p1_firstPlaces, .ref q_p1_pinches, .ref q_p1_sayings])), (q_p1_beers, .inl (a 0, 8, .inl p1_beers)), (q_p1_firstPlaces, .inl (a 0, 9, .inl p1_firstPlaces)), (q_p1_pinches, .inl (a 0, 9, .inl p1_pinches)), (q_p1_sayings, .inl (a 0, 9, .inl p1_sayings))] H := hP
  have hD : va_D A [(q_t, .inr (7, [.int p1_clauses, .int p1_corners, .int p1_hearers, .int p1_firstColds, .ref q_beers, .ref q_firstPlaces, .ref q_pinches, .ref q_sayings])), (q_beers, .inl (a 0, 8, .inl o1)), (q_firstPlaces, .inl (a 0, 9, .inl o2)), (q_pinches, .inl (a 0, 9, .inl o3)), (q_sayings, .inl (a 0, 9, .inl sayings)), (q_p1, .inr (7, [.int p1_clauses, .int p1_corners, .int p1_hearers, .int p1_firstColds, .ref q_p1_beers, .ref q_p1_firstPlaces, .ref q_p1_pinches, .ref q_p1_sayings])), (q_p1_beers, .inl (a 0, 8, .inl p1_beers)), (q_p1_firstPlaces, .inl (a 0, 9, .inl p1_firstPlaces)), (q_p1_pinches, .inl (a 0, 9, .inl p1_pinches)), (q_p1_sayings, .inl (a 0, 9, .inl p1_sayings))] := hD
  refine lv_aload_n hx hb dX7_become_65 rfl (lv_at hl 1 rfl) ?_
  refine g_get hX hiX7 hP 5 rfl rfl 7 (by decide) hk8 rfl rfl dX7_become_66 ?_
  refine lv_aload_n hx hb dX7_become_69 rfl (lv_at hl 0 rfl) ?_
  refine g_get hX hiX7 hP 0 rfl rfl 7 (by decide) hk8 rfl rfl dX7_become_70 ?_
  obtain ⟨o4, ho4, hf⟩ := o_bd hf
  refine call_vSN hX (c_X10_copyRow l D a t q_p1_sayings p1_sayings 9 q_sayings sayings 9 o4 ho4) (va_cnB 2 hts gX7_become_X10_copyRow_n37 rfl rfl rfl (nw_65 hN) hk10 hdS_X10_copyRow ⟨by decide, by decide⟩) hk9 (Cut.of hA hP hD hS [9, 4] (by decide) rfl rfl (W' := [(q_t, .inr (7, [.int p1_clauses, .int p1_corners, .int p1_hearers, .int p1_firstColds, .ref q_beers, .ref q_firstPlaces, .ref q_pinches, .ref q_sayings])), (q_beers, .inl (a 0, 8, .inl o1)), (q_firstPlaces, .inl (a 0, 9, .inl o2)), (q_pinches, .inl (a 0, 9, .inl o3)), (q_sayings, .inl (a 0, 9, .inl o4)), (q_p1, .inr (7, [.int p1_clauses, .int p1_corners, .int p1_hearers, .int p1_firstColds, .ref q_p1_beers, .ref q_p1_firstPlaces, .ref q_p1_pinches, .ref q_p1_sayings])), (q_p1_beers, .inl (a 0, 8, .inl p1_beers)), (q_p1_firstPlaces, .inl (a 0, 9, .inl p1_firstPlaces)), (q_p1_pinches, .inl (a 0, 9, .inl p1_pinches)), (q_p1_sayings, .inl (a 0, 9, .inl p1_sayings))]) rfl) hS rfl hl.1 rfl (Nat.le_of_ble_eq_true rfl) dX7_become_73 (by decide) (fun H locs hP hD hS => ?_)
  have hP : va_P D vwCl [(q_t, .inr (7, [.int p1_clauses, .int p1_corners, .int p1_hearers, .int p1_firstColds, .ref q_beers, .ref q_firstPlaces, .ref q_pinches, .ref q_sayings])), (q_beers, .inl (a 0, 8, .inl o1)), (q_firstPlaces, .inl (a 0, 9, .inl o2)), (q_pinches, .inl (a 0, 9, .inl o3)), (q_sayings, .inl (a 0, 9, .inl o4)), (q_p1, .inr (7, [.int p1_clauses, .int p1_corners, .int p1_hearers, .int p1_firstColds, .ref q_p1_beers, .ref q_p1_firstPlaces, .ref q_p1_pinches, .ref q_p1_sayings])), (q_p1_beers, .inl (a 0, 8, .inl p1_beers)), (q_p1_firstPlaces, .inl (a 0, 9, .inl p1_firstPlaces)), (q_p1_pinches, .inl (a 0, 9, .inl p1_pinches)), (q_p1_sayings, .inl (a 0, 9, .inl p1_sayings))] H := hP
  have hD : va_D A [(q_t, .inr (7, [.int p1_clauses, .int p1_corners, .int p1_hearers, .int p1_firstColds, .ref q_beers, .ref q_firstPlaces, .ref q_pinches, .ref q_sayings])), (q_beers, .inl (a 0, 8, .inl o1)), (q_firstPlaces, .inl (a 0, 9, .inl o2)), (q_pinches, .inl (a 0, 9, .inl o3)), (q_sayings, .inl (a 0, 9, .inl o4)), (q_p1, .inr (7, [.int p1_clauses, .int p1_corners, .int p1_hearers, .int p1_firstColds, .ref q_p1_beers, .ref q_p1_firstPlaces, .ref q_p1_pinches, .ref q_p1_sayings])), (q_p1_beers, .inl (a 0, 8, .inl p1_beers)), (q_p1_firstPlaces, .inl (a 0, 9, .inl p1_firstPlaces)), (q_p1_pinches, .inl (a 0, 9, .inl p1_pinches)), (q_p1_sayings, .inl (a 0, 9, .inl p1_sayings))] := hD
  cases hf
  exact hret _ _ _ _ hP hD hS dX7_become_76
def f_X7_hasCorner (t_corners : Int32) (x1 : Int32) : Option (Int32) :=
  if x1 < 0 then (some (0 : Int32))
  else (if t_corners ≤ x1 then (some (0 : Int32))
  else (some (1 : Int32)))
theorem hdS_X7_hasCorner : yX7_hasCorner.cls ≠ "java/lang/invoke/MethodHandle" ∧ yX7_hasCorner.cls ≠ "java/lang/invoke/VarHandle" ∧ (parseMethodDescriptor yX7_hasCorner.desc).map (fun d => d.parameters.length) = some 1 := by decide +kernel
theorem hdV_X7_hasCorner : yX7_hasCorner.cls = RX7 ∧ yX7_hasCorner.cls ≠ "java/lang/invoke/MethodHandle" ∧ yX7_hasCorner.cls ≠ "java/lang/invoke/VarHandle" ∧ (parseMethodDescriptor yX7_hasCorner.desc).map (fun d => d.parameters.length) = some 1 := ⟨rfl, hdS_X7_hasCorner⟩
set_option maxHeartbeats 4000000 in
set_option maxRecDepth 100000 in
theorem c_X7_hasCorner (l : Launch) (D : va_G) (a : Nat → ClassId) (t : Nat) (q_t : Nat) (t_clauses : Int32) (t_corners : Int32) (t_hearers : Int32) (t_firstColds : Int32) (q_beers : Nat) (q_firstPlaces : Nat) (q_pinches : Nat) (q_sayings : Nat) (x1 : Int32) (r : Int32) (hf : f_X7_hasCorner t_corners x1 = some r) : Ki l yX7_hasCorner wsX7_hasCorner 0 0 D a t [.ref q_t, .int x1] [(q_t, .inr (7, [.int t_clauses, .int t_corners, .int t_hearers, .int t_firstColds, .ref q_beers, .ref q_firstPlaces, .ref q_pinches, .ref q_sayings]))] [(q_t, .inr (7, [.int t_clauses, .int t_corners, .int t_hearers, .int t_firstColds, .ref q_beers, .ref q_firstPlaces, .ref q_pinches, .ref q_sayings]))] r := by
  refine Ki.mk (cc := cX7_hasCorner) (nL := 2) (ty := .boolean) (own := RX7) (by decide) rfl rfl (Nat.le_of_ble_eq_true rfl) ?_
  intro p e s m args below meth c A Q ls hX hP hD hS hl hret
  have hx := hX.1.1
  have hb := hX.1.2.1
  have hown := hX.1.2.2.2.1
  have hts := hX.1.2.2.2.2
  have hN := hX.2.2.1
  have hA := hX.2.2.2.2
  have hl : lv_has ls 2 [(0, .ref q_t), (1, .int x1)] := hl
  have hk1 := hts (.fieldLink RX7 28 "GainsaidOnce$Town" "corners" "I") (List.mem_of_getElem? (i := 1) rfl)
  have hiX7 : ∀ w ∈ wsX70, w ∈ wsX7_hasCorner := (fun _ h => List.mem_cons_of_mem _ (List.mem_append_right _ h))
  unfold f_X7_hasCorner at hf
  refine lv_iload_n hx hb dX7_hasCorner_0 rfl (lv_at hl 1 rfl) ?_
  refine lv_if_lt (tgt := 16) hx hb dX7_hasCorner_1 (by decide) (fun c1 => ?_) (fun c1 => ?_)
  · have hf := o_ifp hf c1
    refine lv_iconst (v := (0 : Int32)) hx hb dX7_hasCorner_16 (by decide) ?_
    cases hf
    exact hret _ _ _ _ narrow_b0 hP hD hS dX7_hasCorner_17
  have hf := o_ifn hf c1
  refine lv_iload_n hx hb dX7_hasCorner_4 rfl (lv_at hl 1 rfl) ?_
  refine lv_aload_n hx hb dX7_hasCorner_5 rfl (lv_at hl 0 rfl) ?_
  refine g_get hX hiX7 hP 0 rfl rfl 1 (by decide) hk1 rfl rfl dX7_hasCorner_6 ?_
  refine lv_icmp_ge (tgt := 16) hx hb dX7_hasCorner_9 (by decide) (fun c2 => ?_) (fun c2 => ?_)
  · have hf := o_ifp hf c2
    refine lv_iconst (v := (0 : Int32)) hx hb dX7_hasCorner_16 (by decide) ?_
    cases hf
    exact hret _ _ _ _ narrow_b0 hP hD hS dX7_hasCorner_17
  have hf := o_ifn hf c2
  refine lv_iconst (v := (1 : Int32)) hx hb dX7_hasCorner_12 (by decide) ?_
  refine lv_goto (tgt := 17) hx hb dX7_hasCorner_13 (by decide) ?_
  cases hf
  exact hret _ _ _ _ narrow_b1 hP hD hS dX7_hasCorner_17
def f_X7_hasHearer (t_hearers : Int32) (x1 : Int32) : Option (Int32) :=
  if x1 < 0 then (some (0 : Int32))
  else (if t_hearers ≤ x1 then (some (0 : Int32))
  else (some (1 : Int32)))
theorem hdS_X7_hasHearer : yX7_hasHearer.cls ≠ "java/lang/invoke/MethodHandle" ∧ yX7_hasHearer.cls ≠ "java/lang/invoke/VarHandle" ∧ (parseMethodDescriptor yX7_hasHearer.desc).map (fun d => d.parameters.length) = some 1 := by decide +kernel
theorem hdV_X7_hasHearer : yX7_hasHearer.cls = RX7 ∧ yX7_hasHearer.cls ≠ "java/lang/invoke/MethodHandle" ∧ yX7_hasHearer.cls ≠ "java/lang/invoke/VarHandle" ∧ (parseMethodDescriptor yX7_hasHearer.desc).map (fun d => d.parameters.length) = some 1 := ⟨rfl, hdS_X7_hasHearer⟩
set_option maxHeartbeats 4000000 in
set_option maxRecDepth 100000 in
theorem c_X7_hasHearer (l : Launch) (D : va_G) (a : Nat → ClassId) (t : Nat) (q_t : Nat) (t_clauses : Int32) (t_corners : Int32) (t_hearers : Int32) (t_firstColds : Int32) (q_beers : Nat) (q_firstPlaces : Nat) (q_pinches : Nat) (q_sayings : Nat) (x1 : Int32) (r : Int32) (hf : f_X7_hasHearer t_hearers x1 = some r) : Ki l yX7_hasHearer wsX7_hasHearer 0 0 D a t [.ref q_t, .int x1] [(q_t, .inr (7, [.int t_clauses, .int t_corners, .int t_hearers, .int t_firstColds, .ref q_beers, .ref q_firstPlaces, .ref q_pinches, .ref q_sayings]))] [(q_t, .inr (7, [.int t_clauses, .int t_corners, .int t_hearers, .int t_firstColds, .ref q_beers, .ref q_firstPlaces, .ref q_pinches, .ref q_sayings]))] r := by
  refine Ki.mk (cc := cX7_hasHearer) (nL := 2) (ty := .boolean) (own := RX7) (by decide) rfl rfl (Nat.le_of_ble_eq_true rfl) ?_
  intro p e s m args below meth c A Q ls hX hP hD hS hl hret
  have hx := hX.1.1
  have hb := hX.1.2.1
  have hown := hX.1.2.2.2.1
  have hts := hX.1.2.2.2.2
  have hN := hX.2.2.1
  have hA := hX.2.2.2.2
  have hl : lv_has ls 2 [(0, .ref q_t), (1, .int x1)] := hl
  have hk1 := hts (.fieldLink RX7 31 "GainsaidOnce$Town" "hearers" "I") (List.mem_of_getElem? (i := 1) rfl)
  have hiX7 : ∀ w ∈ wsX70, w ∈ wsX7_hasHearer := (fun _ h => List.mem_cons_of_mem _ (List.mem_append_right _ h))
  unfold f_X7_hasHearer at hf
  refine lv_iload_n hx hb dX7_hasHearer_0 rfl (lv_at hl 1 rfl) ?_
  refine lv_if_lt (tgt := 16) hx hb dX7_hasHearer_1 (by decide) (fun c1 => ?_) (fun c1 => ?_)
  · have hf := o_ifp hf c1
    refine lv_iconst (v := (0 : Int32)) hx hb dX7_hasHearer_16 (by decide) ?_
    cases hf
    exact hret _ _ _ _ narrow_b0 hP hD hS dX7_hasHearer_17
  have hf := o_ifn hf c1
  refine lv_iload_n hx hb dX7_hasHearer_4 rfl (lv_at hl 1 rfl) ?_
  refine lv_aload_n hx hb dX7_hasHearer_5 rfl (lv_at hl 0 rfl) ?_
  refine g_get hX hiX7 hP 0 rfl rfl 2 (by decide) hk1 rfl rfl dX7_hasHearer_6 ?_
  refine lv_icmp_ge (tgt := 16) hx hb dX7_hasHearer_9 (by decide) (fun c2 => ?_) (fun c2 => ?_)
  · have hf := o_ifp hf c2
    refine lv_iconst (v := (0 : Int32)) hx hb dX7_hasHearer_16 (by decide) ?_
    cases hf
    exact hret _ _ _ _ narrow_b0 hP hD hS dX7_hasHearer_17
  have hf := o_ifn hf c2
  refine lv_iconst (v := (1 : Int32)) hx hb dX7_hasHearer_12 (by decide) ?_
  refine lv_goto (tgt := 17) hx hb dX7_hasHearer_13 (by decide) ?_
  cases hf
  exact hret _ _ _ _ narrow_b1 hP hD hS dX7_hasHearer_17
def f_X7_allows (t_clauses : Int32) (x1 : Int32) : Option (Int32) :=
  if (x1 &&& (t_clauses ^^^ (-1 : Int32))) = 0 then (some (1 : Int32))
  else (some (0 : Int32))
theorem hdS_X7_allows : yX7_allows.cls ≠ "java/lang/invoke/MethodHandle" ∧ yX7_allows.cls ≠ "java/lang/invoke/VarHandle" ∧ (parseMethodDescriptor yX7_allows.desc).map (fun d => d.parameters.length) = some 1 := by decide +kernel
theorem hdV_X7_allows : yX7_allows.cls = RX7 ∧ yX7_allows.cls ≠ "java/lang/invoke/MethodHandle" ∧ yX7_allows.cls ≠ "java/lang/invoke/VarHandle" ∧ (parseMethodDescriptor yX7_allows.desc).map (fun d => d.parameters.length) = some 1 := ⟨rfl, hdS_X7_allows⟩
set_option maxHeartbeats 4000000 in
set_option maxRecDepth 100000 in
theorem c_X7_allows (l : Launch) (D : va_G) (a : Nat → ClassId) (t : Nat) (q_t : Nat) (t_clauses : Int32) (t_corners : Int32) (t_hearers : Int32) (t_firstColds : Int32) (q_beers : Nat) (q_firstPlaces : Nat) (q_pinches : Nat) (q_sayings : Nat) (x1 : Int32) (r : Int32) (hf : f_X7_allows t_clauses x1 = some r) : Ki l yX7_allows wsX7_allows 0 0 D a t [.ref q_t, .int x1] [(q_t, .inr (7, [.int t_clauses, .int t_corners, .int t_hearers, .int t_firstColds, .ref q_beers, .ref q_firstPlaces, .ref q_pinches, .ref q_sayings]))] [(q_t, .inr (7, [.int t_clauses, .int t_corners, .int t_hearers, .int t_firstColds, .ref q_beers, .ref q_firstPlaces, .ref q_pinches, .ref q_sayings]))] r := by
  refine Ki.mk (cc := cX7_allows) (nL := 2) (ty := .boolean) (own := RX7) (by decide) rfl rfl (Nat.le_of_ble_eq_true rfl) ?_
  intro p e s m args below meth c A Q ls hX hP hD hS hl hret
  have hx := hX.1.1
  have hb := hX.1.2.1
  have hown := hX.1.2.2.2.1
  have hts := hX.1.2.2.2.2
  have hN := hX.2.2.1
  have hA := hX.2.2.2.2
  have hl : lv_has ls 2 [(0, .ref q_t), (1, .int x1)] := hl
  have hk1 := hts (.fieldLink RX7 24 "GainsaidOnce$Town" "clauses" "I") (List.mem_of_getElem? (i := 1) rfl)
  have hiX7 : ∀ w ∈ wsX70, w ∈ wsX7_allows := (fun _ h => List.mem_cons_of_mem _ (List.mem_append_right _ h))
  unfold f_X7_allows at hf
  refine lv_iload_n hx hb dX7_allows_0 rfl (lv_at hl 1 rfl) ?_
  refine lv_aload_n hx hb dX7_allows_1 rfl (lv_at hl 0 rfl) ?_
  refine g_get hX hiX7 hP 0 rfl rfl 0 (by decide) hk1 rfl rfl dX7_allows_2 ?_
  refine lv_iconst (v := (-1 : Int32)) hx hb dX7_allows_5 (by decide) ?_
  refine lv_ixor hx hb dX7_allows_6 ?_
  refine lv_iand hx hb dX7_allows_7 ?_
  refine lv_if_ne (tgt := 15) hx hb dX7_allows_8 (by decide) (fun c1 => ?_) (fun c1 => ?_)
  · have hf := o_ifn hf c1
    refine lv_iconst (v := (0 : Int32)) hx hb dX7_allows_15 (by decide) ?_
    cases hf
    exact hret _ _ _ _ narrow_b0 hP hD hS dX7_allows_16
  have hf := o_ifp hf c1
  refine lv_iconst (v := (1 : Int32)) hx hb dX7_allows_11 (by decide) ?_
  refine lv_goto (tgt := 16) hx hb dX7_allows_12 (by decide) ?_
  cases hf
  exact hret _ _ _ _ narrow_b1 hP hD hS dX7_allows_16
def f_X7_beerOf_4 (t_corners : Int32) (beers : Nat → Int32) : Nat → Int32 → Int32 → Int32 → Option (Int32)
  | 0, _, _, _ => none
  | n_4 + 1, x1, x2, x3 =>
    if t_corners ≤ x3 then (some x2)
    else ((f_X10_has x1 x3).bind fun o2 =>
    if o2 = 0 then (o_nm ((x2 + (0 : Int32))) fun v4 =>
    o_nm (x3 + (1 : Int32)) fun v5 =>
    f_X7_beerOf_4 t_corners beers n_4 x1 v4 v5)
    else ((f_X10_at 8 beers x3).bind fun o6 =>
    o_nm ((x2 + o6)) fun v7 =>
    o_nm (x3 + (1 : Int32)) fun v8 =>
    f_X7_beerOf_4 t_corners beers n_4 x1 v7 v8))
def f_X7_beerOf (t_corners : Int32) (beers : Nat → Int32) (x1 : Int32) : Option (Int32) :=
  f_X7_beerOf_4 t_corners beers 1000 x1 (0 : Int32) (0 : Int32)
theorem hdS_X7_beerOf : yX7_beerOf.cls ≠ "java/lang/invoke/MethodHandle" ∧ yX7_beerOf.cls ≠ "java/lang/invoke/VarHandle" ∧ (parseMethodDescriptor yX7_beerOf.desc).map (fun d => d.parameters.length) = some 1 := by decide +kernel
theorem hdV_X7_beerOf : yX7_beerOf.cls = RX7 ∧ yX7_beerOf.cls ≠ "java/lang/invoke/MethodHandle" ∧ yX7_beerOf.cls ≠ "java/lang/invoke/VarHandle" ∧ (parseMethodDescriptor yX7_beerOf.desc).map (fun d => d.parameters.length) = some 1 := ⟨rfl, hdS_X7_beerOf⟩
set_option maxHeartbeats 4000000 in
set_option maxRecDepth 100000 in
theorem c_X7_beerOf (l : Launch) (D : va_G) (a : Nat → ClassId) (t : Nat) (q_t : Nat) (t_clauses : Int32) (t_corners : Int32) (t_hearers : Int32) (t_firstColds : Int32) (q_beers : Nat) (q_firstPlaces : Nat) (q_pinches : Nat) (q_sayings : Nat) (beers : Nat → Int32) (x1 : Int32) (r : Int32) (hf : f_X7_beerOf t_corners beers x1 = some r) : Ki l yX7_beerOf wsX7_beerOf 1 21 D a t [.ref q_t, .int x1] [(q_t, .inr (7, [.int t_clauses, .int t_corners, .int t_hearers, .int t_firstColds, .ref q_beers, .ref q_firstPlaces, .ref q_pinches, .ref q_sayings])), (q_beers, .inl (a 0, 8, .inl beers))] [(q_t, .inr (7, [.int t_clauses, .int t_corners, .int t_hearers, .int t_firstColds, .ref q_beers, .ref q_firstPlaces, .ref q_pinches, .ref q_sayings])), (q_beers, .inl (a 0, 8, .inl beers))] r := by
  refine Ki.mk (cc := cX7_beerOf) (nL := 4) (ty := .int) (own := RX7) (by decide) rfl rfl (Nat.le_of_ble_eq_true rfl) ?_
  intro p e s m args below meth c A Q ls hX hP hD hS hl hret
  have hx := hX.1.1
  have hb := hX.1.2.1
  have hown := hX.1.2.2.2.1
  have hts := hX.1.2.2.2.2
  have hN := hX.2.2.1
  have hA := hX.2.2.2.2
  have hl : lv_has ls 4 [(0, .ref q_t), (1, .int x1)] := hl
  have hk1 := hts (.fieldLink RX7 28 "GainsaidOnce$Town" "corners" "I") (List.mem_of_getElem? (i := 1) rfl)
  have hk2 := hts (.fieldLink RX7 9 "GainsaidOnce$Town" "beers" "[I") (List.mem_of_getElem? (i := 2) rfl)
  have hk3 := hts (.static yX10_has) (List.mem_of_getElem? (i := 3) rfl)
  have hk4 := hts (.initialized RX10) (List.mem_of_getElem? (i := 4) rfl)
  have hk6 := hts (.static yX10_at) (List.mem_of_getElem? (i := 6) rfl)
  have hiX7 : ∀ w ∈ wsX70, w ∈ wsX7_beerOf := (fun _ h => List.mem_cons_of_mem _ (List.mem_append_right _ h))
  have L_4 : ∀ (n_4 : Nat) (x1 : Int32) (x2 : Int32) (x3 : Int32) (H : Heap) (locs : List Loc) (ls : Array Slot), f_X7_beerOf_4 t_corners beers n_4 x1 x2 x3 = some r → va_P D vwCl [(q_t, .inr (7, [.int t_clauses, .int t_corners, .int t_hearers, .int t_firstColds, .ref q_beers, .ref q_firstPlaces, .ref q_pinches, .ref q_sayings])), (q_beers, .inl (a 0, 8, .inl beers))] H → va_D A [(q_t, .inr (7, [.int t_clauses, .int t_corners, .int t_hearers, .int t_firstColds, .ref q_beers, .ref q_firstPlaces, .ref q_pinches, .ref q_sayings])), (q_beers, .inl (a 0, 8, .inl beers))] → va_S A s.heap H locs → lv_has ls 4 [(0, .ref q_t), (1, .int x1), (2, .int x2), (3, .int x3)] → W p l e { frames := 1, cells := 0, slots := 0, locals := 21 } s m args below meth c H locs 0 0 Q (F0 m 4 ls []) := by
    intro n_4
    induction n_4 with
    | zero => intro x1 x2 x3 H locs ls hf hP hD hS hl; rw [f_X7_beerOf_4] at hf; cases hf
    | succ n_4 ih_4 =>
      intro x1 x2 x3 H locs ls hf hP hD hS hl
      rw [f_X7_beerOf_4] at hf
      refine lv_iload_n hx hb dX7_beerOf_4 rfl (lv_at hl 3 rfl) ?_
      refine lv_aload_n hx hb dX7_beerOf_5 rfl (lv_at hl 0 rfl) ?_
      refine g_get hX hiX7 hP 0 rfl rfl 1 (by decide) hk1 rfl rfl dX7_beerOf_6 ?_
      refine lv_icmp_ge (tgt := 41) hx hb dX7_beerOf_9 (by decide) (fun c1 => ?_) (fun c1 => ?_)
      · have hf := o_ifp hf c1
        refine lv_iload_n hx hb dX7_beerOf_41 rfl (lv_at hl 2 rfl) ?_
        cases hf
        exact hret _ _ _ _ (vp_nar_int _) hP hD hS dX7_beerOf_42
      have hf := o_ifn hf c1
      refine lv_iload_n hx hb dX7_beerOf_12 rfl (lv_at hl 2 rfl) ?_
      refine lv_iload_n hx hb dX7_beerOf_13 rfl (lv_at hl 1 rfl) ?_
      refine lv_iload_n hx hb dX7_beerOf_14 rfl (lv_at hl 3 rfl) ?_
      obtain ⟨o2, ho2, hf⟩ := o_bd hf
      refine call_iSN hX (c_X10_has l D a t x1 x3 o2 ho2) (va_cnB 2 hts gX7_beerOf_X10_has_n49 rfl rfl rfl (nw_74 hN) hk4 hdS_X10_has ⟨by decide, by decide⟩) hk3 (Cut.none hA hP hD hS) hS rfl hl.1 rfl (Nat.le_of_ble_eq_true rfl) dX7_beerOf_15 (by decide) (fun H locs hP hD hS => ?_)
      refine lv_if_eq (tgt := 32) hx hb dX7_beerOf_18 (by decide) (fun c3 => ?_) (fun c3 => ?_)
      · have hf := o_ifp hf c3
        refine lv_iconst (v := (0 : Int32)) hx hb dX7_beerOf_32 (by decide) ?_
        refine lv_iadd hx hb dX7_beerOf_33 ?_
        refine lv_topi (fun v4 ev4 => ?_)
        have hf := o_nmh hf v4 ev4
        refine lv_istore_n (lv' := [(2, .int v4), (0, .ref q_t), (1, .int x1), (3, .int x3)]) hx hb dX7_beerOf_34 rfl hl (by decide) rfl (fun ls hl => ?_)
        obtain ⟨v5, ev5⟩ : ∃ y : Int32, y = x3 + (1 : Int32) := ⟨_, rfl⟩
        have hf := o_nmh hf v5 ev5
        refine lv_iinc (v := v5) (lv' := [(3, .int v5), (2, .int v4), (0, .ref q_t), (1, .int x1)]) hx hb dX7_beerOf_35 hl (k := 3) rfl (by rw [ev5]; rfl) (by decide) rfl (fun ls hl => ?_)
        refine lv_goto (tgt := 4) hx hb dX7_beerOf_38 (by decide) ?_
        exact ih_4 x1 v4 v5 _ _ _ hf hP hD hS (lv_sub hl [2, 3, 1, 0] rfl)
      have hf := o_ifn hf c3
      refine lv_aload_n hx hb dX7_beerOf_21 rfl (lv_at hl 0 rfl) ?_
      refine g_get hX hiX7 hP 0 rfl rfl 4 (by decide) hk2 rfl rfl dX7_beerOf_22 ?_
      refine lv_iload_n hx hb dX7_beerOf_25 rfl (lv_at hl 3 rfl) ?_
      obtain ⟨o6, ho6, hf⟩ := o_bd hf
      refine call_iSN hX (c_X10_at l D a t q_beers beers 8 x3 o6 ho6) (va_cnB 2 hts gX7_beerOf_X10_at_n53 rfl rfl rfl (nw_75 hN) hk4 hdS_X10_at ⟨by decide, by decide⟩) hk6 (Cut.of hA hP hD hS [1] (by decide) rfl rfl (W' := [(q_t, .inr (7, [.int t_clauses, .int t_corners, .int t_hearers, .int t_firstColds, .ref q_beers, .ref q_firstPlaces, .ref q_pinches, .ref q_sayings])), (q_beers, .inl (a 0, 8, .inl beers))]) rfl) hS rfl hl.1 rfl (Nat.le_of_ble_eq_true rfl) dX7_beerOf_26 (by decide) (fun H locs hP hD hS => ?_)
      have hP : va_P D vwCl [(q_t, .inr (7, [.int t_clauses, .int t_corners, .int t_hearers, .int t_firstColds, .ref q_beers, .ref q_firstPlaces, .ref q_pinches, .ref q_sayings])), (q_beers, .inl (a 0, 8, .inl beers))] H := hP
      have hD : va_D A [(q_t, .inr (7, [.int t_clauses, .int t_corners, .int t_hearers, .int t_firstColds, .ref q_beers, .ref q_firstPlaces, .ref q_pinches, .ref q_sayings])), (q_beers, .inl (a 0, 8, .inl beers))] := hD
      refine lv_goto (tgt := 33) hx hb dX7_beerOf_29 (by decide) ?_
      refine lv_iadd hx hb dX7_beerOf_33 ?_
      refine lv_topi (fun v7 ev7 => ?_)
      have hf := o_nmh hf v7 ev7
      refine lv_istore_n (lv' := [(2, .int v7), (0, .ref q_t), (1, .int x1), (3, .int x3)]) hx hb dX7_beerOf_34 rfl hl (by decide) rfl (fun ls hl => ?_)
      obtain ⟨v8, ev8⟩ : ∃ y : Int32, y = x3 + (1 : Int32) := ⟨_, rfl⟩
      have hf := o_nmh hf v8 ev8
      refine lv_iinc (v := v8) (lv' := [(3, .int v8), (2, .int v7), (0, .ref q_t), (1, .int x1)]) hx hb dX7_beerOf_35 hl (k := 3) rfl (by rw [ev8]; rfl) (by decide) rfl (fun ls hl => ?_)
      refine lv_goto (tgt := 4) hx hb dX7_beerOf_38 (by decide) ?_
      exact ih_4 x1 v7 v8 _ _ _ hf hP hD hS (lv_sub hl [2, 3, 1, 0] rfl)
  unfold f_X7_beerOf at hf
  refine lv_iconst (v := (0 : Int32)) hx hb dX7_beerOf_0 (by decide) ?_
  refine lv_istore_n (lv' := [(2, .int (0 : Int32)), (0, .ref q_t), (1, .int x1)]) hx hb dX7_beerOf_1 rfl hl (by decide) rfl (fun ls hl => ?_)
  refine lv_iconst (v := (0 : Int32)) hx hb dX7_beerOf_2 (by decide) ?_
  refine lv_istore_n (lv' := [(3, .int (0 : Int32)), (2, .int (0 : Int32)), (0, .ref q_t), (1, .int x1)]) hx hb dX7_beerOf_3 rfl hl (by decide) rfl (fun ls hl => ?_)
  exact L_4 1000 x1 (0 : Int32) (0 : Int32) _ _ _ hf hP hD hS (lv_sub hl [2, 3, 1, 0] rfl)
