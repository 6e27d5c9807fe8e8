def f_X4_letterHere (t_here : Int32) (letters_count : Int32) (letters_items : Nat → Int32) : Option (Int32) :=
  (f_X5_get 230 letters_count letters_items t_here).bind fun o1 =>
  some o1
theorem hdS_X4_letterHere : yX4_letterHere.cls ≠ "java/lang/invoke/MethodHandle" ∧ yX4_letterHere.cls ≠ "java/lang/invoke/VarHandle" ∧ (parseMethodDescriptor yX4_letterHere.desc).map (fun d => d.parameters.length) = some 0 := by decide +kernel
theorem hdV_X4_letterHere : yX4_letterHere.cls = RX4 ∧ yX4_letterHere.cls ≠ "java/lang/invoke/MethodHandle" ∧ yX4_letterHere.cls ≠ "java/lang/invoke/VarHandle" ∧ (parseMethodDescriptor yX4_letterHere.desc).map (fun d => d.parameters.length) = some 0 := ⟨rfl, hdS_X4_letterHere⟩
set_option maxHeartbeats 4000000 in
set_option maxRecDepth 100000 in
theorem c_X4_letterHere (l : Launch) (D : va_G) (a : Nat → ClassId) (t : Nat) (q_t : Nat) (q_letters : Nat) (t_here : Int32) (t_faultNumber : Int32) (t_faultAt : Int32) (q_letters_items : Nat) (letters_count : Int32) (letters_items : Nat → Int32) (r : Int32) (hf : f_X4_letterHere t_here letters_count letters_items = some r) : Ki l yX4_letterHere wsX4_letterHere 1 21 D a t [.ref q_t] [(q_t, .inr (4, [.ref q_letters, .int t_here, .int t_faultNumber, .int t_faultAt])), (q_letters, .inr (5, [.ref q_letters_items, .int letters_count])), (q_letters_items, .inl (a 0, 230, .inl letters_items))] [(q_t, .inr (4, [.ref q_letters, .int t_here, .int t_faultNumber, .int t_faultAt])), (q_letters, .inr (5, [.ref q_letters_items, .int letters_count])), (q_letters_items, .inl (a 0, 230, .inl letters_items))] r := by
  refine Ki.mk (cc := cX4_letterHere) (nL := 1) (ty := .int) (own := RX4) (by decide) rfl rfl (Nat.le_of_ble_eq_true rfl) ?_
  intro p e s m args below meth c A Q ls hX hP hD hS hl hret
  have hx := hX.1.1
  have hb := hX.1.2.1
  have hown := hX.1.2.2.2.1
  have hts := hX.1.2.2.2.2
  have hN := hX.2.2.1
  have hA := hX.2.2.2.2
  have hl : lv_has ls 1 [(0, .ref q_t)] := hl
  have hk1 := hts (.fieldLink RX4 14 "GainsaidOnce$Reader" "letters" "LGainsaidOnce$Row;") (List.mem_of_getElem? (i := 1) rfl)
  have hk2 := hts (.fieldLink RX4 24 "GainsaidOnce$Reader" "here" "I") (List.mem_of_getElem? (i := 2) rfl)
  have hiX4 : ∀ w ∈ wsX40, w ∈ wsX4_letterHere := (fun _ h => List.mem_cons_of_mem _ (List.mem_append_left _ (List.mem_append_right _ h)))
  unfold f_X4_letterHere at hf
  refine lv_aload_n hx hb dX4_letterHere_0 rfl (lv_at hl 0 rfl) ?_
  refine g_get hX hiX4 hP 0 rfl rfl 0 (by decide) hk1 rfl rfl dX4_letterHere_1 ?_
  refine lv_aload_n hx hb dX4_letterHere_4 rfl (lv_at hl 0 rfl) ?_
  refine g_get hX hiX4 hP 0 rfl rfl 1 (by decide) hk2 rfl rfl dX4_letterHere_5 ?_
  obtain ⟨o1, ho1, hf⟩ := o_bd hf
  refine call_iV (q0 := 0) (ci := 5) hX (c_X5_get l D a t q_letters q_letters_items letters_count letters_items 230 t_here o1 ho1) (cwV 1 hts gX4_letterHere_X5_get rfl rfl rfl hdV_X5_get ⟨by decide, by decide⟩) (Cut.of hA hP hD hS [1, 2] (by decide) rfl rfl (W' := [(q_t, .inr (4, [.ref q_letters, .int t_here, .int t_faultNumber, .int t_faultAt])), (q_letters, .inr (5, [.ref q_letters_items, .int letters_count])), (q_letters_items, .inl (a 0, 230, .inl letters_items))]) rfl) hS rfl rfl rfl hl.1 rfl (Nat.le_of_ble_eq_true rfl) dX4_letterHere_8 (by decide) (fun H locs hP hD hS => ?_)
  have hP : va_P D vwCl [(q_t, .inr (4, [.ref q_letters, .int t_here, .int t_faultNumber, .int t_faultAt])), (q_letters, .inr (5, [.ref q_letters_items, .int letters_count])), (q_letters_items, .inl (a 0, 230, .inl letters_items))] H := hP
  have hD : va_D A [(q_t, .inr (4, [.ref q_letters, .int t_here, .int t_faultNumber, .int t_faultAt])), (q_letters, .inr (5, [.ref q_letters_items, .int letters_count])), (q_letters_items, .inl (a 0, 230, .inl letters_items))] := hD
  cases hf
  exact hret _ _ _ _ (vp_nar_int _) hP hD hS dX4_letterHere_11
def f_X4_skipBlanks_2 (letters_count : Int32) (letters_items : Nat → Int32) : Nat → Int32 → Int32 → Option (Int32)
  | 0, _, _ => none
  | n_2 + 1, t_here, x1 =>
    if (230 : Int32) ≤ x1 then (some t_here)
    else ((f_X4_letterHere t_here letters_count letters_items).bind fun o2 =>
    if o2 = (32 : Int32) then (o_nm ((t_here + (1 : Int32))) fun v4 =>
    o_nm (x1 + (1 : Int32)) fun v5 =>
    f_X4_skipBlanks_2 letters_count letters_items n_2 v4 v5)
    else (some t_here))
def f_X4_skipBlanks (t_here : Int32) (letters_count : Int32) (letters_items : Nat → Int32) : Option (Int32) :=
  f_X4_skipBlanks_2 letters_count letters_items 1000 t_here (0 : Int32)
theorem hdS_X4_skipBlanks : yX4_skipBlanks.cls ≠ "java/lang/invoke/MethodHandle" ∧ yX4_skipBlanks.cls ≠ "java/lang/invoke/VarHandle" ∧ (parseMethodDescriptor yX4_skipBlanks.desc).map (fun d => d.parameters.length) = some 0 := by decide +kernel
theorem hdV_X4_skipBlanks : yX4_skipBlanks.cls = RX4 ∧ yX4_skipBlanks.cls ≠ "java/lang/invoke/MethodHandle" ∧ yX4_skipBlanks.cls ≠ "java/lang/invoke/VarHandle" ∧ (parseMethodDescriptor yX4_skipBlanks.desc).map (fun d => d.parameters.length) = some 0 := ⟨rfl, hdS_X4_skipBlanks⟩
set_option maxHeartbeats 4000000 in
set_option maxRecDepth 100000 in
theorem c_X4_skipBlanks (l : Launch) (D : va_G) (a : Nat → ClassId) (t : Nat) (q_t : Nat) (q_letters : Nat) (t_here : Int32) (t_faultNumber : Int32) (t_faultAt : Int32) (q_letters_items : Nat) (letters_count : Int32) (letters_items : Nat → Int32) (o_t_here : Int32) (hf : f_X4_skipBlanks t_here letters_count letters_items = some o_t_here) : Kv l yX4_skipBlanks wsX4_skipBlanks 2 41 D a t [.ref q_t] [(q_t, .inr (4, [.ref q_letters, .int t_here, .int t_faultNumber, .int t_faultAt])), (q_letters, .inr (5, [.ref q_letters_items, .int letters_count])), (q_letters_items, .inl (a 0, 230, .inl letters_items))] [(q_t, .inr (4, [.ref q_letters, .int o_t_here, .int t_faultNumber, .int t_faultAt])), (q_letters, .inr (5, [.ref q_letters_items, .int letters_count])), (q_letters_items, .inl (a 0, 230, .inl letters_items))] := by
  refine Kv.mk (cc := cX4_skipBlanks) (nL := 2) (own := RX4) (by decide) rfl rfl (Nat.le_of_ble_eq_true rfl) ?_
  intro p e s m args below meth c A Q ls hX hP hD hS hl hret
  have hx := hX.1.1
  have hb := hX.1.2.1
  have hown := hX.1.2.2.2.1
  have hts := hX.1.2.2.2.2
  have hN := hX.2.2.1
  have hA := hX.2.2.2.2
  have hl : lv_has ls 2 [(0, .ref q_t)] := hl
  have hk1 := hts (.fieldLink RX4 24 "GainsaidOnce$Reader" "here" "I") (List.mem_of_getElem? (i := 1) rfl)
  have hiX4 : ∀ w ∈ wsX40, w ∈ wsX4_skipBlanks := (fun _ h => List.mem_cons_of_mem _ (List.mem_append_left _ (List.mem_append_right _ h)))
  have L_2 : ∀ (n_2 : Nat) (t_here : Int32) (x1 : Int32) (H : Heap) (locs : List Loc) (ls : Array Slot), f_X4_skipBlanks_2 letters_count letters_items n_2 t_here x1 = some o_t_here → va_P D vwCl [(q_t, .inr (4, [.ref q_letters, .int t_here, .int t_faultNumber, .int t_faultAt])), (q_letters, .inr (5, [.ref q_letters_items, .int letters_count])), (q_letters_items, .inl (a 0, 230, .inl letters_items))] H → va_D A [(q_t, .inr (4, [.ref q_letters, .int t_here, .int t_faultNumber, .int t_faultAt])), (q_letters, .inr (5, [.ref q_letters_items, .int letters_count])), (q_letters_items, .inl (a 0, 230, .inl letters_items))] → va_S A s.heap H locs → lv_has ls 2 [(0, .ref q_t), (1, .int x1)] → W p l e { frames := 2, cells := 0, slots := 0, locals := 41 } s m args below meth c H locs 0 0 Q (F0 m 2 ls []) := by
    intro n_2
    induction n_2 with
    | zero => intro t_here x1 H locs ls hf hP hD hS hl; rw [f_X4_skipBlanks_2] at hf; cases hf
    | succ n_2 ih_2 =>
      intro t_here x1 H locs ls hf hP hD hS hl
      rw [f_X4_skipBlanks_2] at hf
      refine lv_iload_n hx hb dX4_skipBlanks_2 rfl (lv_at hl 1 rfl) ?_
      refine lv_sipush (v := (230 : Int32)) hx hb dX4_skipBlanks_3 (by decide) ?_
      refine lv_icmp_ge (tgt := 34) hx hb dX4_skipBlanks_6 (by decide) (fun c1 => ?_) (fun c1 => ?_)
      · have hf := o_ifp hf c1
        cases hf
        exact hret _ _ _ _ hP hD hS dX4_skipBlanks_34
      have hf := o_ifn hf c1
      refine lv_aload_n hx hb dX4_skipBlanks_9 rfl (lv_at hl 0 rfl) ?_
      obtain ⟨o2, ho2, hf⟩ := o_bd hf
      refine call_iV (q0 := 0) (ci := 4) hX (c_X4_letterHere l D a t q_t q_letters t_here t_faultNumber t_faultAt q_letters_items letters_count letters_items o2 ho2) (cwV 0 hts gX4_skipBlanks_X4_letterHere rfl rfl rfl hdV_X4_letterHere ⟨by decide, by decide⟩) (Cut.of hA hP hD hS [0, 1, 2] (by decide) rfl rfl (W' := [(q_t, .inr (4, [.ref q_letters, .int t_here, .int t_faultNumber, .int t_faultAt])), (q_letters, .inr (5, [.ref q_letters_items, .int letters_count])), (q_letters_items, .inl (a 0, 230, .inl letters_items))]) rfl) hS rfl rfl rfl hl.1 rfl (Nat.le_of_ble_eq_true rfl) dX4_skipBlanks_10 (by decide) (fun H locs hP hD hS => ?_)
      have hP : va_P D vwCl [(q_t, .inr (4, [.ref q_letters, .int t_here, .int t_faultNumber, .int t_faultAt])), (q_letters, .inr (5, [.ref q_letters_items, .int letters_count])), (q_letters_items, .inl (a 0, 230, .inl letters_items))] H := hP
      have hD : va_D A [(q_t, .inr (4, [.ref q_letters, .int t_here, .int t_faultNumber, .int t_faultAt])), (q_letters, .inr (5, [.ref q_letters_items, .int letters_count])), (q_letters_items, .inl (a 0, 230, .inl letters_items))] := hD
      refine lv_bipush (v := (32 : Int32)) hx hb dX4_skipBlanks_13 (by decide) ?_
      refine lv_icmp_ne (tgt := 34) hx hb dX4_skipBlanks_15 (by decide) (fun c3 => ?_) (fun c3 => ?_)
      · have hf := o_ifn hf c3
        cases hf
        exact hret _ _ _ _ hP hD hS dX4_skipBlanks_34
      have hf := o_ifp hf c3
      refine lv_aload_n hx hb dX4_skipBlanks_18 rfl (lv_at hl 0 rfl) ?_
      refine lv_dup hx hb dX4_skipBlanks_19 rfl ?_
      refine g_get hX hiX4 hP 0 rfl rfl 1 (by decide) hk1 rfl rfl dX4_skipBlanks_20 ?_
      refine lv_iconst (v := (1 : Int32)) hx hb dX4_skipBlanks_23 (by decide) ?_
      refine lv_iadd hx hb dX4_skipBlanks_24 ?_
      refine lv_topi (fun v4 ev4 => ?_)
      have hf := o_nmh hf v4 ev4
      refine g_put hX hiX4 tyX4 tyX4_ok nmX4 hP hD hS 0 rfl rfl 1 (by decide) hk1 rfl rfl rfl rfl (Nat.le_of_ble_eq_true rfl) dX4_skipBlanks_25 (fun H locs hP hD hS => ?_)
      have hP : va_P D vwCl [(q_t, .inr (4, [.ref q_letters, .int v4, .int t_faultNumber, .int t_faultAt])), (q_letters, .inr (5, [.ref q_letters_items, .int letters_count])), (q_letters_items, .inl (a 0, 230, .inl letters_items))] H := hP
      have hD : va_D A [(q_t, .inr (4, [.ref q_letters, .int v4, .int t_faultNumber, .int t_faultAt])), (q_letters, .inr (5, [.ref q_letters_items, .int letters_count])), (q_letters_items, .inl (a 0, 230, .inl letters_items))] := hD
      obtain ⟨v5, ev5⟩ : ∃ y : Int32, y = x1 + (1 : Int32) := ⟨_, rfl⟩
      have hf := o_nmh hf v5 ev5
      refine lv_iinc (v := v5) (lv' := [(1, .int v5), (0, .ref q_t)]) hx hb dX4_skipBlanks_28 hl (k := 1) rfl (by rw [ev5]; rfl) (by decide) rfl (fun ls hl => ?_)
      refine lv_goto (tgt := 2) hx hb dX4_skipBlanks_31 (by decide) ?_
      exact ih_2 v4 v5 _ _ _ hf hP hD hS (lv_sub hl [1, 0] rfl)
  unfold f_X4_skipBlanks at hf
  refine lv_iconst (v := (0 : Int32)) hx hb dX4_skipBlanks_0 (by decide) ?_
  refine lv_istore_n (lv' := [(1, .int (0 : Int32)), (0, .ref q_t)]) hx hb dX4_skipBlanks_1 rfl hl (by decide) rfl (fun ls hl => ?_)
  exact L_2 1000 t_here (0 : Int32) _ _ _ hf hP hD hS (lv_sub hl [1, 0] rfl)
def f_X4_wordFault (p0_clauses : Int32) (p0_corners : Int32) (p0_hearers : Int32) (x1 : Int32) : Option (Int32) :=
  (f_X7_stands p0_clauses).bind fun o1 =>
  if o1 = 0 then (if x1 = (116 : Int32) then (some (0 : Int32))
  else (some (1 : Int32)))
  else (if x1 = (99 : Int32) then (if (8 : Int32) ≤ p0_corners then (some (3 : Int32))
  else (some (0 : Int32)))
  else (if x1 = (104 : Int32) then (if (9 : Int32) ≤ p0_hearers then (some (3 : Int32))
  else (some (0 : Int32)))
  else (if x1 = (116 : Int32) then (some (3 : Int32))
  else (some (1 : Int32)))))
theorem hdS_X4_wordFault : yX4_wordFault.cls ≠ "java/lang/invoke/MethodHandle" ∧ yX4_wordFault.cls ≠ "java/lang/invoke/VarHandle" ∧ (parseMethodDescriptor yX4_wordFault.desc).map (fun d => d.parameters.length) = some 2 := by decide +kernel
theorem hdV_X4_wordFault : yX4_wordFault.cls = RX4 ∧ yX4_wordFault.cls ≠ "java/lang/invoke/MethodHandle" ∧ yX4_wordFault.cls ≠ "java/lang/invoke/VarHandle" ∧ (parseMethodDescriptor yX4_wordFault.desc).map (fun d => d.parameters.length) = some 2 := ⟨rfl, hdS_X4_wordFault⟩
set_option maxHeartbeats 4000000 in
set_option maxRecDepth 100000 in
theorem c_X4_wordFault (l : Launch) (D : va_G) (a : Nat → ClassId) (t : Nat) (q_p0 : Nat) (p0_clauses : Int32) (p0_corners : Int32) (p0_hearers : Int32) (p0_firstColds : Int32) (q_p0_beers : Nat) (q_p0_firstPlaces : Nat) (q_p0_pinches : Nat) (q_p0_sayings : Nat) (x1 : Int32) (r : Int32) (hf : f_X4_wordFault p0_clauses p0_corners p0_hearers x1 = some r) : Ki l yX4_wordFault wsX4_wordFault 1 20 D a t [.ref q_p0, .int x1] [(q_p0, .inr (7, [.int p0_clauses, .int p0_corners, .int p0_hearers, .int p0_firstColds, .ref q_p0_beers, .ref q_p0_firstPlaces, .ref q_p0_pinches, .ref q_p0_sayings]))] [(q_p0, .inr (7, [.int p0_clauses, .int p0_corners, .int p0_hearers, .int p0_firstColds, .ref q_p0_beers, .ref q_p0_firstPlaces, .ref q_p0_pinches, .ref q_p0_sayings]))] r := by
  refine Ki.mk (cc := cX4_wordFault) (nL := 2) (ty := .int) (own := RX4) (by decide) rfl rfl (Nat.le_of_ble_eq_true rfl) ?_
  intro p e s m args below meth c A Q ls hX hP hD hS hl hret
  have hx := hX.1.1
  have hb := hX.1.2.1
  have hown := hX.1.2.2.2.1
  have hts := hX.1.2.2.2.2
  have hN := hX.2.2.1
  have hA := hX.2.2.2.2
  have hl : lv_has ls 2 [(0, .ref q_p0), (1, .int x1)] := hl
  have hiX7 : ∀ w ∈ wsX70, w ∈ wsX4_wordFault := (fun _ h => List.mem_cons_of_mem _ (List.mem_append_right _ h))
  unfold f_X4_wordFault at hf
  refine lv_aload_n hx hb dX4_wordFault_0 rfl (lv_at hl 0 rfl) ?_
  obtain ⟨o1, ho1, hf⟩ := o_bd hf
  refine call_iV (q0 := 0) (ci := 7) hX (c_X7_stands l D a t q_p0 p0_clauses p0_corners p0_hearers p0_firstColds q_p0_beers q_p0_firstPlaces q_p0_pinches q_p0_sayings o1 ho1) (cwV 0 hts gX4_wordFault_X7_stands rfl rfl rfl hdV_X7_stands ⟨by decide, by decide⟩) (Cut.of hA hP hD hS [0] (by decide) rfl rfl (W' := [(q_p0, .inr (7, [.int p0_clauses, .int p0_corners, .int p0_hearers, .int p0_firstColds, .ref q_p0_beers, .ref q_p0_firstPlaces, .ref q_p0_pinches, .ref q_p0_sayings]))]) rfl) hS rfl rfl rfl hl.1 rfl (Nat.le_of_ble_eq_true rfl) dX4_wordFault_1 (by decide) (fun H locs hP hD hS => ?_)
  have hP : va_P D vwCl [(q_p0, .inr (7, [.int p0_clauses, .int p0_corners, .int p0_hearers, .int p0_firstColds, .ref q_p0_beers, .ref q_p0_firstPlaces, .ref q_p0_pinches, .ref q_p0_sayings]))] H := hP
  have hD : va_D A [(q_p0, .inr (7, [.int p0_clauses, .int p0_corners, .int p0_hearers, .int p0_firstColds, .ref q_p0_beers, .ref q_p0_firstPlaces, .ref q_p0_pinches, .ref q_p0_sayings]))] := hD
  refine lv_if_ne (tgt := 19) hx hb dX4_wordFault_4 (by decide) (fun c2 => ?_) (fun c2 => ?_)
  · have hf := o_ifn hf c2
    refine lv_iload_n hx hb dX4_wordFault_19 rfl (lv_at hl 1 rfl) ?_
    by_cases c3 : x1 = (99 : Int32)
    · refine lv_lookup (off := 38) (tgt := 58) hx hb dX4_wordFault_20 (by decide) (by rw [c3]; rfl) (by decide) ?_
      have hf := o_ifp hf c3
      refine lv_aload_n hx hb dX4_wordFault_58 rfl (lv_at hl 0 rfl) ?_
      refine g_getN hX hiX7 hP 0 rfl rfl 1 (by decide) (nw_12 hN) rfl rfl dX4_wordFault_59 ?_
      refine lv_bipush (v := (8 : Int32)) hx hb dX4_wordFault_62 (by decide) ?_
      refine lv_icmp_ge (tgt := 71) hx hb dX4_wordFault_64 (by decide) (fun c4 => ?_) (fun c4 => ?_)
      · have hf := o_ifp hf c4
        refine lv_iconst (v := (3 : Int32)) hx hb dX4_wordFault_71 (by decide) ?_
        cases hf
        exact hret _ _ _ _ (vp_nar_int _) hP hD hS dX4_wordFault_72
      have hf := o_ifn hf c4
      refine lv_iconst (v := (0 : Int32)) hx hb dX4_wordFault_67 (by decide) ?_
      refine lv_goto (tgt := 72) hx hb dX4_wordFault_68 (by decide) ?_
      cases hf
      exact hret _ _ _ _ (vp_nar_int _) hP hD hS dX4_wordFault_72
    have hf := o_ifn hf c3
    by_cases c5 : x1 = (104 : Int32)
    · refine lv_lookup (off := 53) (tgt := 73) hx hb dX4_wordFault_20 (by decide) (by rw [c5]; rfl) (by decide) ?_
      have hf := o_ifp hf c5
      refine lv_aload_n hx hb dX4_wordFault_73 rfl (lv_at hl 0 rfl) ?_
      refine g_getN hX hiX7 hP 0 rfl rfl 2 (by decide) (nw_14 hN) rfl rfl dX4_wordFault_74 ?_
      refine lv_bipush (v := (9 : Int32)) hx hb dX4_wordFault_77 (by decide) ?_
      refine lv_icmp_ge (tgt := 86) hx hb dX4_wordFault_79 (by decide) (fun c6 => ?_) (fun c6 => ?_)
      · have hf := o_ifp hf c6
        refine lv_iconst (v := (3 : Int32)) hx hb dX4_wordFault_86 (by decide) ?_
        cases hf
        exact hret _ _ _ _ (vp_nar_int _) hP hD hS dX4_wordFault_87
      have hf := o_ifn hf c6
      refine lv_iconst (v := (0 : Int32)) hx hb dX4_wordFault_82 (by decide) ?_
      refine lv_goto (tgt := 87) hx hb dX4_wordFault_83 (by decide) ?_
      cases hf
      exact hret _ _ _ _ (vp_nar_int _) hP hD hS dX4_wordFault_87
    have hf := o_ifn hf c5
    by_cases c7 : x1 = (116 : Int32)
    · refine lv_lookup (off := 36) (tgt := 56) hx hb dX4_wordFault_20 (by decide) (by rw [c7]; rfl) (by decide) ?_
      have hf := o_ifp hf c7
      refine lv_iconst (v := (3 : Int32)) hx hb dX4_wordFault_56 (by decide) ?_
      cases hf
      exact hret _ _ _ _ (vp_nar_int _) hP hD hS dX4_wordFault_57
    have hf := o_ifn hf c7
    refine lv_lookup (off := 68) (tgt := 88) hx hb dX4_wordFault_20 (by decide) (by show Op.lookupswitch.offset [(99, 38), (104, 53), (116, 36)] 68 (x1).toInt = 68; rw [lv_osw (a := 99) c3 (by decide), lv_osw (a := 104) c5 (by decide), lv_osw (a := 116) c7 (by decide)]; rfl) (by decide) ?_
    refine lv_iconst (v := (1 : Int32)) hx hb dX4_wordFault_88 (by decide) ?_
    cases hf
    exact hret _ _ _ _ (vp_nar_int _) hP hD hS dX4_wordFault_89
  have hf := o_ifp hf c2
  refine lv_iload_n hx hb dX4_wordFault_7 rfl (lv_at hl 1 rfl) ?_
  refine lv_bipush (v := (116 : Int32)) hx hb dX4_wordFault_8 (by decide) ?_
  refine lv_icmp_ne (tgt := 17) hx hb dX4_wordFault_10 (by decide) (fun c8 => ?_) (fun c8 => ?_)
  · have hf := o_ifn hf c8
    refine lv_iconst (v := (1 : Int32)) hx hb dX4_wordFault_17 (by decide) ?_
    cases hf
    exact hret _ _ _ _ (vp_nar_int _) hP hD hS dX4_wordFault_18
  have hf := o_ifp hf c8
  refine lv_iconst (v := (0 : Int32)) hx hb dX4_wordFault_13 (by decide) ?_
  refine lv_goto (tgt := 18) hx hb dX4_wordFault_14 (by decide) ?_
  cases hf
  exact hret _ _ _ _ (vp_nar_int _) hP hD hS dX4_wordFault_18
def f_X4_blame (t_faultNumber : Int32) (t_faultAt : Int32) (x1 : Int32) (x2 : Int32) : Option (Int32 × Int32) :=
  if t_faultNumber = 0 then (some (x1, x2))
  else (some (t_faultNumber, t_faultAt))
theorem hdS_X4_blame : yX4_blame.cls ≠ "java/lang/invoke/MethodHandle" ∧ yX4_blame.cls ≠ "java/lang/invoke/VarHandle" ∧ (parseMethodDescriptor yX4_blame.desc).map (fun d => d.parameters.length) = some 2 := by decide +kernel
theorem hdV_X4_blame : yX4_blame.cls = RX4 ∧ yX4_blame.cls ≠ "java/lang/invoke/MethodHandle" ∧ yX4_blame.cls ≠ "java/lang/invoke/VarHandle" ∧ (parseMethodDescriptor yX4_blame.desc).map (fun d => d.parameters.length) = some 2 := ⟨rfl, hdS_X4_blame⟩
set_option maxHeartbeats 4000000 in
set_option maxRecDepth 100000 in
theorem c_X4_blame (l : Launch) (D : va_G) (a : Nat → ClassId) (t : Nat) (q_t : Nat) (q_letters : Nat) (t_here : Int32) (t_faultNumber : Int32) (t_faultAt : Int32) (x1 : Int32) (x2 : Int32) (o_t_faultNumber : Int32) (o_t_faultAt : Int32) (hf : f_X4_blame t_faultNumber t_faultAt x1 x2 = some (o_t_faultNumber, o_t_faultAt)) : Kv l yX4_blame wsX4_blame 0 0 D a t [.ref q_t, .int x1, .int x2] [(q_t, .inr (4, [.ref q_letters, .int t_here, .int t_faultNumber, .int t_faultAt]))] [(q_t, .inr (4, [.ref q_letters, .int t_here, .int o_t_faultNumber, .int o_t_faultAt]))] := by
  refine Kv.mk (cc := cX4_blame) (nL := 3) (own := RX4) (by decide) rfl rfl (Nat.le_of_ble_eq_true rfl) ?_
  intro p e s m args below meth c A Q ls hX hP hD hS hl hret
  have hx := hX.1.1
  have hb := hX.1.2.1
  have hown := hX.1.2.2.2.1
  have hts := hX.1.2.2.2.2
  have hN := hX.2.2.1
  have hA := hX.2.2.2.2
  have hl : lv_has ls 3 [(0, .ref q_t), (1, .int x1), (2, .int x2)] := hl
  have hk1 := hts (.fieldLink RX4 27 "GainsaidOnce$Reader" "faultNumber" "I") (List.mem_of_getElem? (i := 1) rfl)
  have hk2 := hts (.fieldLink RX4 20 "GainsaidOnce$Reader" "faultAt" "I") (List.mem_of_getElem? (i := 2) rfl)
  have hiX4 : ∀ w ∈ wsX40, w ∈ wsX4_blame := (fun _ h => List.mem_cons_of_mem _ (List.mem_append_right _ h))
  unfold f_X4_blame at hf
  refine lv_aload_n hx hb dX4_blame_0 rfl (lv_at hl 0 rfl) ?_
  refine g_get hX hiX4 hP 0 rfl rfl 2 (by decide) hk1 rfl rfl dX4_blame_1 ?_
  refine lv_if_ne (tgt := 17) hx hb dX4_blame_4 (by decide) (fun c1 => ?_) (fun c1 => ?_)
  · have hf := o_ifn hf c1
    cases hf
    exact hret _ _ _ _ hP hD hS dX4_blame_17
  have hf := o_ifp hf c1
  refine lv_aload_n hx hb dX4_blame_7 rfl (lv_at hl 0 rfl) ?_
  refine lv_iload_n hx hb dX4_blame_8 rfl (lv_at hl 1 rfl) ?_
  refine g_put hX hiX4 tyX4 tyX4_ok nmX4 hP hD hS 0 rfl rfl 2 (by decide) hk1 rfl rfl rfl rfl (Nat.le_of_ble_eq_true rfl) dX4_blame_9 (fun H locs hP hD hS => ?_)
  have hP : va_P D vwCl [(q_t, .inr (4, [.ref q_letters, .int t_here, .int x1, .int t_faultAt]))] H := hP
  have hD : va_D A [(q_t, .inr (4, [.ref q_letters, .int t_here, .int x1, .int t_faultAt]))] := hD
  refine lv_aload_n hx hb dX4_blame_12 rfl (lv_at hl 0 rfl) ?_
  refine lv_iload_n hx hb dX4_blame_13 rfl (lv_at hl 2 rfl) ?_
  refine g_put hX hiX4 tyX4 tyX4_ok nmX4 hP hD hS 0 rfl rfl 3 (by decide) hk2 rfl rfl rfl rfl (Nat.le_of_ble_eq_true rfl) dX4_blame_14 (fun H locs hP hD hS => ?_)
  have hP : va_P D vwCl [(q_t, .inr (4, [.ref q_letters, .int t_here, .int x1, .int x2]))] H := hP
  have hD : va_D A [(q_t, .inr (4, [.ref q_letters, .int t_here, .int x1, .int x2]))] := hD
  cases hf
  exact hret _ _ _ _ hP hD hS dX4_blame_17
def f_X4_isFigure (x0 : Int32) : Option (Int32) :=
  if x0 < (48 : Int32) then (some (0 : Int32))
  else (if (57 : Int32) < x0 then (some (0 : Int32))
  else (some (1 : Int32)))
theorem hdS_X4_isFigure : yX4_isFigure.cls ≠ "java/lang/invoke/MethodHandle" ∧ yX4_isFigure.cls ≠ "java/lang/invoke/VarHandle" ∧ (parseMethodDescriptor yX4_isFigure.desc).map (fun d => d.parameters.length) = some 1 := by decide +kernel
theorem hdV_X4_isFigure : yX4_isFigure.cls = RX4 ∧ yX4_isFigure.cls ≠ "java/lang/invoke/MethodHandle" ∧ yX4_isFigure.cls ≠ "java/lang/invoke/VarHandle" ∧ (parseMethodDescriptor yX4_isFigure.desc).map (fun d => d.parameters.length) = some 1 := ⟨rfl, hdS_X4_isFigure⟩
set_option maxHeartbeats 4000000 in
set_option maxRecDepth 100000 in
theorem c_X4_isFigure (l : Launch) (D : va_G) (a : Nat → ClassId) (t : Nat) (x0 : Int32) (r : Int32) (hf : f_X4_isFigure x0 = some r) : Ki l yX4_isFigure wsX4_isFigure 0 0 D a t [.int x0] [] [] r := by
  refine Ki.mk (cc := cX4_isFigure) (nL := 1) (ty := .boolean) (own := RX4) (by decide) rfl rfl (Nat.le_of_ble_eq_true rfl) ?_
  intro p e s m args below meth c A Q ls hX hP hD hS hl hret
  have hx := hX.1.1
  have hb := hX.1.2.1
  have hown := hX.1.2.2.2.1
  have hts := hX.1.2.2.2.2
  have hN := hX.2.2.1
  have hA := hX.2.2.2.2
  have hl : lv_has ls 1 [(0, .int x0)] := hl
  unfold f_X4_isFigure at hf
  refine lv_iload_n hx hb dX4_isFigure_0 rfl (lv_at hl 0 rfl) ?_
  refine lv_bipush (v := (48 : Int32)) hx hb dX4_isFigure_1 (by decide) ?_
  refine lv_icmp_lt (tgt := 16) hx hb dX4_isFigure_3 (by decide) (fun c1 => ?_) (fun c1 => ?_)
  · have hf := o_ifp hf c1
    refine lv_iconst (v := (0 : Int32)) hx hb dX4_isFigure_16 (by decide) ?_
    cases hf
    exact hret _ _ _ _ narrow_b0 hP hD hS dX4_isFigure_17
  have hf := o_ifn hf c1
  refine lv_iload_n hx hb dX4_isFigure_6 rfl (lv_at hl 0 rfl) ?_
  refine lv_bipush (v := (57 : Int32)) hx hb dX4_isFigure_7 (by decide) ?_
  refine lv_icmp_gt (tgt := 16) hx hb dX4_isFigure_9 (by decide) (fun c2 => ?_) (fun c2 => ?_)
  · have hf := o_ifp hf c2
    refine lv_iconst (v := (0 : Int32)) hx hb dX4_isFigure_16 (by decide) ?_
    cases hf
    exact hret _ _ _ _ narrow_b0 hP hD hS dX4_isFigure_17
  have hf := o_ifn hf c2
  refine lv_iconst (v := (1 : Int32)) hx hb dX4_isFigure_12 (by decide) ?_
  refine lv_goto (tgt := 17) hx hb dX4_isFigure_13 (by decide) ?_
  cases hf
  exact hret _ _ _ _ narrow_b1 hP hD hS dX4_isFigure_17
def f_X4_readNumber_115  (t_here : Int32) (t_faultNumber : Int32) (t_faultAt : Int32) (x3 : Int32) (x4 : Int32) : Option (Int32 × Int32 × Int32 × Int32) :=
  (f_X4_blame t_faultNumber t_faultAt (2 : Int32) x3).bind fun o1 =>
  some (x4, t_here, o1.1, o1.2)
def f_X4_readNumber_75  (t_here : Int32) (t_faultNumber : Int32) (t_faultAt : Int32) (x1 : Int32) (x2 : Int32) (x3 : Int32) (x4 : Int32) : Option (Int32 × Int32 × Int32 × Int32) :=
  o_nm ((t_here - x3)) fun v2 =>
  if v2 = 0 then ((f_X4_blame t_faultNumber t_faultAt (1 : Int32) x3).bind fun o7 =>
  some (x4, t_here, o7.1, o7.2))
  else (if (3 : Int32) < v2 then (f_X4_readNumber_115 t_here t_faultNumber t_faultAt x3 x4)
  else (if x4 < x1 then (f_X4_readNumber_115 t_here t_faultNumber t_faultAt x3 x4)
  else (if x4 ≤ x2 then (some (x4, t_here, t_faultNumber, t_faultAt))
  else (f_X4_readNumber_115 t_here t_faultNumber t_faultAt x3 x4))))
def f_X4_readNumber_15 (letters_count : Int32) (letters_items : Nat → Int32) : Nat → Int32 → Int32 → Int32 → Int32 → Int32 → Int32 → Int32 → Int32 → Option (Int32 × Int32 × Int32 × Int32)
  | 0, _, _, _, _, _, _, _, _ => none
  | n_15 + 1, t_here, t_faultNumber, t_faultAt, x1, x2, x3, x4, x5 =>
    if (230 : Int32) ≤ x5 then (f_X4_readNumber_75 t_here t_faultNumber t_faultAt x1 x2 x3 x4)
    else ((f_X4_letterHere t_here letters_count letters_items).bind fun o9 =>
    (f_X4_isFigure o9).bind fun o10 =>
    if o10 = 0 then (f_X4_readNumber_75 t_here t_faultNumber t_faultAt x1 x2 x3 x4)
    else (if (3 : Int32) ≤ x5 then (o_nm ((t_here + (1 : Int32))) fun v13 =>
    o_nm (x5 + (1 : Int32)) fun v14 =>
    f_X4_readNumber_15 letters_count letters_items n_15 v13 t_faultNumber t_faultAt x1 x2 x3 x4 v14)
    else ((f_X4_letterHere t_here letters_count letters_items).bind fun o15 =>
    o_nm ((((x4 * (10 : Int32)) + o15) - (48 : Int32))) fun v16 =>
    o_nm ((t_here + (1 : Int32))) fun v17 =>
    o_nm (x5 + (1 : Int32)) fun v18 =>
    f_X4_readNumber_15 letters_count letters_items n_15 v17 t_faultNumber t_faultAt x1 x2 x3 v16 v18)))
def f_X4_readNumber (t_here : Int32) (t_faultNumber : Int32) (t_faultAt : Int32) (letters_count : Int32) (letters_items : Nat → Int32) (x1 : Int32) (x2 : Int32) : Option (Int32 × Int32 × Int32 × Int32) :=
  (f_X4_skipBlanks t_here letters_count letters_items).bind fun o19 =>
  f_X4_readNumber_15 letters_count letters_items 1000 o19 t_faultNumber t_faultAt x1 x2 o19 (0 : Int32) (0 : Int32)
theorem hdS_X4_readNumber : yX4_readNumber.cls ≠ "java/lang/invoke/MethodHandle" ∧ yX4_readNumber.cls ≠ "java/lang/invoke/VarHandle" ∧ (parseMethodDescriptor yX4_readNumber.desc).map (fun d => d.parameters.length) = some 2 := by decide +kernel
theorem hdV_X4_readNumber : yX4_readNumber.cls = RX4 ∧ yX4_readNumber.cls ≠ "java/lang/invoke/MethodHandle" ∧ yX4_readNumber.cls ≠ "java/lang/invoke/VarHandle" ∧ (parseMethodDescriptor yX4_readNumber.desc).map (fun d => d.parameters.length) = some 2 := ⟨rfl, hdS_X4_readNumber⟩
set_option maxHeartbeats 4000000 in
set_option maxRecDepth 100000 in
theorem c_X4_readNumber (l : Launch) (D : va_G) (a : Nat → ClassId) (t : Nat) (q_t : Nat) (q_letters : Nat) (t_here : Int32) (t_faultNumber : Int32) (t_faultAt : Int32) (q_letters_items : Nat) (letters_count : Int32) (letters_items : Nat → Int32) (x1 : Int32) (x2 : Int32) (r : Int32) (o_t_here : Int32) (o_t_faultNumber : Int32) (o_t_faultAt : Int32) (hf : f_X4_readNumber t_here t_faultNumber t_faultAt letters_count letters_items x1 x2 = some (r, o_t_here, o_t_faultNumber, o_t_faultAt)) : Ki l yX4_readNumber wsX4_readNumber 3 62 D a t [.ref q_t, .int x1, .int x2] [(q_t, .inr (4, [.ref q_letters, .int t_here, .int t_faultNumber, .int t_faultAt])), (q_letters, .inr (5, [.ref q_letters_items, .int letters_count])), (q_letters_items, .inl (a 0, 230, .inl letters_items))] [(q_t, .inr (4, [.ref q_letters, .int o_t_here, .int o_t_faultNumber, .int o_t_faultAt])), (q_letters, .inr (5, [.ref q_letters_items, .int letters_count])), (q_letters_items, .inl (a 0, 230, .inl letters_items))] r := by
  refine Ki.mk (cc := cX4_readNumber) (nL := 6) (ty := .int) (own := RX4) (by decide) rfl rfl (Nat.le_of_ble_eq_true rfl) ?_
  intro p e s m args below meth c A Q ls hX hP hD hS hl hret
  have hx := hX.1.1
  have hb := hX.1.2.1
  have hown := hX.1.2.2.2.1
  have hts := hX.1.2.2.2.2
  have hN := hX.2.2.1
  have hA := hX.2.2.2.2
  have hl : lv_has ls 6 [(0, .ref q_t), (1, .int x1), (2, .int x2)] := hl
  have hk1 := hts (.fieldLink RX4 24 "GainsaidOnce$Reader" "here" "I") (List.mem_of_getElem? (i := 1) rfl)
  have hiX4 : ∀ w ∈ wsX40, w ∈ wsX4_readNumber := (fun _ h => List.mem_cons_of_mem _ (List.mem_append_left _ (List.mem_append_right _ h)))
  have L_115 : ∀ (t_here : Int32) (t_faultNumber : Int32) (t_faultAt : Int32) (x3 : Int32) (x4 : Int32) (H : Heap) (locs : List Loc) (ls : Array Slot), f_X4_readNumber_115 t_here t_faultNumber t_faultAt x3 x4 = some (r, o_t_here, o_t_faultNumber, o_t_faultAt) → va_P D vwCl [(q_t, .inr (4, [.ref q_letters, .int t_here, .int t_faultNumber, .int t_faultAt])), (q_letters, .inr (5, [.ref q_letters_items, .int letters_count])), (q_letters_items, .inl (a 0, 230, .inl letters_items))] H → va_D A [(q_t, .inr (4, [.ref q_letters, .int t_here, .int t_faultNumber, .int t_faultAt])), (q_letters, .inr (5, [.ref q_letters_items, .int letters_count])), (q_letters_items, .inl (a 0, 230, .inl letters_items))] → va_S A s.heap H locs → lv_has ls 6 [(0, .ref q_t), (3, .int x3), (4, .int x4)] → W p l e { frames := 3, cells := 0, slots := 0, locals := 62 } s m args below meth c H locs 0 0 Q (F0 m 115 ls []) := by
    intro t_here t_faultNumber t_faultAt x3 x4 H locs ls hf hP hD hS hl
    unfold f_X4_readNumber_115 at hf
    refine lv_aload_n hx hb dX4_readNumber_115 rfl (lv_at hl 0 rfl) ?_
    refine lv_iconst (v := (2 : Int32)) hx hb dX4_readNumber_116 (by decide) ?_
    refine lv_iload_n hx hb dX4_readNumber_117 rfl (lv_at hl 1 rfl) ?_
    obtain ⟨o1, ho1, hf⟩ := o_bd hf
    refine call_vV (q0 := 0) (ci := 4) hX (c_X4_blame l D a t q_t q_letters t_here t_faultNumber t_faultAt (2 : Int32) x3 o1.1 o1.2 ho1) (cwV 2 hts gX4_readNumber_X4_blame rfl rfl rfl hdV_X4_blame ⟨by decide, by decide⟩) (Cut.of hA hP hD hS [0] (by decide) rfl rfl (W' := [(q_t, .inr (4, [.ref q_letters, .int t_here, .int o1.1, .int o1.2])), (q_letters, .inr (5, [.ref q_letters_items, .int letters_count])), (q_letters_items, .inl (a 0, 230, .inl letters_items))]) rfl) hS rfl rfl rfl hl.1 rfl (Nat.le_of_ble_eq_true rfl) dX4_readNumber_118 (by decide) (fun H locs hP hD hS => ?_)
    have hP : va_P D vwCl [(q_t, .inr (4, [.ref q_letters, .int t_here, .int o1.1, .int o1.2])), (q_letters, .inr (5, [.ref q_letters_items, .int letters_count])), (q_letters_items, .inl (a 0, 230, .inl letters_items))] H := hP
    have hD : va_D A [(q_t, .inr (4, [.ref q_letters, .int t_here, .int o1.1, .int o1.2])), (q_letters, .inr (5, [.ref q_letters_items, .int letters_count])), (q_letters_items, .inl (a 0, 230, .inl letters_items))] := hD
    refine lv_iload hx hb dX4_readNumber_121 (lv_at hl 2 rfl) ?_
    cases hf
    exact hret _ _ _ _ (vp_nar_int _) hP hD hS dX4_readNumber_123
  have L_75 : ∀ (t_here : Int32) (t_faultNumber : Int32) (t_faultAt : Int32) (x1 : Int32) (x2 : Int32) (x3 : Int32) (x4 : Int32) (H : Heap) (locs : List Loc) (ls : Array Slot), f_X4_readNumber_75 t_here t_faultNumber t_faultAt x1 x2 x3 x4 = some (r, o_t_here, o_t_faultNumber, o_t_faultAt) → va_P D vwCl [(q_t, .inr (4, [.ref q_letters, .int t_here, .int t_faultNumber, .int t_faultAt])), (q_letters, .inr (5, [.ref q_letters_items, .int letters_count])), (q_letters_items, .inl (a 0, 230, .inl letters_items))] H → va_D A [(q_t, .inr (4, [.ref q_letters, .int t_here, .int t_faultNumber, .int t_faultAt])), (q_letters, .inr (5, [.ref q_letters_items, .int letters_count])), (q_letters_items, .inl (a 0, 230, .inl letters_items))] → va_S A s.heap H locs → lv_has ls 6 [(0, .ref q_t), (1, .int x1), (2, .int x2), (3, .int x3), (4, .int x4)] → W p l e { frames := 3, cells := 0, slots := 0, locals := 62 } s m args below meth c H locs 0 0 Q (F0 m 75 ls []) := by
    intro t_here t_faultNumber t_faultAt x1 x2 x3 x4 H locs ls hf hP hD hS hl
    unfold f_X4_readNumber_75 at hf
    refine lv_aload_n hx hb dX4_readNumber_75 rfl (lv_at hl 0 rfl) ?_
    refine g_get hX hiX4 hP 0 rfl rfl 1 (by decide) hk1 rfl rfl dX4_readNumber_76 ?_
    refine lv_iload_n hx hb dX4_readNumber_79 rfl (lv_at hl 3 rfl) ?_
    refine lv_isub hx hb dX4_readNumber_80 ?_
    refine lv_topi (fun v2 ev2 => ?_)
    have hf := o_nmh hf v2 ev2
    refine lv_istore (lv' := [(5, .int v2), (0, .ref q_t), (1, .int x1), (2, .int x2), (3, .int x3), (4, .int x4)]) hx hb dX4_readNumber_81 hl (by decide) rfl (fun ls hl => ?_)
    refine lv_iload hx hb dX4_readNumber_83 (lv_at hl 0 rfl) ?_
    refine lv_if_ne (tgt := 97) hx hb dX4_readNumber_85 (by decide) (fun c3 => ?_) (fun c3 => ?_)
    · have hf := o_ifn hf c3
      refine lv_iload hx hb dX4_readNumber_97 (lv_at hl 0 rfl) ?_
      refine lv_iconst (v := (3 : Int32)) hx hb dX4_readNumber_99 (by decide) ?_
      refine lv_icmp_gt (tgt := 115) hx hb dX4_readNumber_100 (by decide) (fun c4 => ?_) (fun c4 => ?_)
      · have hf := o_ifp hf c4
        exact L_115 t_here t_faultNumber t_faultAt x3 x4 _ _ _ hf hP hD hS (lv_sub hl [1, 4, 5] rfl)
      have hf := o_ifn hf c4
      refine lv_iload hx hb dX4_readNumber_103 (lv_at hl 5 rfl) ?_
      refine lv_iload_n hx hb dX4_readNumber_105 rfl (lv_at hl 2 rfl) ?_
      refine lv_icmp_lt (tgt := 115) hx hb dX4_readNumber_106 (by decide) (fun c5 => ?_) (fun c5 => ?_)
      · have hf := o_ifp hf c5
        exact L_115 t_here t_faultNumber t_faultAt x3 x4 _ _ _ hf hP hD hS (lv_sub hl [1, 4, 5] rfl)
      have hf := o_ifn hf c5
      refine lv_iload hx hb dX4_readNumber_109 (lv_at hl 5 rfl) ?_
      refine lv_iload_n hx hb dX4_readNumber_111 rfl (lv_at hl 3 rfl) ?_
      refine lv_icmp_le (tgt := 121) hx hb dX4_readNumber_112 (by decide) (fun c6 => ?_) (fun c6 => ?_)
      · have hf := o_ifp hf c6
        refine lv_iload hx hb dX4_readNumber_121 (lv_at hl 5 rfl) ?_
        cases hf
        exact hret _ _ _ _ (vp_nar_int _) hP hD hS dX4_readNumber_123
      have hf := o_ifn hf c6
      exact L_115 t_here t_faultNumber t_faultAt x3 x4 _ _ _ hf hP hD hS (lv_sub hl [1, 4, 5] rfl)
    have hf := o_ifp hf c3
    refine lv_aload_n hx hb dX4_readNumber_88 rfl (lv_at hl 1 rfl) ?_
    refine lv_iconst (v := (1 : Int32)) hx hb dX4_readNumber_89 (by decide) ?_
    refine lv_iload_n hx hb dX4_readNumber_90 rfl (lv_at hl 4 rfl) ?_
    obtain ⟨o7, ho7, hf⟩ := o_bd hf
    refine call_vV (q0 := 0) (ci := 4) hX (c_X4_blame l D a t q_t q_letters t_here t_faultNumber t_faultAt (1 : Int32) x3 o7.1 o7.2 ho7) (cwV 2 hts gX4_readNumber_X4_blame rfl rfl rfl hdV_X4_blame ⟨by decide, by decide⟩) (Cut.of hA hP hD hS [0] (by decide) rfl rfl (W' := [(q_t, .inr (4, [.ref q_letters, .int t_here, .int o7.1, .int o7.2])), (q_letters, .inr (5, [.ref q_letters_items, .int letters_count])), (q_letters_items, .inl (a 0, 230, .inl letters_items))]) rfl) hS rfl rfl rfl hl.1 rfl (Nat.le_of_ble_eq_true rfl) dX4_readNumber_91 (by decide) (fun H locs hP hD hS => ?_)
    have hP : va_P D vwCl [(q_t, .inr (4, [.ref q_letters, .int t_here, .int o7.1, .int o7.2])), (q_letters, .inr (5, [.ref q_letters_items, .int letters_count])), (q_letters_items, .inl (a 0, 230, .inl letters_items))] H := hP
    have hD : va_D A [(q_t, .inr (4, [.ref q_letters, .int t_here, .int o7.1, .int o7.2])), (q_letters, .inr (5, [.ref q_letters_items, .int letters_count])), (q_letters_items, .inl (a 0, 230, .inl letters_items))] := hD
    refine lv_goto (tgt := 121) hx hb dX4_readNumber_94 (by decide) ?_
    refine lv_iload hx hb dX4_readNumber_121 (lv_at hl 5 rfl) ?_
    cases hf
    exact hret _ _ _ _ (vp_nar_int _) hP hD hS dX4_readNumber_123
  have L_15 : ∀ (n_15 : Nat) (t_here : Int32) (t_faultNumber : Int32) (t_faultAt : Int32) (x1 : Int32) (x2 : Int32) (x3 : Int32) (x4 : Int32) (x5 : Int32) (H : Heap) (locs : List Loc) (ls : Array Slot), f_X4_readNumber_15 letters_count letters_items n_15 t_here t_faultNumber t_faultAt x1 x2 x3 x4 x5 = some (r, o_t_here, o_t_faultNumber, o_t_faultAt) → va_P D vwCl [(q_t, .inr (4, [.ref q_letters, .int t_here, .int t_faultNumber, .int t_faultAt])), (q_letters, .inr (5, [.ref q_letters_items, .int letters_count])), (q_letters_items, .inl (a 0, 230, .inl letters_items))] H → va_D A [(q_t, .inr (4, [.ref q_letters, .int t_here, .int t_faultNumber, .int t_faultAt])), (q_letters, .inr (5, [.ref q_letters_items, .int letters_count])), (q_letters_items, .inl (a 0, 230, .inl letters_items))] → va_S A s.heap H locs → lv_has ls 6 [(0, .ref q_t), (1, .int x1), (2, .int x2), (3, .int x3), (4, .int x4), (5, .int x5)] → W p l e { frames := 3, cells := 0, slots := 0, locals := 62 } s m args below meth c H locs 0 0 Q (F0 m 15 ls []) := by
    intro n_15
    induction n_15 with
    | zero => intro t_here t_faultNumber t_faultAt x1 x2 x3 x4 x5 H locs ls hf hP hD hS hl; rw [f_X4_readNumber_15] at hf; cases hf
    | succ n_15 ih_15 =>
      intro t_here t_faultNumber t_faultAt x1 x2 x3 x4 x5 H locs ls hf hP hD hS hl
      rw [f_X4_readNumber_15] at hf
      refine lv_iload hx hb dX4_readNumber_15 (lv_at hl 5 rfl) ?_
      refine lv_sipush (v := (230 : Int32)) hx hb dX4_readNumber_17 (by decide) ?_
      refine lv_icmp_ge (tgt := 75) hx hb dX4_readNumber_20 (by decide) (fun c8 => ?_) (fun c8 => ?_)
      · have hf := o_ifp hf c8
        exact L_75 t_here t_faultNumber t_faultAt x1 x2 x3 x4 _ _ _ hf hP hD hS (lv_sub hl [0, 1, 2, 3, 4] rfl)
      have hf := o_ifn hf c8
      refine lv_aload_n hx hb dX4_readNumber_23 rfl (lv_at hl 0 rfl) ?_
      obtain ⟨o9, ho9, hf⟩ := o_bd hf
      refine call_iV (q0 := 0) (ci := 4) hX (c_X4_letterHere l D a t q_t q_letters t_here t_faultNumber t_faultAt q_letters_items letters_count letters_items o9 ho9) (cwV 0 hts gX4_readNumber_X4_letterHere rfl rfl rfl hdV_X4_letterHere ⟨by decide, by decide⟩) (Cut.of hA hP hD hS [0, 1, 2] (by decide) rfl rfl (W' := [(q_t, .inr (4, [.ref q_letters, .int t_here, .int t_faultNumber, .int t_faultAt])), (q_letters, .inr (5, [.ref q_letters_items, .int letters_count])), (q_letters_items, .inl (a 0, 230, .inl letters_items))]) rfl) hS rfl rfl rfl hl.1 rfl (Nat.le_of_ble_eq_true rfl) dX4_readNumber_24 (by decide) (fun H locs hP hD hS => ?_)
      have hP : va_P D vwCl [(q_t, .inr (4, [.ref q_letters, .int t_here, .int t_faultNumber, .int t_faultAt])), (q_letters, .inr (5, [.ref q_letters_items, .int letters_count])), (q_letters_items, .inl (a 0, 230, .inl letters_items))] H := hP
      have hD : va_D A [(q_t, .inr (4, [.ref q_letters, .int t_here, .int t_faultNumber, .int t_faultAt])), (q_letters, .inr (5, [.ref q_letters_items, .int letters_count])), (q_letters_items, .inl (a 0, 230, .inl letters_items))] := hD
      obtain ⟨o10, ho10, hf⟩ := o_bd hf
      refine call_iS hX (c_X4_isFigure l D a t o9 o10 ho10) (va_cwS 1 hts gX4_readNumber_X4_isFigure rfl rfl rfl hdS_X4_isFigure ⟨by decide, by decide⟩) (Cut.none hA hP hD hS) hS rfl hl.1 rfl (Nat.le_of_ble_eq_true rfl) dX4_readNumber_27 (by decide) (fun H locs hP hD hS => ?_)
      refine lv_if_eq (tgt := 75) hx hb dX4_readNumber_30 (by decide) (fun c11 => ?_) (fun c11 => ?_)
      · have hf := o_ifp hf c11
        exact L_75 t_here t_faultNumber t_faultAt x1 x2 x3 x4 _ _ _ hf hP hD hS (lv_sub hl [0, 1, 2, 3, 4] rfl)
      have hf := o_ifn hf c11
      refine lv_iload hx hb dX4_readNumber_33 (lv_at hl 5 rfl) ?_
      refine lv_iconst (v := (3 : Int32)) hx hb dX4_readNumber_35 (by decide) ?_
      refine lv_icmp_ge (tgt := 55) hx hb dX4_readNumber_36 (by decide) (fun c12 => ?_) (fun c12 => ?_)
      · have hf := o_ifp hf c12
        refine lv_iload hx hb dX4_readNumber_55 (lv_at hl 4 rfl) ?_
        refine lv_istore (lv' := [(4, .int x4), (0, .ref q_t), (1, .int x1), (2, .int x2), (3, .int x3), (5, .int x5)]) hx hb dX4_readNumber_57 hl (by decide) rfl (fun ls hl => ?_)
        refine lv_aload_n hx hb dX4_readNumber_59 rfl (lv_at hl 1 rfl) ?_
        refine lv_dup hx hb dX4_readNumber_60 rfl ?_
        refine g_get hX hiX4 hP 0 rfl rfl 1 (by decide) hk1 rfl rfl dX4_readNumber_61 ?_
        refine lv_iconst (v := (1 : Int32)) hx hb dX4_readNumber_64 (by decide) ?_
        refine lv_iadd hx hb dX4_readNumber_65 ?_
        refine lv_topi (fun v13 ev13 => ?_)
        have hf := o_nmh hf v13 ev13
        refine g_put hX hiX4 tyX4 tyX4_ok nmX4 hP hD hS 0 rfl rfl 1 (by decide) hk1 rfl rfl rfl rfl (Nat.le_of_ble_eq_true rfl) dX4_readNumber_66 (fun H locs hP hD hS => ?_)
        have hP : va_P D vwCl [(q_t, .inr (4, [.ref q_letters, .int v13, .int t_faultNumber, .int t_faultAt])), (q_letters, .inr (5, [.ref q_letters_items, .int letters_count])), (q_letters_items, .inl (a 0, 230, .inl letters_items))] H := hP
        have hD : va_D A [(q_t, .inr (4, [.ref q_letters, .int v13, .int t_faultNumber, .int t_faultAt])), (q_letters, .inr (5, [.ref q_letters_items, .int letters_count])), (q_letters_items, .inl (a 0, 230, .inl letters_items))] := hD
        obtain ⟨v14, ev14⟩ : ∃ y : Int32, y = x5 + (1 : Int32) := ⟨_, rfl⟩
        have hf := o_nmh hf v14 ev14
        refine lv_iinc (v := v14) (lv' := [(5, .int v14), (4, .int x4), (0, .ref q_t), (1, .int x1), (2, .int x2), (3, .int x3)]) hx hb dX4_readNumber_69 hl (k := 5) rfl (by rw [ev14]; rfl) (by decide) rfl (fun ls hl => ?_)
        refine lv_goto (tgt := 15) hx hb dX4_readNumber_72 (by decide) ?_
        exact ih_15 v13 t_faultNumber t_faultAt x1 x2 x3 x4 v14 _ _ _ hf hP hD hS (lv_sub hl [2, 3, 4, 5, 1, 0] rfl)
      have hf := o_ifn hf c12
      refine lv_iload hx hb dX4_readNumber_39 (lv_at hl 4 rfl) ?_
      refine lv_bipush (v := (10 : Int32)) hx hb dX4_readNumber_41 (by decide) ?_
      refine lv_imul hx hb dX4_readNumber_43 ?_
      refine lv_aload_n hx hb dX4_readNumber_44 rfl (lv_at hl 0 rfl) ?_
      obtain ⟨o15, ho15, hf⟩ := o_bd hf
      refine call_iV (q0 := 0) (ci := 4) hX (c_X4_letterHere l D a t q_t q_letters t_here t_faultNumber t_faultAt q_letters_items letters_count letters_items o15 ho15) (cwV 0 hts gX4_readNumber_X4_letterHere rfl rfl rfl hdV_X4_letterHere ⟨by decide, by decide⟩) (Cut.of hA hP hD hS [0, 1, 2] (by decide) rfl rfl (W' := [(q_t, .inr (4, [.ref q_letters, .int t_here, .int t_faultNumber, .int t_faultAt])), (q_letters, .inr (5, [.ref q_letters_items, .int letters_count])), (q_letters_items, .inl (a 0, 230, .inl letters_items))]) rfl) hS rfl rfl rfl hl.1 rfl (Nat.le_of_ble_eq_true rfl) dX4_readNumber_45 (by decide) (fun H locs hP hD hS => ?_)
      have hP : va_P D vwCl [(q_t, .inr (4, [.ref q_letters, .int t_here, .int t_faultNumber, .int t_faultAt])), (q_letters, .inr (5, [.ref q_letters_items, .int letters_count])), (q_letters_items, .inl (a 0, 230, .inl letters_items))] H := hP
      have hD : va_D A [(q_t, .inr (4, [.ref q_letters, .int t_here, .int t_faultNumber, .int t_faultAt])), (q_letters, .inr (5, [.ref q_letters_items, .int letters_count])), (q_letters_items, .inl (a 0, 230, .inl letters_items))] := hD
      refine lv_iadd hx hb dX4_readNumber_48 ?_
      refine lv_bipush (v := (48 : Int32)) hx hb dX4_readNumber_49 (by decide) ?_
      refine lv_isub hx hb dX4_readNumber_51 ?_
      refine lv_goto (tgt := 57) hx hb dX4_readNumber_52 (by decide) ?_
      refine lv_topi (fun v16 ev16 => ?_)
      have hf := o_nmh hf v16 ev16
      refine lv_istore (lv' := [(4, .int v16), (0, .ref q_t), (1, .int x1), (2, .int x2), (3, .int x3), (5, .int x5)]) hx hb dX4_readNumber_57 hl (by decide) rfl (fun ls hl => ?_)
      refine lv_aload_n hx hb dX4_readNumber_59 rfl (lv_at hl 1 rfl) ?_
      refine lv_dup hx hb dX4_readNumber_60 rfl ?_
      refine g_get hX hiX4 hP 0 rfl rfl 1 (by decide) hk1 rfl rfl dX4_readNumber_61 ?_
      refine lv_iconst (v := (1 : Int32)) hx hb dX4_readNumber_64 (by decide) ?_
      refine lv_iadd hx hb dX4_readNumber_65 ?_
      refine lv_topi (fun v17 ev17 => ?_)
      have hf := o_nmh hf v17 ev17
      refine g_put hX hiX4 tyX4 tyX4_ok nmX4 hP hD hS 0 rfl rfl 1 (by decide) hk1 rfl rfl rfl rfl (Nat.le_of_ble_eq_true rfl) dX4_readNumber_66 (fun H locs hP hD hS => ?_)
      have hP : va_P D vwCl [(q_t, .inr (4, [.ref q_letters, .int v17, .int t_faultNumber, .int t_faultAt])), (q_letters, .inr (5, [.ref q_letters_items, .int letters_count])), (q_letters_items, .inl (a 0, 230, .inl letters_items))] H := hP
      have hD : va_D A [(q_t, .inr (4, [.ref q_letters, .int v17, .int t_faultNumber, .int t_faultAt])), (q_letters, .inr (5, [.ref q_letters_items, .int letters_count])), (q_letters_items, .inl (a 0, 230, .inl letters_items))] := hD
      obtain ⟨v18, ev18⟩ : ∃ y : Int32, y = x5 + (1 : Int32) := ⟨_, rfl⟩
      have hf := o_nmh hf v18 ev18
      refine lv_iinc (v := v18) (lv' := [(5, .int v18), (4, .int v16), (0, .ref q_t), (1, .int x1), (2, .int x2), (3, .int x3)]) hx hb dX4_readNumber_69 hl (k := 5) rfl (by rw [ev18]; rfl) (by decide) rfl (fun ls hl => ?_)
      refine lv_goto (tgt := 15) hx hb dX4_readNumber_72 (by decide) ?_
      exact ih_15 v17 t_faultNumber t_faultAt x1 x2 x3 v16 v18 _ _ _ hf hP hD hS (lv_sub hl [2, 3, 4, 5, 1, 0] rfl)
  unfold f_X4_readNumber at hf
  refine lv_aload_n hx hb dX4_readNumber_0 rfl (lv_at hl 0 rfl) ?_
  obtain ⟨o19, ho19, hf⟩ := o_bd hf
  refine call_vV (q0 := 0) (ci := 4) hX (c_X4_skipBlanks l D a t q_t q_letters t_here t_faultNumber t_faultAt q_letters_items letters_count letters_items o19 ho19) (cwV 0 hts gX4_readNumber_X4_skipBlanks rfl rfl rfl hdV_X4_skipBlanks ⟨by decide, by decide⟩) (Cut.of hA hP hD hS [0, 1, 2] (by decide) rfl rfl (W' := [(q_t, .inr (4, [.ref q_letters, .int o19, .int t_faultNumber, .int t_faultAt])), (q_letters, .inr (5, [.ref q_letters_items, .int letters_count])), (q_letters_items, .inl (a 0, 230, .inl letters_items))]) rfl) hS rfl rfl rfl hl.1 rfl (Nat.le_of_ble_eq_true rfl) dX4_readNumber_1 (by decide) (fun H locs hP hD hS => ?_)
  have hP : va_P D vwCl [(q_t, .inr (4, [.ref q_letters, .int o19, .int t_faultNumber, .int t_faultAt])), (q_letters, .inr (5, [.ref q_letters_items, .int letters_count])), (q_letters_items, .inl (a 0, 230, .inl letters_items))] H := hP
  have hD : va_D A [(q_t, .inr (4, [.ref q_letters, .int o19, .int t_faultNumber, .int t_faultAt])), (q_letters, .inr (5, [.ref q_letters_items, .int letters_count])), (q_letters_items, .inl (a 0, 230, .inl letters_items))] := hD
  refine lv_aload_n hx hb dX4_readNumber_4 rfl (lv_at hl 0 rfl) ?_
  refine g_get hX hiX4 hP 0 rfl rfl 1 (by decide) hk1 rfl rfl dX4_readNumber_5 ?_
  refine lv_istore_n (lv' := [(3, .int o19), (0, .ref q_t), (1, .int x1), (2, .int x2)]) hx hb dX4_readNumber_8 rfl hl (by decide) rfl (fun ls hl => ?_)
  refine lv_iconst (v := (0 : Int32)) hx hb dX4_readNumber_9 (by decide) ?_
  refine lv_istore (lv' := [(4, .int (0 : Int32)), (3, .int o19), (0, .ref q_t), (1, .int x1), (2, .int x2)]) hx hb dX4_readNumber_10 hl (by decide) rfl (fun ls hl => ?_)
  refine lv_iconst (v := (0 : Int32)) hx hb dX4_readNumber_12 (by decide) ?_
  refine lv_istore (lv' := [(5, .int (0 : Int32)), (4, .int (0 : Int32)), (3, .int o19), (0, .ref q_t), (1, .int x1), (2, .int x2)]) hx hb dX4_readNumber_13 hl (by decide) rfl (fun ls hl => ?_)
  exact L_15 1000 o19 t_faultNumber t_faultAt x1 x2 o19 (0 : Int32) (0 : Int32) _ _ _ hf hP hD hS (lv_sub hl [3, 4, 5, 2, 1, 0] rfl)
def f_X4_readEnd (t_here : Int32) (t_faultNumber : Int32) (t_faultAt : Int32) (letters_count : Int32) (letters_items : Nat → Int32) : Option (Int32 × Int32 × Int32) :=
  (f_X4_skipBlanks t_here letters_count letters_items).bind fun o1 =>
  (f_X4_letterHere o1 letters_count letters_items).bind fun o2 =>
  if o2 = (59 : Int32) then (o_nm ((o1 + (1 : Int32))) fun v4 =>
  some (v4, t_faultNumber, t_faultAt))
  else ((f_X4_blame t_faultNumber t_faultAt (1 : Int32) o1).bind fun o5 =>
  o_nm ((o1 + (1 : Int32))) fun v6 =>
  some (v6, o5.1, o5.2))
theorem hdS_X4_readEnd : yX4_readEnd.cls ≠ "java/lang/invoke/MethodHandle" ∧ yX4_readEnd.cls ≠ "java/lang/invoke/VarHandle" ∧ (parseMethodDescriptor yX4_readEnd.desc).map (fun d => d.parameters.length) = some 0 := by decide +kernel
theorem hdV_X4_readEnd : yX4_readEnd.cls = RX4 ∧ yX4_readEnd.cls ≠ "java/lang/invoke/MethodHandle" ∧ yX4_readEnd.cls ≠ "java/lang/invoke/VarHandle" ∧ (parseMethodDescriptor yX4_readEnd.desc).map (fun d => d.parameters.length) = some 0 := ⟨rfl, hdS_X4_readEnd⟩
set_option maxHeartbeats 4000000 in
set_option maxRecDepth 100000 in
theorem c_X4_readEnd (l : Launch) (D : va_G) (a : Nat → ClassId) (t : Nat) (q_t : Nat) (q_letters : Nat) (t_here : Int32) (t_faultNumber : Int32) (t_faultAt : Int32) (q_letters_items : Nat) (letters_count : Int32) (letters_items : Nat → Int32) (o_t_here : Int32) (o_t_faultNumber : Int32) (o_t_faultAt : Int32) (hf : f_X4_readEnd t_here t_faultNumber t_faultAt letters_count letters_items = some (o_t_here, o_t_faultNumber, o_t_faultAt)) : Kv l yX4_readEnd wsX4_readEnd 3 62 D a t [.ref q_t] [(q_t, .inr (4, [.ref q_letters, .int t_here, .int t_faultNumber, .int t_faultAt])), (q_letters, .inr (5, [.ref q_letters_items, .int letters_count])), (q_letters_items, .inl (a 0, 230, .inl letters_items))] [(q_t, .inr (4, [.ref q_letters, .int o_t_here, .int o_t_faultNumber, .int o_t_faultAt])), (q_letters, .inr (5, [.ref q_letters_items, .int letters_count])), (q_letters_items, .inl (a 0, 230, .inl letters_items))] := by
  refine Kv.mk (cc := cX4_readEnd) (nL := 1) (own := RX4) (by decide) rfl rfl (Nat.le_of_ble_eq_true rfl) ?_
  intro p e s m args below meth c A Q ls hX hP hD hS hl hret
  have hx := hX.1.1
  have hb := hX.1.2.1
  have hown := hX.1.2.2.2.1
  have hts := hX.1.2.2.2.2
  have hN := hX.2.2.1
  have hA := hX.2.2.2.2
  have hl : lv_has ls 1 [(0, .ref q_t)] := hl
  have hk1 := hts (.fieldLink RX4 24 "GainsaidOnce$Reader" "here" "I") (List.mem_of_getElem? (i := 1) rfl)
  have hiX4 : ∀ w ∈ wsX40, w ∈ wsX4_readEnd := (fun _ h => List.mem_cons_of_mem _ (List.mem_append_left _ (List.mem_append_right _ h)))
  unfold f_X4_readEnd at hf
  refine lv_aload_n hx hb dX4_readEnd_0 rfl (lv_at hl 0 rfl) ?_
  obtain ⟨o1, ho1, hf⟩ := o_bd hf
  refine call_vV (q0 := 0) (ci := 4) hX (c_X4_skipBlanks l D a t q_t q_letters t_here t_faultNumber t_faultAt q_letters_items letters_count letters_items o1 ho1) (cwV 0 hts gX4_readEnd_X4_skipBlanks rfl rfl rfl hdV_X4_skipBlanks ⟨by decide, by decide⟩) (Cut.of hA hP hD hS [0, 1, 2] (by decide) rfl rfl (W' := [(q_t, .inr (4, [.ref q_letters, .int o1, .int t_faultNumber, .int t_faultAt])), (q_letters, .inr (5, [.ref q_letters_items, .int letters_count])), (q_letters_items, .inl (a 0, 230, .inl letters_items))]) rfl) hS rfl rfl rfl hl.1 rfl (Nat.le_of_ble_eq_true rfl) dX4_readEnd_1 (by decide) (fun H locs hP hD hS => ?_)
  have hP : va_P D vwCl [(q_t, .inr (4, [.ref q_letters, .int o1, .int t_faultNumber, .int t_faultAt])), (q_letters, .inr (5, [.ref q_letters_items, .int letters_count])), (q_letters_items, .inl (a 0, 230, .inl letters_items))] H := hP
  have hD : va_D A [(q_t, .inr (4, [.ref q_letters, .int o1, .int t_faultNumber, .int t_faultAt])), (q_letters, .inr (5, [.ref q_letters_items, .int letters_count])), (q_letters_items, .inl (a 0, 230, .inl letters_items))] := hD
  refine lv_aload_n hx hb dX4_readEnd_4 rfl (lv_at hl 0 rfl) ?_
  obtain ⟨o2, ho2, hf⟩ := o_bd hf
  refine call_iV (q0 := 0) (ci := 4) hX (c_X4_letterHere l D a t q_t q_letters o1 t_faultNumber t_faultAt q_letters_items letters_count letters_items o2 ho2) (cwV 0 hts gX4_readEnd_X4_letterHere rfl rfl rfl hdV_X4_letterHere ⟨by decide, by decide⟩) (Cut.of hA hP hD hS [0, 1, 2] (by decide) rfl rfl (W' := [(q_t, .inr (4, [.ref q_letters, .int o1, .int t_faultNumber, .int t_faultAt])), (q_letters, .inr (5, [.ref q_letters_items, .int letters_count])), (q_letters_items, .inl (a 0, 230, .inl letters_items))]) rfl) hS rfl rfl rfl hl.1 rfl (Nat.le_of_ble_eq_true rfl) dX4_readEnd_5 (by decide) (fun H locs hP hD hS => ?_)
  have hP : va_P D vwCl [(q_t, .inr (4, [.ref q_letters, .int o1, .int t_faultNumber, .int t_faultAt])), (q_letters, .inr (5, [.ref q_letters_items, .int letters_count])), (q_letters_items, .inl (a 0, 230, .inl letters_items))] H := hP
  have hD : va_D A [(q_t, .inr (4, [.ref q_letters, .int o1, .int t_faultNumber, .int t_faultAt])), (q_letters, .inr (5, [.ref q_letters_items, .int letters_count])), (q_letters_items, .inl (a 0, 230, .inl letters_items))] := hD
  refine lv_bipush (v := (59 : Int32)) hx hb dX4_readEnd_8 (by decide) ?_
  refine lv_icmp_eq (tgt := 22) hx hb dX4_readEnd_10 (by decide) (fun c3 => ?_) (fun c3 => ?_)
  · have hf := o_ifp hf c3
    refine lv_aload_n hx hb dX4_readEnd_22 rfl (lv_at hl 0 rfl) ?_
    refine lv_dup hx hb dX4_readEnd_23 rfl ?_
    refine g_get hX hiX4 hP 0 rfl rfl 1 (by decide) hk1 rfl rfl dX4_readEnd_24 ?_
    refine lv_iconst (v := (1 : Int32)) hx hb dX4_readEnd_27 (by decide) ?_
    refine lv_iadd hx hb dX4_readEnd_28 ?_
    refine lv_topi (fun v4 ev4 => ?_)
    have hf := o_nmh hf v4 ev4
    refine g_put hX hiX4 tyX4 tyX4_ok nmX4 hP hD hS 0 rfl rfl 1 (by decide) hk1 rfl rfl rfl rfl (Nat.le_of_ble_eq_true rfl) dX4_readEnd_29 (fun H locs hP hD hS => ?_)
    have hP : va_P D vwCl [(q_t, .inr (4, [.ref q_letters, .int v4, .int t_faultNumber, .int t_faultAt])), (q_letters, .inr (5, [.ref q_letters_items, .int letters_count])), (q_letters_items, .inl (a 0, 230, .inl letters_items))] H := hP
    have hD : va_D A [(q_t, .inr (4, [.ref q_letters, .int v4, .int t_faultNumber, .int t_faultAt])), (q_letters, .inr (5, [.ref q_letters_items, .int letters_count])), (q_letters_items, .inl (a 0, 230, .inl letters_items))] := hD
    cases hf
    exact hret _ _ _ _ hP hD hS dX4_readEnd_32
  have hf := o_ifn hf c3
  refine lv_aload_n hx hb dX4_readEnd_13 rfl (lv_at hl 0 rfl) ?_
  refine lv_iconst (v := (1 : Int32)) hx hb dX4_readEnd_14 (by decide) ?_
  refine lv_aload_n hx hb dX4_readEnd_15 rfl (lv_at hl 0 rfl) ?_
  refine g_get hX hiX4 hP 0 rfl rfl 1 (by decide) hk1 rfl rfl dX4_readEnd_16 ?_
  obtain ⟨o5, ho5, hf⟩ := o_bd hf
  refine call_vV (q0 := 0) (ci := 4) hX (c_X4_blame l D a t q_t q_letters o1 t_faultNumber t_faultAt (1 : Int32) o1 o5.1 o5.2 ho5) (cwV 2 hts gX4_readEnd_X4_blame rfl rfl rfl hdV_X4_blame ⟨by decide, by decide⟩) (Cut.of hA hP hD hS [0] (by decide) rfl rfl (W' := [(q_t, .inr (4, [.ref q_letters, .int o1, .int o5.1, .int o5.2])), (q_letters, .inr (5, [.ref q_letters_items, .int letters_count])), (q_letters_items, .inl (a 0, 230, .inl letters_items))]) rfl) hS rfl rfl rfl hl.1 rfl (Nat.le_of_ble_eq_true rfl) dX4_readEnd_19 (by decide) (fun H locs hP hD hS => ?_)
  have hP : va_P D vwCl [(q_t, .inr (4, [.ref q_letters, .int o1, .int o5.1, .int o5.2])), (q_letters, .inr (5, [.ref q_letters_items, .int letters_count])), (q_letters_items, .inl (a 0, 230, .inl letters_items))] H := hP
  have hD : va_D A [(q_t, .inr (4, [.ref q_letters, .int o1, .int o5.1, .int o5.2])), (q_letters, .inr (5, [.ref q_letters_items, .int letters_count])), (q_letters_items, .inl (a 0, 230, .inl letters_items))] := hD
  refine lv_aload_n hx hb dX4_readEnd_22 rfl (lv_at hl 0 rfl) ?_
  refine lv_dup hx hb dX4_readEnd_23 rfl ?_
  refine g_get hX hiX4 hP 0 rfl rfl 1 (by decide) hk1 rfl rfl dX4_readEnd_24 ?_
  refine lv_iconst (v := (1 : Int32)) hx hb dX4_readEnd_27 (by decide) ?_
  refine lv_iadd hx hb dX4_readEnd_28 ?_
  refine lv_topi (fun v6 ev6 => ?_)
  have hf := o_nmh hf v6 ev6
  refine g_put hX hiX4 tyX4 tyX4_ok nmX4 hP hD hS 0 rfl rfl 1 (by decide) hk1 rfl rfl rfl rfl (Nat.le_of_ble_eq_true rfl) dX4_readEnd_29 (fun H locs hP hD hS => ?_)
  have hP : va_P D vwCl [(q_t, .inr (4, [.ref q_letters, .int v6, .int o5.1, .int o5.2])), (q_letters, .inr (5, [.ref q_letters_items, .int letters_count])), (q_letters_items, .inl (a 0, 230, .inl letters_items))] H := hP
  have hD : va_D A [(q_t, .inr (4, [.ref q_letters, .int v6, .int o5.1, .int o5.2])), (q_letters, .inr (5, [.ref q_letters_items, .int letters_count])), (q_letters_items, .inl (a 0, 230, .inl letters_items))] := hD
  cases hf
  exact hret _ _ _ _ hP hD hS dX4_readEnd_32
def f_X4_readClauses (t_here : Int32) (t_faultNumber : Int32) (t_faultAt : Int32) (letters_count : Int32) (letters_items : Nat → Int32) (p1_clauses : Int32) : Option (Int32 × Int32 × Int32 × Int32) :=
  (f_X4_readNumber t_here t_faultNumber t_faultAt letters_count letters_items (1 : Int32) (255 : Int32)).bind fun o1 =>
  (f_X4_readEnd o1.2.1 o1.2.2.1 o1.2.2.2 letters_count letters_items).bind fun o2 =>
  if o2.2.1 = 0 then (some (o2.1, o2.2.1, o2.2.2, o1.1))
  else (some (o2.1, o2.2.1, o2.2.2, p1_clauses))
theorem hdS_X4_readClauses : yX4_readClauses.cls ≠ "java/lang/invoke/MethodHandle" ∧ yX4_readClauses.cls ≠ "java/lang/invoke/VarHandle" ∧ (parseMethodDescriptor yX4_readClauses.desc).map (fun d => d.parameters.length) = some 1 := by decide +kernel
theorem hdV_X4_readClauses : yX4_readClauses.cls = RX4 ∧ yX4_readClauses.cls ≠ "java/lang/invoke/MethodHandle" ∧ yX4_readClauses.cls ≠ "java/lang/invoke/VarHandle" ∧ (parseMethodDescriptor yX4_readClauses.desc).map (fun d => d.parameters.length) = some 1 := ⟨rfl, hdS_X4_readClauses⟩
set_option maxHeartbeats 4000000 in
set_option maxRecDepth 100000 in
theorem c_X4_readClauses (l : Launch) (D : va_G) (a : Nat → ClassId) (t : Nat) (q_t : Nat) (q_letters : Nat) (t_here : Int32) (t_faultNumber : Int32) (t_faultAt : Int32) (q_letters_items : Nat) (letters_count : Int32) (letters_items : Nat → Int32) (q_p1 : Nat) (p1_clauses : Int32) (p1_corners : Int32) (p1_hearers : Int32) (p1_firstColds : Int32) (q_p1_beers : Nat) (q_p1_firstPlaces : Nat) (q_p1_pinches : Nat) (q_p1_sayings : Nat) (o_t_here : Int32) (o_t_faultNumber : Int32) (o_t_faultAt : Int32) (o_p1_clauses : Int32) (hf : f_X4_readClauses t_here t_faultNumber t_faultAt letters_count letters_items p1_clauses = some (o_t_here, o_t_faultNumber, o_t_faultAt, o_p1_clauses)) : Kv l yX4_readClauses wsX4_readClauses 4 87 D a t [.ref q_t, .ref q_p1] [(q_t, .inr (4, [.ref q_letters, .int t_here, .int t_faultNumber, .int t_faultAt])), (q_letters, .inr (5, [.ref q_letters_items, .int letters_count])), (q_letters_items, .inl (a 0, 230, .inl letters_items)), (q_p1, .inr (7, [.int p1_clauses, .int p1_corners, .int p1_hearers, .int p1_firstColds, .ref q_p1_beers, .ref q_p1_firstPlaces, .ref q_p1_pinches, .ref q_p1_sayings]))] [(q_t, .inr (4, [.ref q_letters, .int o_t_here, .int o_t_faultNumber, .int o_t_faultAt])), (q_letters, .inr (5, [.ref q_letters_items, .int letters_count])), (q_letters_items, .inl (a 0, 230, .inl letters_items)), (q_p1, .inr (7, [.int o_p1_clauses, .int p1_corners, .int p1_hearers, .int p1_firstColds, .ref q_p1_beers, .ref q_p1_firstPlaces, .ref q_p1_pinches, .ref q_p1_sayings]))] := by
  refine Kv.mk (cc := cX4_readClauses) (nL := 3) (own := RX4) (by decide) rfl rfl (Nat.le_of_ble_eq_true rfl) ?_
  intro p e s m args below meth c A Q ls hX hP hD hS hl hret
  have hx := hX.1.1
  have hb := hX.1.2.1
  have hown := hX.1.2.2.2.1
  have hts := hX.1.2.2.2.2
  have hN := hX.2.2.1
  have hA := hX.2.2.2.2
  have hl : lv_has ls 3 [(0, .ref q_t), (1, .ref q_p1)] := hl
  have hk1 := hts (.fieldLink RX4 27 "GainsaidOnce$Reader" "faultNumber" "I") (List.mem_of_getElem? (i := 1) rfl)
  have hiX4 : ∀ w ∈ wsX40, w ∈ wsX4_readClauses := (fun _ h => List.mem_cons_of_mem _ (List.mem_append_left _ (List.mem_append_left _ (List.mem_append_right _ h))))
  have hiX7 : ∀ w ∈ wsX70, w ∈ wsX4_readClauses := (fun _ h => List.mem_cons_of_mem _ (List.mem_append_left _ (List.mem_append_right _ h)))
  unfold f_X4_readClauses at hf
  refine lv_aload_n hx hb dX4_readClauses_0 rfl (lv_at hl 0 rfl) ?_
  refine lv_iconst (v := (1 : Int32)) hx hb dX4_readClauses_1 (by decide) ?_
  refine lv_sipush (v := (255 : Int32)) hx hb dX4_readClauses_2 (by decide) ?_
  obtain ⟨o1, ho1, hf⟩ := o_bd hf
  refine call_iV (q0 := 0) (ci := 4) hX (c_X4_readNumber l D a t q_t q_letters t_here t_faultNumber t_faultAt q_letters_items letters_count letters_items (1 : Int32) (255 : Int32) o1.1 o1.2.1 o1.2.2.1 o1.2.2.2 ho1) (cwV 2 hts gX4_readClauses_X4_readNumber rfl rfl rfl hdV_X4_readNumber ⟨by decide, by decide⟩) (Cut.of hA hP hD hS [0, 1, 2] (by decide) rfl rfl (W' := [(q_t, .inr (4, [.ref q_letters, .int o1.2.1, .int o1.2.2.1, .int o1.2.2.2])), (q_letters, .inr (5, [.ref q_letters_items, .int letters_count])), (q_letters_items, .inl (a 0, 230, .inl letters_items)), (q_p1, .inr (7, [.int p1_clauses, .int p1_corners, .int p1_hearers, .int p1_firstColds, .ref q_p1_beers, .ref q_p1_firstPlaces, .ref q_p1_pinches, .ref q_p1_sayings]))]) rfl) hS rfl rfl rfl hl.1 rfl (Nat.le_of_ble_eq_true rfl) dX4_readClauses_5 (by decide) (fun H locs hP hD hS => ?_)
  have hP : va_P D vwCl [(q_t, .inr (4, [.ref q_letters, .int o1.2.1, .int o1.2.2.1, .int o1.2.2.2])), (q_letters, .inr (5, [.ref q_letters_items, .int letters_count])), (q_letters_items, .inl (a 0, 230, .inl letters_items)), (q_p1, .inr (7, [.int p1_clauses, .int p1_corners, .int p1_hearers, .int p1_firstColds, .ref q_p1_beers, .ref q_p1_firstPlaces, .ref q_p1_pinches, .ref q_p1_sayings]))] H := hP
  have hD : va_D A [(q_t, .inr (4, [.ref q_letters, .int o1.2.1, .int o1.2.2.1, .int o1.2.2.2])), (q_letters, .inr (5, [.ref q_letters_items, .int letters_count])), (q_letters_items, .inl (a 0, 230, .inl letters_items)), (q_p1, .inr (7, [.int p1_clauses, .int p1_corners, .int p1_hearers, .int p1_firstColds, .ref q_p1_beers, .ref q_p1_firstPlaces, .ref q_p1_pinches, .ref q_p1_sayings]))] := hD
  refine lv_istore_n (lv' := [(2, .int o1.1), (0, .ref q_t), (1, .ref q_p1)]) hx hb dX4_readClauses_8 rfl hl (by decide) rfl (fun ls hl => ?_)
  refine lv_aload_n hx hb dX4_readClauses_9 rfl (lv_at hl 1 rfl) ?_
  obtain ⟨o2, ho2, hf⟩ := o_bd hf
  refine call_vV (q0 := 0) (ci := 4) hX (c_X4_readEnd l D a t q_t q_letters o1.2.1 o1.2.2.1 o1.2.2.2 q_letters_items letters_count letters_items o2.1 o2.2.1 o2.2.2 ho2) (cwV 0 hts gX4_readClauses_X4_readEnd rfl rfl rfl hdV_X4_readEnd ⟨by decide, by decide⟩) (Cut.of hA hP hD hS [0, 1, 2] (by decide) rfl rfl (W' := [(q_t, .inr (4, [.ref q_letters, .int o2.1, .int o2.2.1, .int o2.2.2])), (q_letters, .inr (5, [.ref q_letters_items, .int letters_count])), (q_letters_items, .inl (a 0, 230, .inl letters_items)), (q_p1, .inr (7, [.int p1_clauses, .int p1_corners, .int p1_hearers, .int p1_firstColds, .ref q_p1_beers, .ref q_p1_firstPlaces, .ref q_p1_pinches, .ref q_p1_sayings]))]) rfl) hS rfl rfl rfl hl.1 rfl (Nat.le_of_ble_eq_true rfl) dX4_readClauses_10 (by decide) (fun H locs hP hD hS => ?_)
  have hP : va_P D vwCl [(q_t, .inr (4, [.ref q_letters, .int o2.1, .int o2.2.1, .int o2.2.2])), (q_letters, .inr (5, [.ref q_letters_items, .int letters_count])), (q_letters_items, .inl (a 0, 230, .inl letters_items)), (q_p1, .inr (7, [.int p1_clauses, .int p1_corners, .int p1_hearers, .int p1_firstColds, .ref q_p1_beers, .ref q_p1_firstPlaces, .ref q_p1_pinches, .ref q_p1_sayings]))] H := hP
  have hD : va_D A [(q_t, .inr (4, [.ref q_letters, .int o2.1, .int o2.2.1, .int o2.2.2])), (q_letters, .inr (5, [.ref q_letters_items, .int letters_count])), (q_letters_items, .inl (a 0, 230, .inl letters_items)), (q_p1, .inr (7, [.int p1_clauses, .int p1_corners, .int p1_hearers, .int p1_firstColds, .ref q_p1_beers, .ref q_p1_firstPlaces, .ref q_p1_pinches, .ref q_p1_sayings]))] := hD
  refine lv_aload_n hx hb dX4_readClauses_13 rfl (lv_at hl 1 rfl) ?_
  refine g_get hX hiX4 hP 0 rfl rfl 2 (by decide) hk1 rfl rfl dX4_readClauses_14 ?_
  refine lv_if_ne (tgt := 25) hx hb dX4_readClauses_17 (by decide) (fun c3 => ?_) (fun c3 => ?_)
  · have hf := o_ifn hf c3
    cases hf
    exact hret _ _ _ _ hP hD hS dX4_readClauses_25
  have hf := o_ifp hf c3
  refine lv_aload_n hx hb dX4_readClauses_20 rfl (lv_at hl 2 rfl) ?_
  refine lv_iload_n hx hb dX4_readClauses_21 rfl (lv_at hl 0 rfl) ?_
  refine g_putN hX hiX7 tyX7 tyX7_ok nmX7 hP hD hS 3 rfl rfl 0 (by decide) (nw_6 hN) rfl rfl rfl rfl (Nat.le_of_ble_eq_true rfl) dX4_readClauses_22 (fun H locs hP hD hS => ?_)
  have hP : va_P D vwCl [(q_t, .inr (4, [.ref q_letters, .int o2.1, .int o2.2.1, .int o2.2.2])), (q_letters, .inr (5, [.ref q_letters_items, .int letters_count])), (q_letters_items, .inl (a 0, 230, .inl letters_items)), (q_p1, .inr (7, [.int o1.1, .int p1_corners, .int p1_hearers, .int p1_firstColds, .ref q_p1_beers, .ref q_p1_firstPlaces, .ref q_p1_pinches, .ref q_p1_sayings]))] H := hP
  have hD : va_D A [(q_t, .inr (4, [.ref q_letters, .int o2.1, .int o2.2.1, .int o2.2.2])), (q_letters, .inr (5, [.ref q_letters_items, .int letters_count])), (q_letters_items, .inl (a 0, 230, .inl letters_items)), (q_p1, .inr (7, [.int o1.1, .int p1_corners, .int p1_hearers, .int p1_firstColds, .ref q_p1_beers, .ref q_p1_firstPlaces, .ref q_p1_pinches, .ref q_p1_sayings]))] := hD
  cases hf
  exact hret _ _ _ _ hP hD hS dX4_readClauses_25
def f_X4_readCorner_38  (t_here : Int32) (t_faultNumber : Int32) (t_faultAt : Int32) (p1_corners : Int32) (p1_firstColds : Int32) (p1_beers : (Nat → Int32)) (s0 : Int32) (s1 : Int32) : Option (Int32 × Int32 × Int32 × Int32 × Int32 × (Nat → Int32)) :=
  (f_X7_addCorner p1_corners p1_firstColds p1_beers s0 s1).bind fun o1 =>
  some (t_here, t_faultNumber, t_faultAt, o1.1, o1.2.1, o1.2.2)
def f_X4_readCorner (t_here : Int32) (t_faultNumber : Int32) (t_faultAt : Int32) (letters_count : Int32) (letters_items : Nat → Int32) (p1_corners : Int32) (p1_firstColds : Int32) (p1_beers : Nat → Int32) : Option (Int32 × Int32 × Int32 × Int32 × Int32 × (Nat → Int32)) :=
  (f_X4_readNumber t_here t_faultNumber t_faultAt letters_count letters_items (0 : Int32) (99 : Int32)).bind fun o2 =>
  (f_X4_readNumber o2.2.1 o2.2.2.1 o2.2.2.2 letters_count letters_items (0 : Int32) (1 : Int32)).bind fun o3 =>
  (f_X4_readEnd o3.2.1 o3.2.2.1 o3.2.2.2 letters_count letters_items).bind fun o4 =>
  if o4.2.1 = 0 then (if o3.1 = (1 : Int32) then (f_X4_readCorner_38 o4.1 o4.2.1 o4.2.2 p1_corners p1_firstColds p1_beers o2.1 (1 : Int32))
  else (f_X4_readCorner_38 o4.1 o4.2.1 o4.2.2 p1_corners p1_firstColds p1_beers o2.1 (0 : Int32)))
  else (some (o4.1, o4.2.1, o4.2.2, p1_corners, p1_firstColds, p1_beers))
theorem hdS_X4_readCorner : yX4_readCorner.cls ≠ "java/lang/invoke/MethodHandle" ∧ yX4_readCorner.cls ≠ "java/lang/invoke/VarHandle" ∧ (parseMethodDescriptor yX4_readCorner.desc).map (fun d => d.parameters.length) = some 1 := by decide +kernel
theorem hdV_X4_readCorner : yX4_readCorner.cls = RX4 ∧ yX4_readCorner.cls ≠ "java/lang/invoke/MethodHandle" ∧ yX4_readCorner.cls ≠ "java/lang/invoke/VarHandle" ∧ (parseMethodDescriptor yX4_readCorner.desc).map (fun d => d.parameters.length) = some 1 := ⟨rfl, hdS_X4_readCorner⟩
set_option maxHeartbeats 4000000 in
set_option maxRecDepth 100000 in
theorem c_X4_readCorner (l : Launch) (D : va_G) (a : Nat → ClassId) (t : Nat) (q_t : Nat) (q_letters : Nat) (t_here : Int32) (t_faultNumber : Int32) (t_faultAt : Int32) (q_letters_items : Nat) (letters_count : Int32) (letters_items : Nat → Int32) (q_p1 : Nat) (p1_clauses : Int32) (p1_corners : Int32) (p1_hearers : Int32) (p1_firstColds : Int32) (q_p1_beers : Nat) (q_p1_firstPlaces : Nat) (q_p1_pinches : Nat) (q_p1_sayings : Nat) (p1_beers : Nat → Int32) (o_t_here : Int32) (o_t_faultNumber : Int32) (o_t_faultAt : Int32) (o_p1_corners : Int32) (o_p1_firstColds : Int32) (o_p1_beers : Nat → Int32) (hf : f_X4_readCorner t_here t_faultNumber t_faultAt letters_count letters_items p1_corners p1_firstColds p1_beers = some (o_t_here, o_t_faultNumber, o_t_faultAt, o_p1_corners, o_p1_firstColds, o_p1_beers)) : Kv l yX4_readCorner wsX4_readCorner 4 87 D a t [.ref q_t, .ref q_p1] [(q_t, .inr (4, [.ref q_letters, .int t_here, .int t_faultNumber, .int t_faultAt])), (q_letters, .inr (5, [.ref q_letters_items, .int letters_count])), (q_letters_items, .inl (a 0, 230, .inl letters_items)), (q_p1, .inr (7, [.int p1_clauses, .int p1_corners, .int p1_hearers, .int p1_firstColds, .ref q_p1_beers, .ref q_p1_firstPlaces, .ref q_p1_pinches, .ref q_p1_sayings])), (q_p1_beers, .inl (a 0, 8, .inl p1_beers))] [(q_t, .inr (4, [.ref q_letters, .int o_t_here, .int o_t_faultNumber, .int o_t_faultAt])), (q_letters, .inr (5, [.ref q_letters_items, .int letters_count])), (q_letters_items, .inl (a 0, 230, .inl letters_items)), (q_p1, .inr (7, [.int p1_clauses, .int o_p1_corners, .int p1_hearers, .int o_p1_firstColds, .ref q_p1_beers, .ref q_p1_firstPlaces, .ref q_p1_pinches, .ref q_p1_sayings])), (q_p1_beers, .inl (a 0, 8, .inl o_p1_beers))] := by
  refine Kv.mk (cc := cX4_readCorner) (nL := 4) (own := RX4) (by decide) rfl rfl (Nat.le_of_ble_eq_true rfl) ?_
  intro p e s m args below meth c A Q ls hX hP hD hS hl hret
  have hx := hX.1.1
  have hb := hX.1.2.1
  have hown := hX.1.2.2.2.1
  have hts := hX.1.2.2.2.2
  have hN := hX.2.2.1
  have hA := hX.2.2.2.2
  have hl : lv_has ls 4 [(0, .ref q_t), (1, .ref q_p1)] := hl
  have hk1 := hts (.fieldLink RX4 27 "GainsaidOnce$Reader" "faultNumber" "I") (List.mem_of_getElem? (i := 1) rfl)
  have hiX4 : ∀ w ∈ wsX40, w ∈ wsX4_readCorner := (fun _ h => List.mem_cons_of_mem _ (List.mem_append_left _ (List.mem_append_left _ (List.mem_append_right _ h))))
  have L_38 : ∀ (t_here : Int32) (t_faultNumber : Int32) (t_faultAt : Int32) (p1_corners : Int32) (p1_firstColds : Int32) (p1_beers : (Nat → Int32)) (s0 : Int32) (s1 : Int32) (H : Heap) (locs : List Loc) (ls : Array Slot), f_X4_readCorner_38 t_here t_faultNumber t_faultAt p1_corners p1_firstColds p1_beers s0 s1 = some (o_t_here, o_t_faultNumber, o_t_faultAt, o_p1_corners, o_p1_firstColds, o_p1_beers) → va_P D vwCl [(q_t, .inr (4, [.ref q_letters, .int t_here, .int t_faultNumber, .int t_faultAt])), (q_letters, .inr (5, [.ref q_letters_items, .int letters_count])), (q_letters_items, .inl (a 0, 230, .inl letters_items)), (q_p1, .inr (7, [.int p1_clauses, .int p1_corners, .int p1_hearers, .int p1_firstColds, .ref q_p1_beers, .ref q_p1_firstPlaces, .ref q_p1_pinches, .ref q_p1_sayings])), (q_p1_beers, .inl (a 0, 8, .inl p1_beers))] H → va_D A [(q_t, .inr (4, [.ref q_letters, .int t_here, .int t_faultNumber, .int t_faultAt])), (q_letters, .inr (5, [.ref q_letters_items, .int letters_count])), (q_letters_items, .inl (a 0, 230, .inl letters_items)), (q_p1, .inr (7, [.int p1_clauses, .int p1_corners, .int p1_hearers, .int p1_firstColds, .ref q_p1_beers, .ref q_p1_firstPlaces, .ref q_p1_pinches, .ref q_p1_sayings])), (q_p1_beers, .inl (a 0, 8, .inl p1_beers))] → va_S A s.heap H locs → lv_has ls 4 [] → W p l e { frames := 4, cells := 0, slots := 0, locals := 87 } s m args below meth c H locs 0 0 Q (F0 m 38 ls [.int s1, .int s0, .ref q_p1]) := by
    intro t_here t_faultNumber t_faultAt p1_corners p1_firstColds p1_beers s0 s1 H locs ls hf hP hD hS hl
    unfold f_X4_readCorner_38 at hf
    obtain ⟨o1, ho1, hf⟩ := o_bd hf
    refine call_vV (q0 := 0) (ci := 7) hX (c_X7_addCorner l D a t q_p1 p1_clauses p1_corners p1_hearers p1_firstColds q_p1_beers q_p1_firstPlaces q_p1_pinches q_p1_sayings p1_beers s0 s1 o1.1 o1.2.1 o1.2.2 ho1) (cwV 2 hts gX4_readCorner_X7_addCorner rfl rfl rfl hdV_X7_addCorner ⟨by decide, by decide⟩) (Cut.of hA hP hD hS [3, 4] (by decide) rfl rfl (W' := [(q_t, .inr (4, [.ref q_letters, .int t_here, .int t_faultNumber, .int t_faultAt])), (q_letters, .inr (5, [.ref q_letters_items, .int letters_count])), (q_letters_items, .inl (a 0, 230, .inl letters_items)), (q_p1, .inr (7, [.int p1_clauses, .int o1.1, .int p1_hearers, .int o1.2.1, .ref q_p1_beers, .ref q_p1_firstPlaces, .ref q_p1_pinches, .ref q_p1_sayings])), (q_p1_beers, .inl (a 0, 8, .inl o1.2.2))]) rfl) hS rfl rfl rfl hl.1 rfl (Nat.le_of_ble_eq_true rfl) dX4_readCorner_38 (by decide) (fun H locs hP hD hS => ?_)
    have hP : va_P D vwCl [(q_t, .inr (4, [.ref q_letters, .int t_here, .int t_faultNumber, .int t_faultAt])), (q_letters, .inr (5, [.ref q_letters_items, .int letters_count])), (q_letters_items, .inl (a 0, 230, .inl letters_items)), (q_p1, .inr (7, [.int p1_clauses, .int o1.1, .int p1_hearers, .int o1.2.1, .ref q_p1_beers, .ref q_p1_firstPlaces, .ref q_p1_pinches, .ref q_p1_sayings])), (q_p1_beers, .inl (a 0, 8, .inl o1.2.2))] H := hP
    have hD : va_D A [(q_t, .inr (4, [.ref q_letters, .int t_here, .int t_faultNumber, .int t_faultAt])), (q_letters, .inr (5, [.ref q_letters_items, .int letters_count])), (q_letters_items, .inl (a 0, 230, .inl letters_items)), (q_p1, .inr (7, [.int p1_clauses, .int o1.1, .int p1_hearers, .int o1.2.1, .ref q_p1_beers, .ref q_p1_firstPlaces, .ref q_p1_pinches, .ref q_p1_sayings])), (q_p1_beers, .inl (a 0, 8, .inl o1.2.2))] := hD
    cases hf
    exact hret _ _ _ _ hP hD hS dX4_readCorner_41
  unfold f_X4_readCorner at hf
  refine lv_aload_n hx hb dX4_readCorner_0 rfl (lv_at hl 0 rfl) ?_
  refine lv_iconst (v := (0 : Int32)) hx hb dX4_readCorner_1 (by decide) ?_
  refine lv_bipush (v := (99 : Int32)) hx hb dX4_readCorner_2 (by decide) ?_
  obtain ⟨o2, ho2, hf⟩ := o_bd hf
  refine call_iV (q0 := 0) (ci := 4) hX (c_X4_readNumber l D a t q_t q_letters t_here t_faultNumber t_faultAt q_letters_items letters_count letters_items (0 : Int32) (99 : Int32) o2.1 o2.2.1 o2.2.2.1 o2.2.2.2 ho2) (cwV 2 hts gX4_readCorner_X4_readNumber rfl rfl rfl hdV_X4_readNumber ⟨by decide, by decide⟩) (Cut.of hA hP hD hS [0, 1, 2] (by decide) rfl rfl (W' := [(q_t, .inr (4, [.ref q_letters, .int o2.2.1, .int o2.2.2.1, .int o2.2.2.2])), (q_letters, .inr (5, [.ref q_letters_items, .int letters_count])), (q_letters_items, .inl (a 0, 230, .inl letters_items)), (q_p1, .inr (7, [.int p1_clauses, .int p1_corners, .int p1_hearers, .int p1_firstColds, .ref q_p1_beers, .ref q_p1_firstPlaces, .ref q_p1_pinches, .ref q_p1_sayings])), (q_p1_beers, .inl (a 0, 8, .inl p1_beers))]) rfl) hS rfl rfl rfl hl.1 rfl (Nat.le_of_ble_eq_true rfl) dX4_readCorner_4 (by decide) (fun H locs hP hD hS => ?_)
  have hP : va_P D vwCl [(q_t, .inr (4, [.ref q_letters, .int o2.2.1, .int o2.2.2.1, .int o2.2.2.2])), (q_letters, .inr (5, [.ref q_letters_items, .int letters_count])), (q_letters_items, .inl (a 0, 230, .inl letters_items)), (q_p1, .inr (7, [.int p1_clauses, .int p1_corners, .int p1_hearers, .int p1_firstColds, .ref q_p1_beers, .ref q_p1_firstPlaces, .ref q_p1_pinches, .ref q_p1_sayings])), (q_p1_beers, .inl (a 0, 8, .inl p1_beers))] H := hP
  have hD : va_D A [(q_t, .inr (4, [.ref q_letters, .int o2.2.1, .int o2.2.2.1, .int o2.2.2.2])), (q_letters, .inr (5, [.ref q_letters_items, .int letters_count])), (q_letters_items, .inl (a 0, 230, .inl letters_items)), (q_p1, .inr (7, [.int p1_clauses, .int p1_corners, .int p1_hearers, .int p1_firstColds, .ref q_p1_beers, .ref q_p1_firstPlaces, .ref q_p1_pinches, .ref q_p1_sayings])), (q_p1_beers, .inl (a 0, 8, .inl p1_beers))] := hD
  refine lv_istore_n (lv' := [(2, .int o2.1), (0, .ref q_t), (1, .ref q_p1)]) hx hb dX4_readCorner_7 rfl hl (by decide) rfl (fun ls hl => ?_)
  refine lv_aload_n hx hb dX4_readCorner_8 rfl (lv_at hl 1 rfl) ?_
  refine lv_iconst (v := (0 : Int32)) hx hb dX4_readCorner_9 (by decide) ?_
  refine lv_iconst (v := (1 : Int32)) hx hb dX4_readCorner_10 (by decide) ?_
  obtain ⟨o3, ho3, hf⟩ := o_bd hf
  refine call_iV (q0 := 0) (ci := 4) hX (c_X4_readNumber l D a t q_t q_letters o2.2.1 o2.2.2.1 o2.2.2.2 q_letters_items letters_count letters_items (0 : Int32) (1 : Int32) o3.1 o3.2.1 o3.2.2.1 o3.2.2.2 ho3) (cwV 2 hts gX4_readCorner_X4_readNumber rfl rfl rfl hdV_X4_readNumber ⟨by decide, by decide⟩) (Cut.of hA hP hD hS [0, 1, 2] (by decide) rfl rfl (W' := [(q_t, .inr (4, [.ref q_letters, .int o3.2.1, .int o3.2.2.1, .int o3.2.2.2])), (q_letters, .inr (5, [.ref q_letters_items, .int letters_count])), (q_letters_items, .inl (a 0, 230, .inl letters_items)), (q_p1, .inr (7, [.int p1_clauses, .int p1_corners, .int p1_hearers, .int p1_firstColds, .ref q_p1_beers, .ref q_p1_firstPlaces, .ref q_p1_pinches, .ref q_p1_sayings])), (q_p1_beers, .inl (a 0, 8, .inl p1_beers))]) rfl) hS rfl rfl rfl hl.1 rfl (Nat.le_of_ble_eq_true rfl) dX4_readCorner_11 (by decide) (fun H locs hP hD hS => ?_)
  have hP : va_P D vwCl [(q_t, .inr (4, [.ref q_letters, .int o3.2.1, .int o3.2.2.1, .int o3.2.2.2])), (q_letters, .inr (5, [.ref q_letters_items, .int letters_count])), (q_letters_items, .inl (a 0, 230, .inl letters_items)), (q_p1, .inr (7, [.int p1_clauses, .int p1_corners, .int p1_hearers, .int p1_firstColds, .ref q_p1_beers, .ref q_p1_firstPlaces, .ref q_p1_pinches, .ref q_p1_sayings])), (q_p1_beers, .inl (a 0, 8, .inl p1_beers))] H := hP
  have hD : va_D A [(q_t, .inr (4, [.ref q_letters, .int o3.2.1, .int o3.2.2.1, .int o3.2.2.2])), (q_letters, .inr (5, [.ref q_letters_items, .int letters_count])), (q_letters_items, .inl (a 0, 230, .inl letters_items)), (q_p1, .inr (7, [.int p1_clauses, .int p1_corners, .int p1_hearers, .int p1_firstColds, .ref q_p1_beers, .ref q_p1_firstPlaces, .ref q_p1_pinches, .ref q_p1_sayings])), (q_p1_beers, .inl (a 0, 8, .inl p1_beers))] := hD
  refine lv_istore_n (lv' := [(3, .int o3.1), (2, .int o2.1), (0, .ref q_t), (1, .ref q_p1)]) hx hb dX4_readCorner_14 rfl hl (by decide) rfl (fun ls hl => ?_)
  refine lv_aload_n hx hb dX4_readCorner_15 rfl (lv_at hl 2 rfl) ?_
  obtain ⟨o4, ho4, hf⟩ := o_bd hf
  refine call_vV (q0 := 0) (ci := 4) hX (c_X4_readEnd l D a t q_t q_letters o3.2.1 o3.2.2.1 o3.2.2.2 q_letters_items letters_count letters_items o4.1 o4.2.1 o4.2.2 ho4) (cwV 0 hts gX4_readCorner_X4_readEnd rfl rfl rfl hdV_X4_readEnd ⟨by decide, by decide⟩) (Cut.of hA hP hD hS [0, 1, 2] (by decide) rfl rfl (W' := [(q_t, .inr (4, [.ref q_letters, .int o4.1, .int o4.2.1, .int o4.2.2])), (q_letters, .inr (5, [.ref q_letters_items, .int letters_count])), (q_letters_items, .inl (a 0, 230, .inl letters_items)), (q_p1, .inr (7, [.int p1_clauses, .int p1_corners, .int p1_hearers, .int p1_firstColds, .ref q_p1_beers, .ref q_p1_firstPlaces, .ref q_p1_pinches, .ref q_p1_sayings])), (q_p1_beers, .inl (a 0, 8, .inl p1_beers))]) rfl) hS rfl rfl rfl hl.1 rfl (Nat.le_of_ble_eq_true rfl) dX4_readCorner_16 (by decide) (fun H locs hP hD hS => ?_)
  have hP : va_P D vwCl [(q_t, .inr (4, [.ref q_letters, .int o4.1, .int o4.2.1, .int o4.2.2])), (q_letters, .inr (5, [.ref q_letters_items, .int letters_count])), (q_letters_items, .inl (a 0, 230, .inl letters_items)), (q_p1, .inr (7, [.int p1_clauses, .int p1_corners, .int p1_hearers, .int p1_firstColds, .ref q_p1_beers, .ref q_p1_firstPlaces, .ref q_p1_pinches, .ref q_p1_sayings])), (q_p1_beers, .inl (a 0, 8, .inl p1_beers))] H := hP
  have hD : va_D A [(q_t, .inr (4, [.ref q_letters, .int o4.1, .int o4.2.1, .int o4.2.2])), (q_letters, .inr (5, [.ref q_letters_items, .int letters_count])), (q_letters_items, .inl (a 0, 230, .inl letters_items)), (q_p1, .inr (7, [.int p1_clauses, .int p1_corners, .int p1_hearers, .int p1_firstColds, .ref q_p1_beers, .ref q_p1_firstPlaces, .ref q_p1_pinches, .ref q_p1_sayings])), (q_p1_beers, .inl (a 0, 8, .inl p1_beers))] := hD
  refine lv_aload_n hx hb dX4_readCorner_19 rfl (lv_at hl 2 rfl) ?_
  refine g_get hX hiX4 hP 0 rfl rfl 2 (by decide) hk1 rfl rfl dX4_readCorner_20 ?_
  refine lv_if_ne (tgt := 41) hx hb dX4_readCorner_23 (by decide) (fun c5 => ?_) (fun c5 => ?_)
  · have hf := o_ifn hf c5
    cases hf
    exact hret _ _ _ _ hP hD hS dX4_readCorner_41
  have hf := o_ifp hf c5
  refine lv_aload_n hx hb dX4_readCorner_26 rfl (lv_at hl 3 rfl) ?_
  refine lv_iload_n hx hb dX4_readCorner_27 rfl (lv_at hl 1 rfl) ?_
  refine lv_iload_n hx hb dX4_readCorner_28 rfl (lv_at hl 0 rfl) ?_
  refine lv_iconst (v := (1 : Int32)) hx hb dX4_readCorner_29 (by decide) ?_
  refine lv_icmp_ne (tgt := 37) hx hb dX4_readCorner_30 (by decide) (fun c6 => ?_) (fun c6 => ?_)
  · have hf := o_ifn hf c6
    refine lv_iconst (v := (0 : Int32)) hx hb dX4_readCorner_37 (by decide) ?_
    exact L_38 o4.1 o4.2.1 o4.2.2 p1_corners p1_firstColds p1_beers o2.1 (0 : Int32) _ _ _ hf hP hD hS (lv_sub hl [] rfl)
  have hf := o_ifp hf c6
  refine lv_iconst (v := (1 : Int32)) hx hb dX4_readCorner_33 (by decide) ?_
  refine lv_goto (tgt := 38) hx hb dX4_readCorner_34 (by decide) ?_
  exact L_38 o4.1 o4.2.1 o4.2.2 p1_corners p1_firstColds p1_beers o2.1 (1 : Int32) _ _ _ hf hP hD hS (lv_sub hl [] rfl)
def f_X4_readHearer (t_here : Int32) (t_faultNumber : Int32) (t_faultAt : Int32) (letters_count : Int32) (letters_items : Nat → Int32) (p1_corners : Int32) (p1_hearers : Int32) (p1_firstPlaces : Nat → Int32) (p1_pinches : Nat → Int32) (p1_sayings : Nat → Int32) : Option (Int32 × Int32 × Int32 × Int32 × (Nat → Int32) × (Nat → Int32) × (Nat → Int32)) :=
  (f_X4_readNumber t_here t_faultNumber t_faultAt letters_count letters_items (0 : Int32) (p1_corners - (1 : Int32))).bind fun o1 =>
  (f_X4_readNumber o1.2.1 o1.2.2.1 o1.2.2.2 letters_count letters_items (0 : Int32) (255 : Int32)).bind fun o2 =>
  (f_X4_readNumber o2.2.1 o2.2.2.1 o2.2.2.2 letters_count letters_items (0 : Int32) (8 : Int32)).bind fun o3 =>
  (f_X4_readEnd o3.2.1 o3.2.2.1 o3.2.2.2 letters_count letters_items).bind fun o4 =>
  if o4.2.1 = 0 then ((f_X7_addHearer p1_hearers p1_firstPlaces p1_pinches p1_sayings o1.1 o2.1 o3.1).bind fun o6 =>
  some (o4.1, o4.2.1, o4.2.2, o6.1, o6.2.1, o6.2.2.1, o6.2.2.2))
  else (some (o4.1, o4.2.1, o4.2.2, p1_hearers, p1_firstPlaces, p1_pinches, p1_sayings))
theorem hdS_X4_readHearer : yX4_readHearer.cls ≠ "java/lang/invoke/MethodHandle" ∧ yX4_readHearer.cls ≠ "java/lang/invoke/VarHandle" ∧ (parseMethodDescriptor yX4_readHearer.desc).map (fun d => d.parameters.length) = some 1 := by decide +kernel
theorem hdV_X4_readHearer : yX4_readHearer.cls = RX4 ∧ yX4_readHearer.cls ≠ "java/lang/invoke/MethodHandle" ∧ yX4_readHearer.cls ≠ "java/lang/invoke/VarHandle" ∧ (parseMethodDescriptor yX4_readHearer.desc).map (fun d => d.parameters.length) = some 1 := ⟨rfl, hdS_X4_readHearer⟩
set_option maxHeartbeats 4000000 in
set_option maxRecDepth 100000 in
theorem c_X4_readHearer (l : Launch) (D : va_G) (a : Nat → ClassId) (t : Nat) (q_t : Nat) (q_letters : Nat) (t_here : Int32) (t_faultNumber : Int32) (t_faultAt : Int32) (q_letters_items : Nat) (letters_count : Int32) (letters_items : Nat → Int32) (q_p1 : Nat) (p1_clauses : Int32) (p1_corners : Int32) (p1_hearers : Int32) (p1_firstColds : Int32) (q_p1_beers : Nat) (q_p1_firstPlaces : Nat) (q_p1_pinches : Nat) (q_p1_sayings : Nat) (p1_firstPlaces : Nat → Int32) (p1_pinches : Nat → Int32) (p1_sayings : Nat → Int32) (o_t_here : Int32) (o_t_faultNumber : Int32) (o_t_faultAt : Int32) (o_p1_hearers : Int32) (o_p1_firstPlaces : Nat → Int32) (o_p1_pinches : Nat → Int32) (o_p1_sayings : Nat → Int32) (hf : f_X4_readHearer t_here t_faultNumber t_faultAt letters_count letters_items p1_corners p1_hearers p1_firstPlaces p1_pinches p1_sayings = some (o_t_here, o_t_faultNumber, o_t_faultAt, o_p1_hearers, o_p1_firstPlaces, o_p1_pinches, o_p1_sayings)) : Kv l yX4_readHearer wsX4_readHearer 4 87 D a t [.ref q_t, .ref q_p1] [(q_t, .inr (4, [.ref q_letters, .int t_here, .int t_faultNumber, .int t_faultAt])), (q_letters, .inr (5, [.ref q_letters_items, .int letters_count])), (q_letters_items, .inl (a 0, 230, .inl letters_items)), (q_p1, .inr (7, [.int p1_clauses, .int p1_corners, .int p1_hearers, .int p1_firstColds, .ref q_p1_beers, .ref q_p1_firstPlaces, .ref q_p1_pinches, .ref q_p1_sayings])), (q_p1_firstPlaces, .inl (a 0, 9, .inl p1_firstPlaces)), (q_p1_pinches, .inl (a 0, 9, .inl p1_pinches)), (q_p1_sayings, .inl (a 0, 9, .inl p1_sayings))] [(q_t, .inr (4, [.ref q_letters, .int o_t_here, .int o_t_faultNumber, .int o_t_faultAt])), (q_letters, .inr (5, [.ref q_letters_items, .int letters_count])), (q_letters_items, .inl (a 0, 230, .inl letters_items)), (q_p1, .inr (7, [.int p1_clauses, .int p1_corners, .int o_p1_hearers, .int p1_firstColds, .ref q_p1_beers, .ref q_p1_firstPlaces, .ref q_p1_pinches, .ref q_p1_sayings])), (q_p1_firstPlaces, .inl (a 0, 9, .inl o_p1_firstPlaces)), (q_p1_pinches, .inl (a 0, 9, .inl o_p1_pinches)), (q_p1_sayings, .inl (a 0, 9, .inl o_p1_sayings))] := by
  refine Kv.mk (cc := cX4_readHearer) (nL := 5) (own := RX4) (by decide) rfl rfl (Nat.le_of_ble_eq_true rfl) ?_
  intro p e s m args below meth c A Q ls hX hP hD hS hl hret
  have hx := hX.1.1
  have hb := hX.1.2.1
  have hown := hX.1.2.2.2.1
  have hts := hX.1.2.2.2.2
  have hN := hX.2.2.1
  have hA := hX.2.2.2.2
  have hl : lv_has ls 5 [(0, .ref q_t), (1, .ref q_p1)] := hl
  have hk1 := hts (.fieldLink RX4 27 "GainsaidOnce$Reader" "faultNumber" "I") (List.mem_of_getElem? (i := 1) rfl)
  have hiX7 : ∀ w ∈ wsX70, w ∈ wsX4_readHearer := (fun _ h => List.mem_cons_of_mem _ (List.mem_append_left _ (List.mem_append_left _ (List.mem_append_right _ h))))
  have hiX4 : ∀ w ∈ wsX40, w ∈ wsX4_readHearer := (fun _ h => List.mem_cons_of_mem _ (List.mem_append_left _ (List.mem_append_right _ h)))
  unfold f_X4_readHearer at hf
  refine lv_aload_n hx hb dX4_readHearer_0 rfl (lv_at hl 0 rfl) ?_
  refine lv_iconst (v := (0 : Int32)) hx hb dX4_readHearer_1 (by decide) ?_
  refine lv_aload_n hx hb dX4_readHearer_2 rfl (lv_at hl 1 rfl) ?_
  refine g_getN hX hiX7 hP 3 rfl rfl 1 (by decide) (nw_12 hN) rfl rfl dX4_readHearer_3 ?_
  refine lv_iconst (v := (1 : Int32)) hx hb dX4_readHearer_6 (by decide) ?_
  refine lv_isub hx hb dX4_readHearer_7 ?_
  obtain ⟨o1, ho1, hf⟩ := o_bd hf
  refine call_iV (q0 := 0) (ci := 4) hX (c_X4_readNumber l D a t q_t q_letters t_here t_faultNumber t_faultAt q_letters_items letters_count letters_items (0 : Int32) (p1_corners - (1 : Int32)) o1.1 o1.2.1 o1.2.2.1 o1.2.2.2 ho1) (cwV 2 hts gX4_readHearer_X4_readNumber rfl rfl rfl hdV_X4_readNumber ⟨by decide, by decide⟩) (Cut.of hA hP hD hS [0, 1, 2] (by decide) rfl rfl (W' := [(q_t, .inr (4, [.ref q_letters, .int o1.2.1, .int o1.2.2.1, .int o1.2.2.2])), (q_letters, .inr (5, [.ref q_letters_items, .int letters_count])), (q_letters_items, .inl (a 0, 230, .inl letters_items)), (q_p1, .inr (7, [.int p1_clauses, .int p1_corners, .int p1_hearers, .int p1_firstColds, .ref q_p1_beers, .ref q_p1_firstPlaces, .ref q_p1_pinches, .ref q_p1_sayings])), (q_p1_firstPlaces, .inl (a 0, 9, .inl p1_firstPlaces)), (q_p1_pinches, .inl (a 0, 9, .inl p1_pinches)), (q_p1_sayings, .inl (a 0, 9, .inl p1_sayings))]) rfl) hS rfl rfl rfl hl.1 rfl (Nat.le_of_ble_eq_true rfl) dX4_readHearer_8 (by decide) (fun H locs hP hD hS => ?_)
  have hP : va_P D vwCl [(q_t, .inr (4, [.ref q_letters, .int o1.2.1, .int o1.2.2.1, .int o1.2.2.2])), (q_letters, .inr (5, [.ref q_letters_items, .int letters_count])), (q_letters_items, .inl (a 0, 230, .inl letters_items)), (q_p1, .inr (7, [.int p1_clauses, .int p1_corners, .int p1_hearers, .int p1_firstColds, .ref q_p1_beers, .ref q_p1_firstPlaces, .ref q_p1_pinches, .ref q_p1_sayings])), (q_p1_firstPlaces, .inl (a 0, 9, .inl p1_firstPlaces)), (q_p1_pinches, .inl (a 0, 9, .inl p1_pinches)), (q_p1_sayings, .inl (a 0, 9, .inl p1_sayings))] H := hP
  have hD : va_D A [(q_t, .inr (4, [.ref q_letters, .int o1.2.1, .int o1.2.2.1, .int o1.2.2.2])), (q_letters, .inr (5, [.ref q_letters_items, .int letters_count])), (q_letters_items, .inl (a 0, 230, .inl letters_items)), (q_p1, .inr (7, [.int p1_clauses, .int p1_corners, .int p1_hearers, .int p1_firstColds, .ref q_p1_beers, .ref q_p1_firstPlaces, .ref q_p1_pinches, .ref q_p1_sayings])), (q_p1_firstPlaces, .inl (a 0, 9, .inl p1_firstPlaces)), (q_p1_pinches, .inl (a 0, 9, .inl p1_pinches)), (q_p1_sayings, .inl (a 0, 9, .inl p1_sayings))] := hD
  refine lv_istore_n (lv' := [(2, .int o1.1), (0, .ref q_t), (1, .ref q_p1)]) hx hb dX4_readHearer_11 rfl hl (by decide) rfl (fun ls hl => ?_)
  refine lv_aload_n hx hb dX4_readHearer_12 rfl (lv_at hl 1 rfl) ?_
  refine lv_iconst (v := (0 : Int32)) hx hb dX4_readHearer_13 (by decide) ?_
  refine lv_sipush (v := (255 : Int32)) hx hb dX4_readHearer_14 (by decide) ?_
  obtain ⟨o2, ho2, hf⟩ := o_bd hf
  refine call_iV (q0 := 0) (ci := 4) hX (c_X4_readNumber l D a t q_t q_letters o1.2.1 o1.2.2.1 o1.2.2.2 q_letters_items letters_count letters_items (0 : Int32) (255 : Int32) o2.1 o2.2.1 o2.2.2.1 o2.2.2.2 ho2) (cwV 2 hts gX4_readHearer_X4_readNumber rfl rfl rfl hdV_X4_readNumber ⟨by decide, by decide⟩) (Cut.of hA hP hD hS [0, 1, 2] (by decide) rfl rfl (W' := [(q_t, .inr (4, [.ref q_letters, .int o2.2.1, .int o2.2.2.1, .int o2.2.2.2])), (q_letters, .inr (5, [.ref q_letters_items, .int letters_count])), (q_letters_items, .inl (a 0, 230, .inl letters_items)), (q_p1, .inr (7, [.int p1_clauses, .int p1_corners, .int p1_hearers, .int p1_firstColds, .ref q_p1_beers, .ref q_p1_firstPlaces, .ref q_p1_pinches, .ref q_p1_sayings])), (q_p1_firstPlaces, .inl (a 0, 9, .inl p1_firstPlaces)), (q_p1_pinches, .inl (a 0, 9, .inl p1_pinches)), (q_p1_sayings, .inl (a 0, 9, .inl p1_sayings))]) rfl) hS rfl rfl rfl hl.1 rfl (Nat.le_of_ble_eq_true rfl) dX4_readHearer_17 (by decide) (fun H locs hP hD hS => ?_)
  have hP : va_P D vwCl [(q_t, .inr (4, [.ref q_letters, .int o2.2.1, .int o2.2.2.1, .int o2.2.2.2])), (q_letters, .inr (5, [.ref q_letters_items, .int letters_count])), (q_letters_items, .inl (a 0, 230, .inl letters_items)), (q_p1, .inr (7, [.int p1_clauses, .int p1_corners, .int p1_hearers, .int p1_firstColds, .ref q_p1_beers, .ref q_p1_firstPlaces, .ref q_p1_pinches, .ref q_p1_sayings])), (q_p1_firstPlaces, .inl (a 0, 9, .inl p1_firstPlaces)), (q_p1_pinches, .inl (a 0, 9, .inl p1_pinches)), (q_p1_sayings, .inl (a 0, 9, .inl p1_sayings))] H := hP
  have hD : va_D A [(q_t, .inr (4, [.ref q_letters, .int o2.2.1, .int o2.2.2.1, .int o2.2.2.2])), (q_letters, .inr (5, [.ref q_letters_items, .int letters_count])), (q_letters_items, .inl (a 0, 230, .inl letters_items)), (q_p1, .inr (7, [.int p1_clauses, .int p1_corners, .int p1_hearers, .int p1_firstColds, .ref q_p1_beers, .ref q_p1_firstPlaces, .ref q_p1_pinches, .ref q_p1_sayings])), (q_p1_firstPlaces, .inl (a 0, 9, .inl p1_firstPlaces)), (q_p1_pinches, .inl (a 0, 9, .inl p1_pinches)), (q_p1_sayings, .inl (a 0, 9, .inl p1_sayings))] := hD
  refine lv_istore_n (lv' := [(3, .int o2.1), (2, .int o1.1), (0, .ref q_t), (1, .ref q_p1)]) hx hb dX4_readHearer_20 rfl hl (by decide) rfl (fun ls hl => ?_)
  refine lv_aload_n hx hb dX4_readHearer_21 rfl (lv_at hl 2 rfl) ?_
  refine lv_iconst (v := (0 : Int32)) hx hb dX4_readHearer_22 (by decide) ?_
  refine lv_bipush (v := (8 : Int32)) hx hb dX4_readHearer_23 (by decide) ?_
  obtain ⟨o3, ho3, hf⟩ := o_bd hf
  refine call_iV (q0 := 0) (ci := 4) hX (c_X4_readNumber l D a t q_t q_letters o2.2.1 o2.2.2.1 o2.2.2.2 q_letters_items letters_count letters_items (0 : Int32) (8 : Int32) o3.1 o3.2.1 o3.2.2.1 o3.2.2.2 ho3) (cwV 2 hts gX4_readHearer_X4_readNumber rfl rfl rfl hdV_X4_readNumber ⟨by decide, by decide⟩) (Cut.of hA hP hD hS [0, 1, 2] (by decide) rfl rfl (W' := [(q_t, .inr (4, [.ref q_letters, .int o3.2.1, .int o3.2.2.1, .int o3.2.2.2])), (q_letters, .inr (5, [.ref q_letters_items, .int letters_count])), (q_letters_items, .inl (a 0, 230, .inl letters_items)), (q_p1, .inr (7, [.int p1_clauses, .int p1_corners, .int p1_hearers, .int p1_firstColds, .ref q_p1_beers, .ref q_p1_firstPlaces, .ref q_p1_pinches, .ref q_p1_sayings])), (q_p1_firstPlaces, .inl (a 0, 9, .inl p1_firstPlaces)), (q_p1_pinches, .inl (a 0, 9, .inl p1_pinches)), (q_p1_sayings, .inl (a 0, 9, .inl p1_sayings))]) rfl) hS rfl rfl rfl hl.1 rfl (Nat.le_of_ble_eq_true rfl) dX4_readHearer_25 (by decide) (fun H locs hP hD hS => ?_)
  have hP : va_P D vwCl [(q_t, .inr (4, [.ref q_letters, .int o3.2.1, .int o3.2.2.1, .int o3.2.2.2])), (q_letters, .inr (5, [.ref q_letters_items, .int letters_count])), (q_letters_items, .inl (a 0, 230, .inl letters_items)), (q_p1, .inr (7, [.int p1_clauses, .int p1_corners, .int p1_hearers, .int p1_firstColds, .ref q_p1_beers, .ref q_p1_firstPlaces, .ref q_p1_pinches, .ref q_p1_sayings])), (q_p1_firstPlaces, .inl (a 0, 9, .inl p1_firstPlaces)), (q_p1_pinches, .inl (a 0, 9, .inl p1_pinches)), (q_p1_sayings, .inl (a 0, 9, .inl p1_sayings))] H := hP
  have hD : va_D A [(q_t, .inr (4, [.ref q_letters, .int o3.2.1, .int o3.2.2.1, .int o3.2.2.2])), (q_letters, .inr (5, [.ref q_letters_items, .int letters_count])), (q_letters_items, .inl (a 0, 230, .inl letters_items)), (q_p1, .inr (7, [.int p1_clauses, .int p1_corners, .int p1_hearers, .int p1_firstColds, .ref q_p1_beers, .ref q_p1_firstPlaces, .ref q_p1_pinches, .ref q_p1_sayings])), (q_p1_firstPlaces, .inl (a 0, 9, .inl p1_firstPlaces)), (q_p1_pinches, .inl (a 0, 9, .inl p1_pinches)), (q_p1_sayings, .inl (a 0, 9, .inl p1_sayings))] := hD
  refine lv_istore (lv' := [(4, .int o3.1), (3, .int o2.1), (2, .int o1.1), (0, .ref q_t), (1, .ref q_p1)]) hx hb dX4_readHearer_28 hl (by decide) rfl (fun ls hl => ?_)
  refine lv_aload_n hx hb dX4_readHearer_30 rfl (lv_at hl 3 rfl) ?_
  obtain ⟨o4, ho4, hf⟩ := o_bd hf
  refine call_vV (q0 := 0) (ci := 4) hX (c_X4_readEnd l D a t q_t q_letters o3.2.1 o3.2.2.1 o3.2.2.2 q_letters_items letters_count letters_items o4.1 o4.2.1 o4.2.2 ho4) (cwV 0 hts gX4_readHearer_X4_readEnd rfl rfl rfl hdV_X4_readEnd ⟨by decide, by decide⟩) (Cut.of hA hP hD hS [0, 1, 2] (by decide) rfl rfl (W' := [(q_t, .inr (4, [.ref q_letters, .int o4.1, .int o4.2.1, .int o4.2.2])), (q_letters, .inr (5, [.ref q_letters_items, .int letters_count])), (q_letters_items, .inl (a 0, 230, .inl letters_items)), (q_p1, .inr (7, [.int p1_clauses, .int p1_corners, .int p1_hearers, .int p1_firstColds, .ref q_p1_beers, .ref q_p1_firstPlaces, .ref q_p1_pinches, .ref q_p1_sayings])), (q_p1_firstPlaces, .inl (a 0, 9, .inl p1_firstPlaces)), (q_p1_pinches, .inl (a 0, 9, .inl p1_pinches)), (q_p1_sayings, .inl (a 0, 9, .inl p1_sayings))]) rfl) hS rfl rfl rfl hl.1 rfl (Nat.le_of_ble_eq_true rfl) dX4_readHearer_31 (by decide) (fun H locs hP hD hS => ?_)
  have hP : va_P D vwCl [(q_t, .inr (4, [.ref q_letters, .int o4.1, .int o4.2.1, .int o4.2.2])), (q_letters, .inr (5, [.ref q_letters_items, .int letters_count])), (q_letters_items, .inl (a 0, 230, .inl letters_items)), (q_p1, .inr (7, [.int p1_clauses, .int p1_corners, .int p1_hearers, .int p1_firstColds, .ref q_p1_beers, .ref q_p1_firstPlaces, .ref q_p1_pinches, .ref q_p1_sayings])), (q_p1_firstPlaces, .inl (a 0, 9, .inl p1_firstPlaces)), (q_p1_pinches, .inl (a 0, 9, .inl p1_pinches)), (q_p1_sayings, .inl (a 0, 9, .inl p1_sayings))] H := hP
  have hD : va_D A [(q_t, .inr (4, [.ref q_letters, .int o4.1, .int o4.2.1, .int o4.2.2])), (q_letters, .inr (5, [.ref q_letters_items, .int letters_count])), (q_letters_items, .inl (a 0, 230, .inl letters_items)), (q_p1, .inr (7, [.int p1_clauses, .int p1_corners, .int p1_hearers, .int p1_firstColds, .ref q_p1_beers, .ref q_p1_firstPlaces, .ref q_p1_pinches, .ref q_p1_sayings])), (q_p1_firstPlaces, .inl (a 0, 9, .inl p1_firstPlaces)), (q_p1_pinches, .inl (a 0, 9, .inl p1_pinches)), (q_p1_sayings, .inl (a 0, 9, .inl p1_sayings))] := hD
  refine lv_aload_n hx hb dX4_readHearer_34 rfl (lv_at hl 3 rfl) ?_
  refine g_get hX hiX4 hP 0 rfl rfl 2 (by decide) hk1 rfl rfl dX4_readHearer_35 ?_
  refine lv_if_ne (tgt := 49) hx hb dX4_readHearer_38 (by decide) (fun c5 => ?_) (fun c5 => ?_)
  · have hf := o_ifn hf c5
    cases hf
    exact hret _ _ _ _ hP hD hS dX4_readHearer_49
  have hf := o_ifp hf c5
  refine lv_aload_n hx hb dX4_readHearer_41 rfl (lv_at hl 4 rfl) ?_
  refine lv_iload_n hx hb dX4_readHearer_42 rfl (lv_at hl 2 rfl) ?_
  refine lv_iload_n hx hb dX4_readHearer_43 rfl (lv_at hl 1 rfl) ?_
  refine lv_iload hx hb dX4_readHearer_44 (lv_at hl 0 rfl) ?_
  obtain ⟨o6, ho6, hf⟩ := o_bd hf
  refine call_vV (q0 := 0) (ci := 7) hX (c_X7_addHearer l D a t q_p1 p1_clauses p1_corners p1_hearers p1_firstColds q_p1_beers q_p1_firstPlaces q_p1_pinches q_p1_sayings p1_firstPlaces p1_pinches p1_sayings o1.1 o2.1 o3.1 o6.1 o6.2.1 o6.2.2.1 o6.2.2.2 ho6) (cwV 3 hts gX4_readHearer_X7_addHearer rfl rfl rfl hdV_X7_addHearer ⟨by decide, by decide⟩) (Cut.of hA hP hD hS [3, 4, 5, 6] (by decide) rfl rfl (W' := [(q_t, .inr (4, [.ref q_letters, .int o4.1, .int o4.2.1, .int o4.2.2])), (q_letters, .inr (5, [.ref q_letters_items, .int letters_count])), (q_letters_items, .inl (a 0, 230, .inl letters_items)), (q_p1, .inr (7, [.int p1_clauses, .int p1_corners, .int o6.1, .int p1_firstColds, .ref q_p1_beers, .ref q_p1_firstPlaces, .ref q_p1_pinches, .ref q_p1_sayings])), (q_p1_firstPlaces, .inl (a 0, 9, .inl o6.2.1)), (q_p1_pinches, .inl (a 0, 9, .inl o6.2.2.1)), (q_p1_sayings, .inl (a 0, 9, .inl o6.2.2.2))]) rfl) hS rfl rfl rfl hl.1 rfl (Nat.le_of_ble_eq_true rfl) dX4_readHearer_46 (by decide) (fun H locs hP hD hS => ?_)
  have hP : va_P D vwCl [(q_t, .inr (4, [.ref q_letters, .int o4.1, .int o4.2.1, .int o4.2.2])), (q_letters, .inr (5, [.ref q_letters_items, .int letters_count])), (q_letters_items, .inl (a 0, 230, .inl letters_items)), (q_p1, .inr (7, [.int p1_clauses, .int p1_corners, .int o6.1, .int p1_firstColds, .ref q_p1_beers, .ref q_p1_firstPlaces, .ref q_p1_pinches, .ref q_p1_sayings])), (q_p1_firstPlaces, .inl (a 0, 9, .inl o6.2.1)), (q_p1_pinches, .inl (a 0, 9, .inl o6.2.2.1)), (q_p1_sayings, .inl (a 0, 9, .inl o6.2.2.2))] H := hP
  have hD : va_D A [(q_t, .inr (4, [.ref q_letters, .int o4.1, .int o4.2.1, .int o4.2.2])), (q_letters, .inr (5, [.ref q_letters_items, .int letters_count])), (q_letters_items, .inl (a 0, 230, .inl letters_items)), (q_p1, .inr (7, [.int p1_clauses, .int p1_corners, .int o6.1, .int p1_firstColds, .ref q_p1_beers, .ref q_p1_firstPlaces, .ref q_p1_pinches, .ref q_p1_sayings])), (q_p1_firstPlaces, .inl (a 0, 9, .inl o6.2.1)), (q_p1_pinches, .inl (a 0, 9, .inl o6.2.2.1)), (q_p1_sayings, .inl (a 0, 9, .inl o6.2.2.2))] := hD
  cases hf
  exact hret _ _ _ _ hP hD hS dX4_readHearer_49
def f_X4_readClause (t_here : Int32) (t_faultNumber : Int32) (t_faultAt : Int32) (letters_count : Int32) (letters_items : Nat → Int32) (p1_clauses : Int32) (p1_corners : Int32) (p1_hearers : Int32) (p1_firstColds : Int32) (p1_beers : Nat → Int32) (p1_firstPlaces : Nat → Int32) (p1_pinches : Nat → Int32) (p1_sayings : Nat → Int32) : Option (Int32 × Int32 × Int32 × Int32 × Int32 × Int32 × Int32 × (Nat → Int32) × (Nat → Int32) × (Nat → Int32) × (Nat → Int32)) :=
  (f_X4_letterHere t_here letters_count letters_items).bind fun o1 =>
  (f_X4_wordFault p1_clauses p1_corners p1_hearers o1).bind fun o2 =>
  if o2 = 0 then (o_nm ((t_here + (1 : Int32))) fun v4 =>
  if o1 = (116 : Int32) then ((f_X4_readClauses v4 t_faultNumber t_faultAt letters_count letters_items p1_clauses).bind fun o9 =>
  some (o9.1, o9.2.1, o9.2.2.1, o9.2.2.2, p1_corners, p1_hearers, p1_firstColds, p1_beers, p1_firstPlaces, p1_pinches, p1_sayings))
  else (if o1 = (99 : Int32) then ((f_X4_readCorner v4 t_faultNumber t_faultAt letters_count letters_items p1_corners p1_firstColds p1_beers).bind fun o8 =>
  some (o8.1, o8.2.1, o8.2.2.1, p1_clauses, o8.2.2.2.1, p1_hearers, o8.2.2.2.2.1, o8.2.2.2.2.2, p1_firstPlaces, p1_pinches, p1_sayings))
  else ((f_X4_readHearer v4 t_faultNumber t_faultAt letters_count letters_items p1_corners p1_hearers p1_firstPlaces p1_pinches p1_sayings).bind fun o7 =>
  some (o7.1, o7.2.1, o7.2.2.1, p1_clauses, p1_corners, o7.2.2.2.1, p1_firstColds, p1_beers, o7.2.2.2.2.1, o7.2.2.2.2.2.1, o7.2.2.2.2.2.2))))
  else ((f_X4_blame t_faultNumber t_faultAt o2 t_here).bind fun o10 =>
  some (t_here, o10.1, o10.2, p1_clauses, p1_corners, p1_hearers, p1_firstColds, p1_beers, p1_firstPlaces, p1_pinches, p1_sayings))
theorem hdS_X4_readClause : yX4_readClause.cls ≠ "java/lang/invoke/MethodHandle" ∧ yX4_readClause.cls ≠ "java/lang/invoke/VarHandle" ∧ (parseMethodDescriptor yX4_readClause.desc).map (fun d => d.parameters.length) = some 1 := by decide +kernel
theorem hdV_X4_readClause : yX4_readClause.cls = RX4 ∧ yX4_readClause.cls ≠ "java/lang/invoke/MethodHandle" ∧ yX4_readClause.cls ≠ "java/lang/invoke/VarHandle" ∧ (parseMethodDescriptor yX4_readClause.desc).map (fun d => d.parameters.length) = some 1 := ⟨rfl, hdS_X4_readClause⟩
set_option maxHeartbeats 4000000 in
set_option maxRecDepth 100000 in
theorem c_X4_readClause (l : Launch) (D : va_G) (a : Nat → ClassId) (t : Nat) (q_t : Nat) (q_letters : Nat) (t_here : Int32) (t_faultNumber : Int32) (t_faultAt : Int32) (q_letters_items : Nat) (letters_count : Int32) (letters_items : Nat → Int32) (q_p1 : Nat) (p1_clauses : Int32) (p1_corners : Int32) (p1_hearers : Int32) (p1_firstColds : Int32) (q_p1_beers : Nat) (q_p1_firstPlaces : Nat) (q_p1_pinches : Nat) (q_p1_sayings : Nat) (p1_beers : Nat → Int32) (p1_firstPlaces : Nat → Int32) (p1_pinches : Nat → Int32) (p1_sayings : Nat → Int32) (o_t_here : Int32) (o_t_faultNumber : Int32) (o_t_faultAt : Int32) (o_p1_clauses : Int32) (o_p1_corners : Int32) (o_p1_hearers : Int32) (o_p1_firstColds : Int32) (o_p1_beers : Nat → Int32) (o_p1_firstPlaces : Nat → Int32) (o_p1_pinches : Nat → Int32) (o_p1_sayings : Nat → Int32) (hf : f_X4_readClause t_here t_faultNumber t_faultAt letters_count letters_items p1_clauses p1_corners p1_hearers p1_firstColds p1_beers p1_firstPlaces p1_pinches p1_sayings = some (o_t_here, o_t_faultNumber, o_t_faultAt, o_p1_clauses, o_p1_corners, o_p1_hearers, o_p1_firstColds, o_p1_beers, o_p1_firstPlaces, o_p1_pinches, o_p1_sayings)) : Kv l yX4_readClause wsX4_readClause 5 111 D a t [.ref q_t, .ref q_p1] [(q_t, .inr (4, [.ref q_letters, .int t_here, .int t_faultNumber, .int t_faultAt])), (q_letters, .inr (5, [.ref q_letters_items, .int letters_count])), (q_letters_items, .inl (a 0, 230, .inl letters_items)), (q_p1, .inr (7, [.int p1_clauses, .int p1_corners, .int p1_hearers, .int p1_firstColds, .ref q_p1_beers, .ref q_p1_firstPlaces, .ref q_p1_pinches, .ref q_p1_sayings])), (q_p1_beers, .inl (a 0, 8, .inl p1_beers)), (q_p1_firstPlaces, .inl (a 0, 9, .inl p1_firstPlaces)), (q_p1_pinches, .inl (a 0, 9, .inl p1_pinches)), (q_p1_sayings, .inl (a 0, 9, .inl p1_sayings))] [(q_t, .inr (4, [.ref q_letters, .int o_t_here, .int o_t_faultNumber, .int o_t_faultAt])), (q_letters, .inr (5, [.ref q_letters_items, .int letters_count])), (q_letters_items, .inl (a 0, 230, .inl letters_items)), (q_p1, .inr (7, [.int o_p1_clauses, .int o_p1_corners, .int o_p1_hearers, .int o_p1_firstColds, .ref q_p1_beers, .ref q_p1_firstPlaces, .ref q_p1_pinches, .ref q_p1_sayings])), (q_p1_beers, .inl (a 0, 8, .inl o_p1_beers)), (q_p1_firstPlaces, .inl (a 0, 9, .inl o_p1_firstPlaces)), (q_p1_pinches, .inl (a 0, 9, .inl o_p1_pinches)), (q_p1_sayings, .inl (a 0, 9, .inl o_p1_sayings))] := by
  refine Kv.mk (cc := cX4_readClause) (nL := 4) (own := RX4) (by decide) rfl rfl (Nat.le_of_ble_eq_true rfl) ?_
  intro p e s m args below meth c A Q ls hX hP hD hS hl hret
  have hx := hX.1.1
  have hb := hX.1.2.1
  have hown := hX.1.2.2.2.1
  have hts := hX.1.2.2.2.2
  have hN := hX.2.2.1
  have hA := hX.2.2.2.2
  have hl : lv_has ls 4 [(0, .ref q_t), (1, .ref q_p1)] := hl
  have hk1 := hts (.fieldLink RX4 24 "GainsaidOnce$Reader" "here" "I") (List.mem_of_getElem? (i := 1) rfl)
  have hiX4 : ∀ w ∈ wsX40, w ∈ wsX4_readClause := (fun _ h => List.mem_cons_of_mem _ (List.mem_append_left _ (List.mem_append_left _ (List.mem_append_right _ h))))
  unfold f_X4_readClause at hf
  refine lv_aload_n hx hb dX4_readClause_0 rfl (lv_at hl 0 rfl) ?_
  obtain ⟨o1, ho1, hf⟩ := o_bd hf
  refine call_iV (q0 := 0) (ci := 4) hX (c_X4_letterHere l D a t q_t q_letters t_here t_faultNumber t_faultAt q_letters_items letters_count letters_items o1 ho1) (cwV 0 hts gX4_readClause_X4_letterHere rfl rfl rfl hdV_X4_letterHere ⟨by decide, by decide⟩) (Cut.of hA hP hD hS [0, 1, 2] (by decide) rfl rfl (W' := [(q_t, .inr (4, [.ref q_letters, .int t_here, .int t_faultNumber, .int t_faultAt])), (q_letters, .inr (5, [.ref q_letters_items, .int letters_count])), (q_letters_items, .inl (a 0, 230, .inl letters_items)), (q_p1, .inr (7, [.int p1_clauses, .int p1_corners, .int p1_hearers, .int p1_firstColds, .ref q_p1_beers, .ref q_p1_firstPlaces, .ref q_p1_pinches, .ref q_p1_sayings])), (q_p1_beers, .inl (a 0, 8, .inl p1_beers)), (q_p1_firstPlaces, .inl (a 0, 9, .inl p1_firstPlaces)), (q_p1_pinches, .inl (a 0, 9, .inl p1_pinches)), (q_p1_sayings, .inl (a 0, 9, .inl p1_sayings))]) rfl) hS rfl rfl rfl hl.1 rfl (Nat.le_of_ble_eq_true rfl) dX4_readClause_1 (by decide) (fun H locs hP hD hS => ?_)
  have hP : va_P D vwCl [(q_t, .inr (4, [.ref q_letters, .int t_here, .int t_faultNumber, .int t_faultAt])), (q_letters, .inr (5, [.ref q_letters_items, .int letters_count])), (q_letters_items, .inl (a 0, 230, .inl letters_items)), (q_p1, .inr (7, [.int p1_clauses, .int p1_corners, .int p1_hearers, .int p1_firstColds, .ref q_p1_beers, .ref q_p1_firstPlaces, .ref q_p1_pinches, .ref q_p1_sayings])), (q_p1_beers, .inl (a 0, 8, .inl p1_beers)), (q_p1_firstPlaces, .inl (a 0, 9, .inl p1_firstPlaces)), (q_p1_pinches, .inl (a 0, 9, .inl p1_pinches)), (q_p1_sayings, .inl (a 0, 9, .inl p1_sayings))] H := hP
  have hD : va_D A [(q_t, .inr (4, [.ref q_letters, .int t_here, .int t_faultNumber, .int t_faultAt])), (q_letters, .inr (5, [.ref q_letters_items, .int letters_count])), (q_letters_items, .inl (a 0, 230, .inl letters_items)), (q_p1, .inr (7, [.int p1_clauses, .int p1_corners, .int p1_hearers, .int p1_firstColds, .ref q_p1_beers, .ref q_p1_firstPlaces, .ref q_p1_pinches, .ref q_p1_sayings])), (q_p1_beers, .inl (a 0, 8, .inl p1_beers)), (q_p1_firstPlaces, .inl (a 0, 9, .inl p1_firstPlaces)), (q_p1_pinches, .inl (a 0, 9, .inl p1_pinches)), (q_p1_sayings, .inl (a 0, 9, .inl p1_sayings))] := hD
  refine lv_istore_n (lv' := [(2, .int o1), (0, .ref q_t), (1, .ref q_p1)]) hx hb dX4_readClause_4 rfl hl (by decide) rfl (fun ls hl => ?_)
  refine lv_aload_n hx hb dX4_readClause_5 rfl (lv_at hl 2 rfl) ?_
  refine lv_iload_n hx hb dX4_readClause_6 rfl (lv_at hl 0 rfl) ?_
  obtain ⟨o2, ho2, hf⟩ := o_bd hf
  refine call_iS hX (c_X4_wordFault l D a t q_p1 p1_clauses p1_corners p1_hearers p1_firstColds q_p1_beers q_p1_firstPlaces q_p1_pinches q_p1_sayings o1 o2 ho2) (va_cwS 2 hts gX4_readClause_X4_wordFault rfl rfl rfl hdS_X4_wordFault ⟨by decide, by decide⟩) (Cut.of hA hP hD hS [3] (by decide) rfl rfl (W' := [(q_t, .inr (4, [.ref q_letters, .int t_here, .int t_faultNumber, .int t_faultAt])), (q_letters, .inr (5, [.ref q_letters_items, .int letters_count])), (q_letters_items, .inl (a 0, 230, .inl letters_items)), (q_p1, .inr (7, [.int p1_clauses, .int p1_corners, .int p1_hearers, .int p1_firstColds, .ref q_p1_beers, .ref q_p1_firstPlaces, .ref q_p1_pinches, .ref q_p1_sayings])), (q_p1_beers, .inl (a 0, 8, .inl p1_beers)), (q_p1_firstPlaces, .inl (a 0, 9, .inl p1_firstPlaces)), (q_p1_pinches, .inl (a 0, 9, .inl p1_pinches)), (q_p1_sayings, .inl (a 0, 9, .inl p1_sayings))]) rfl) hS rfl hl.1 rfl (Nat.le_of_ble_eq_true rfl) dX4_readClause_7 (by decide) (fun H locs hP hD hS => ?_)
  have hP : va_P D vwCl [(q_t, .inr (4, [.ref q_letters, .int t_here, .int t_faultNumber, .int t_faultAt])), (q_letters, .inr (5, [.ref q_letters_items, .int letters_count])), (q_letters_items, .inl (a 0, 230, .inl letters_items)), (q_p1, .inr (7, [.int p1_clauses, .int p1_corners, .int p1_hearers, .int p1_firstColds, .ref q_p1_beers, .ref q_p1_firstPlaces, .ref q_p1_pinches, .ref q_p1_sayings])), (q_p1_beers, .inl (a 0, 8, .inl p1_beers)), (q_p1_firstPlaces, .inl (a 0, 9, .inl p1_firstPlaces)), (q_p1_pinches, .inl (a 0, 9, .inl p1_pinches)), (q_p1_sayings, .inl (a 0, 9, .inl p1_sayings))] H := hP
  have hD : va_D A [(q_t, .inr (4, [.ref q_letters, .int t_here, .int t_faultNumber, .int t_faultAt])), (q_letters, .inr (5, [.ref q_letters_items, .int letters_count])), (q_letters_items, .inl (a 0, 230, .inl letters_items)), (q_p1, .inr (7, [.int p1_clauses, .int p1_corners, .int p1_hearers, .int p1_firstColds, .ref q_p1_beers, .ref q_p1_firstPlaces, .ref q_p1_pinches, .ref q_p1_sayings])), (q_p1_beers, .inl (a 0, 8, .inl p1_beers)), (q_p1_firstPlaces, .inl (a 0, 9, .inl p1_firstPlaces)), (q_p1_pinches, .inl (a 0, 9, .inl p1_pinches)), (q_p1_sayings, .inl (a 0, 9, .inl p1_sayings))] := hD
  refine lv_istore_n (lv' := [(3, .int o2), (2, .int o1), (0, .ref q_t), (1, .ref q_p1)]) hx hb dX4_readClause_10 rfl hl (by decide) rfl (fun ls hl => ?_)
  refine lv_iload_n hx hb dX4_readClause_11 rfl (lv_at hl 0 rfl) ?_
  refine lv_if_eq (tgt := 25) hx hb dX4_readClause_12 (by decide) (fun c3 => ?_) (fun c3 => ?_)
  · have hf := o_ifp hf c3
    refine lv_aload_n hx hb dX4_readClause_25 rfl (lv_at hl 2 rfl) ?_
    refine lv_dup hx hb dX4_readClause_26 rfl ?_
    refine g_get hX hiX4 hP 0 rfl rfl 1 (by decide) hk1 rfl rfl dX4_readClause_27 ?_
    refine lv_iconst (v := (1 : Int32)) hx hb dX4_readClause_30 (by decide) ?_
    refine lv_iadd hx hb dX4_readClause_31 ?_
    refine lv_topi (fun v4 ev4 => ?_)
    have hf := o_nmh hf v4 ev4
    refine g_put hX hiX4 tyX4 tyX4_ok nmX4 hP hD hS 0 rfl rfl 1 (by decide) hk1 rfl rfl rfl rfl (Nat.le_of_ble_eq_true rfl) dX4_readClause_32 (fun H locs hP hD hS => ?_)
    have hP : va_P D vwCl [(q_t, .inr (4, [.ref q_letters, .int v4, .int t_faultNumber, .int t_faultAt])), (q_letters, .inr (5, [.ref q_letters_items, .int letters_count])), (q_letters_items, .inl (a 0, 230, .inl letters_items)), (q_p1, .inr (7, [.int p1_clauses, .int p1_corners, .int p1_hearers, .int p1_firstColds, .ref q_p1_beers, .ref q_p1_firstPlaces, .ref q_p1_pinches, .ref q_p1_sayings])), (q_p1_beers, .inl (a 0, 8, .inl p1_beers)), (q_p1_firstPlaces, .inl (a 0, 9, .inl p1_firstPlaces)), (q_p1_pinches, .inl (a 0, 9, .inl p1_pinches)), (q_p1_sayings, .inl (a 0, 9, .inl p1_sayings))] H := hP
    have hD : va_D A [(q_t, .inr (4, [.ref q_letters, .int v4, .int t_faultNumber, .int t_faultAt])), (q_letters, .inr (5, [.ref q_letters_items, .int letters_count])), (q_letters_items, .inl (a 0, 230, .inl letters_items)), (q_p1, .inr (7, [.int p1_clauses, .int p1_corners, .int p1_hearers, .int p1_firstColds, .ref q_p1_beers, .ref q_p1_firstPlaces, .ref q_p1_pinches, .ref q_p1_sayings])), (q_p1_beers, .inl (a 0, 8, .inl p1_beers)), (q_p1_firstPlaces, .inl (a 0, 9, .inl p1_firstPlaces)), (q_p1_pinches, .inl (a 0, 9, .inl p1_pinches)), (q_p1_sayings, .inl (a 0, 9, .inl p1_sayings))] := hD
    refine lv_iload_n hx hb dX4_readClause_35 rfl (lv_at hl 1 rfl) ?_
    refine lv_bipush (v := (116 : Int32)) hx hb dX4_readClause_36 (by decide) ?_
    refine lv_icmp_ne (tgt := 49) hx hb dX4_readClause_38 (by decide) (fun c5 => ?_) (fun c5 => ?_)
    · have hf := o_ifn hf c5
      refine lv_iload_n hx hb dX4_readClause_49 rfl (lv_at hl 1 rfl) ?_
      refine lv_bipush (v := (99 : Int32)) hx hb dX4_readClause_50 (by decide) ?_
      refine lv_icmp_ne (tgt := 63) hx hb dX4_readClause_52 (by decide) (fun c6 => ?_) (fun c6 => ?_)
      · have hf := o_ifn hf c6
        refine lv_aload_n hx hb dX4_readClause_63 rfl (lv_at hl 2 rfl) ?_
        refine lv_aload_n hx hb dX4_readClause_64 rfl (lv_at hl 3 rfl) ?_
        obtain ⟨o7, ho7, hf⟩ := o_bd hf
        refine call_vV (q0 := 0) (ci := 4) hX (c_X4_readHearer l D a t q_t q_letters v4 t_faultNumber t_faultAt q_letters_items letters_count letters_items q_p1 p1_clauses p1_corners p1_hearers p1_firstColds q_p1_beers q_p1_firstPlaces q_p1_pinches q_p1_sayings p1_firstPlaces p1_pinches p1_sayings o7.1 o7.2.1 o7.2.2.1 o7.2.2.2.1 o7.2.2.2.2.1 o7.2.2.2.2.2.1 o7.2.2.2.2.2.2 ho7) (cwV 1 hts gX4_readClause_X4_readHearer rfl rfl rfl hdV_X4_readHearer ⟨by decide, by decide⟩) (Cut.of hA hP hD hS [0, 1, 2, 3, 5, 6, 7] (by decide) rfl rfl (W' := [(q_t, .inr (4, [.ref q_letters, .int o7.1, .int o7.2.1, .int o7.2.2.1])), (q_letters, .inr (5, [.ref q_letters_items, .int letters_count])), (q_letters_items, .inl (a 0, 230, .inl letters_items)), (q_p1, .inr (7, [.int p1_clauses, .int p1_corners, .int o7.2.2.2.1, .int p1_firstColds, .ref q_p1_beers, .ref q_p1_firstPlaces, .ref q_p1_pinches, .ref q_p1_sayings])), (q_p1_beers, .inl (a 0, 8, .inl p1_beers)), (q_p1_firstPlaces, .inl (a 0, 9, .inl o7.2.2.2.2.1)), (q_p1_pinches, .inl (a 0, 9, .inl o7.2.2.2.2.2.1)), (q_p1_sayings, .inl (a 0, 9, .inl o7.2.2.2.2.2.2))]) rfl) hS rfl rfl rfl hl.1 rfl (Nat.le_of_ble_eq_true rfl) dX4_readClause_65 (by decide) (fun H locs hP hD hS => ?_)
        have hP : va_P D vwCl [(q_t, .inr (4, [.ref q_letters, .int o7.1, .int o7.2.1, .int o7.2.2.1])), (q_letters, .inr (5, [.ref q_letters_items, .int letters_count])), (q_letters_items, .inl (a 0, 230, .inl letters_items)), (q_p1, .inr (7, [.int p1_clauses, .int p1_corners, .int o7.2.2.2.1, .int p1_firstColds, .ref q_p1_beers, .ref q_p1_firstPlaces, .ref q_p1_pinches, .ref q_p1_sayings])), (q_p1_beers, .inl (a 0, 8, .inl p1_beers)), (q_p1_firstPlaces, .inl (a 0, 9, .inl o7.2.2.2.2.1)), (q_p1_pinches, .inl (a 0, 9, .inl o7.2.2.2.2.2.1)), (q_p1_sayings, .inl (a 0, 9, .inl o7.2.2.2.2.2.2))] H := hP
        have hD : va_D A [(q_t, .inr (4, [.ref q_letters, .int o7.1, .int o7.2.1, .int o7.2.2.1])), (q_letters, .inr (5, [.ref q_letters_items, .int letters_count])), (q_letters_items, .inl (a 0, 230, .inl letters_items)), (q_p1, .inr (7, [.int p1_clauses, .int p1_corners, .int o7.2.2.2.1, .int p1_firstColds, .ref q_p1_beers, .ref q_p1_firstPlaces, .ref q_p1_pinches, .ref q_p1_sayings])), (q_p1_beers, .inl (a 0, 8, .inl p1_beers)), (q_p1_firstPlaces, .inl (a 0, 9, .inl o7.2.2.2.2.1)), (q_p1_pinches, .inl (a 0, 9, .inl o7.2.2.2.2.2.1)), (q_p1_sayings, .inl (a 0, 9, .inl o7.2.2.2.2.2.2))] := hD
        cases hf
        exact hret _ _ _ _ hP hD hS dX4_readClause_68
      have hf := o_ifp hf c6
      refine lv_aload_n hx hb dX4_readClause_55 rfl (lv_at hl 2 rfl) ?_
      refine lv_aload_n hx hb dX4_readClause_56 rfl (lv_at hl 3 rfl) ?_
      obtain ⟨o8, ho8, hf⟩ := o_bd hf
      refine call_vV (q0 := 0) (ci := 4) hX (c_X4_readCorner l D a t q_t q_letters v4 t_faultNumber t_faultAt q_letters_items letters_count letters_items q_p1 p1_clauses p1_corners p1_hearers p1_firstColds q_p1_beers q_p1_firstPlaces q_p1_pinches q_p1_sayings p1_beers o8.1 o8.2.1 o8.2.2.1 o8.2.2.2.1 o8.2.2.2.2.1 o8.2.2.2.2.2 ho8) (cwV 1 hts gX4_readClause_X4_readCorner rfl rfl rfl hdV_X4_readCorner ⟨by decide, by decide⟩) (Cut.of hA hP hD hS [0, 1, 2, 3, 4] (by decide) rfl rfl (W' := [(q_t, .inr (4, [.ref q_letters, .int o8.1, .int o8.2.1, .int o8.2.2.1])), (q_letters, .inr (5, [.ref q_letters_items, .int letters_count])), (q_letters_items, .inl (a 0, 230, .inl letters_items)), (q_p1, .inr (7, [.int p1_clauses, .int o8.2.2.2.1, .int p1_hearers, .int o8.2.2.2.2.1, .ref q_p1_beers, .ref q_p1_firstPlaces, .ref q_p1_pinches, .ref q_p1_sayings])), (q_p1_beers, .inl (a 0, 8, .inl o8.2.2.2.2.2)), (q_p1_firstPlaces, .inl (a 0, 9, .inl p1_firstPlaces)), (q_p1_pinches, .inl (a 0, 9, .inl p1_pinches)), (q_p1_sayings, .inl (a 0, 9, .inl p1_sayings))]) rfl) hS rfl rfl rfl hl.1 rfl (Nat.le_of_ble_eq_true rfl) dX4_readClause_57 (by decide) (fun H locs hP hD hS => ?_)
      have hP : va_P D vwCl [(q_t, .inr (4, [.ref q_letters, .int o8.1, .int o8.2.1, .int o8.2.2.1])), (q_letters, .inr (5, [.ref q_letters_items, .int letters_count])), (q_letters_items, .inl (a 0, 230, .inl letters_items)), (q_p1, .inr (7, [.int p1_clauses, .int o8.2.2.2.1, .int p1_hearers, .int o8.2.2.2.2.1, .ref q_p1_beers, .ref q_p1_firstPlaces, .ref q_p1_pinches, .ref q_p1_sayings])), (q_p1_beers, .inl (a 0, 8, .inl o8.2.2.2.2.2)), (q_p1_firstPlaces, .inl (a 0, 9, .inl p1_firstPlaces)), (q_p1_pinches, .inl (a 0, 9, .inl p1_pinches)), (q_p1_sayings, .inl (a 0, 9, .inl p1_sayings))] H := hP
      have hD : va_D A [(q_t, .inr (4, [.ref q_letters, .int o8.1, .int o8.2.1, .int o8.2.2.1])), (q_letters, .inr (5, [.ref q_letters_items, .int letters_count])), (q_letters_items, .inl (a 0, 230, .inl letters_items)), (q_p1, .inr (7, [.int p1_clauses, .int o8.2.2.2.1, .int p1_hearers, .int o8.2.2.2.2.1, .ref q_p1_beers, .ref q_p1_firstPlaces, .ref q_p1_pinches, .ref q_p1_sayings])), (q_p1_beers, .inl (a 0, 8, .inl o8.2.2.2.2.2)), (q_p1_firstPlaces, .inl (a 0, 9, .inl p1_firstPlaces)), (q_p1_pinches, .inl (a 0, 9, .inl p1_pinches)), (q_p1_sayings, .inl (a 0, 9, .inl p1_sayings))] := hD
      refine lv_goto (tgt := 68) hx hb dX4_readClause_60 (by decide) ?_
      cases hf
      exact hret _ _ _ _ hP hD hS dX4_readClause_68
    have hf := o_ifp hf c5
    refine lv_aload_n hx hb dX4_readClause_41 rfl (lv_at hl 2 rfl) ?_
    refine lv_aload_n hx hb dX4_readClause_42 rfl (lv_at hl 3 rfl) ?_
    obtain ⟨o9, ho9, hf⟩ := o_bd hf
    refine call_vV (q0 := 0) (ci := 4) hX (c_X4_readClauses l D a t q_t q_letters v4 t_faultNumber t_faultAt q_letters_items letters_count letters_items q_p1 p1_clauses p1_corners p1_hearers p1_firstColds q_p1_beers q_p1_firstPlaces q_p1_pinches q_p1_sayings o9.1 o9.2.1 o9.2.2.1 o9.2.2.2 ho9) (cwV 1 hts gX4_readClause_X4_readClauses rfl rfl rfl hdV_X4_readClauses ⟨by decide, by decide⟩) (Cut.of hA hP hD hS [0, 1, 2, 3] (by decide) rfl rfl (W' := [(q_t, .inr (4, [.ref q_letters, .int o9.1, .int o9.2.1, .int o9.2.2.1])), (q_letters, .inr (5, [.ref q_letters_items, .int letters_count])), (q_letters_items, .inl (a 0, 230, .inl letters_items)), (q_p1, .inr (7, [.int o9.2.2.2, .int p1_corners, .int p1_hearers, .int p1_firstColds, .ref q_p1_beers, .ref q_p1_firstPlaces, .ref q_p1_pinches, .ref q_p1_sayings])), (q_p1_beers, .inl (a 0, 8, .inl p1_beers)), (q_p1_firstPlaces, .inl (a 0, 9, .inl p1_firstPlaces)), (q_p1_pinches, .inl (a 0, 9, .inl p1_pinches)), (q_p1_sayings, .inl (a 0, 9, .inl p1_sayings))]) rfl) hS rfl rfl rfl hl.1 rfl (Nat.le_of_ble_eq_true rfl) dX4_readClause_43 (by decide) (fun H locs hP hD hS => ?_)
    have hP : va_P D vwCl [(q_t, .inr (4, [.ref q_letters, .int o9.1, .int o9.2.1, .int o9.2.2.1])), (q_letters, .inr (5, [.ref q_letters_items, .int letters_count])), (q_letters_items, .inl (a 0, 230, .inl letters_items)), (q_p1, .inr (7, [.int o9.2.2.2, .int p1_corners, .int p1_hearers, .int p1_firstColds, .ref q_p1_beers, .ref q_p1_firstPlaces, .ref q_p1_pinches, .ref q_p1_sayings])), (q_p1_beers, .inl (a 0, 8, .inl p1_beers)), (q_p1_firstPlaces, .inl (a 0, 9, .inl p1_firstPlaces)), (q_p1_pinches, .inl (a 0, 9, .inl p1_pinches)), (q_p1_sayings, .inl (a 0, 9, .inl p1_sayings))] H := hP
    have hD : va_D A [(q_t, .inr (4, [.ref q_letters, .int o9.1, .int o9.2.1, .int o9.2.2.1])), (q_letters, .inr (5, [.ref q_letters_items, .int letters_count])), (q_letters_items, .inl (a 0, 230, .inl letters_items)), (q_p1, .inr (7, [.int o9.2.2.2, .int p1_corners, .int p1_hearers, .int p1_firstColds, .ref q_p1_beers, .ref q_p1_firstPlaces, .ref q_p1_pinches, .ref q_p1_sayings])), (q_p1_beers, .inl (a 0, 8, .inl p1_beers)), (q_p1_firstPlaces, .inl (a 0, 9, .inl p1_firstPlaces)), (q_p1_pinches, .inl (a 0, 9, .inl p1_pinches)), (q_p1_sayings, .inl (a 0, 9, .inl p1_sayings))] := hD
    refine lv_goto (tgt := 68) hx hb dX4_readClause_46 (by decide) ?_
    cases hf
    exact hret _ _ _ _ hP hD hS dX4_readClause_68
  have hf := o_ifn hf c3
  refine lv_aload_n hx hb dX4_readClause_15 rfl (lv_at hl 2 rfl) ?_
  refine lv_iload_n hx hb dX4_readClause_16 rfl (lv_at hl 0 rfl) ?_
  refine lv_aload_n hx hb dX4_readClause_17 rfl (lv_at hl 2 rfl) ?_
  refine g_get hX hiX4 hP 0 rfl rfl 1 (by decide) hk1 rfl rfl dX4_readClause_18 ?_
  obtain ⟨o10, ho10, hf⟩ := o_bd hf
  refine call_vV (q0 := 0) (ci := 4) hX (c_X4_blame l D a t q_t q_letters t_here t_faultNumber t_faultAt o2 t_here o10.1 o10.2 ho10) (cwV 2 hts gX4_readClause_X4_blame rfl rfl rfl hdV_X4_blame ⟨by decide, by decide⟩) (Cut.of hA hP hD hS [0] (by decide) rfl rfl (W' := [(q_t, .inr (4, [.ref q_letters, .int t_here, .int o10.1, .int o10.2])), (q_letters, .inr (5, [.ref q_letters_items, .int letters_count])), (q_letters_items, .inl (a 0, 230, .inl letters_items)), (q_p1, .inr (7, [.int p1_clauses, .int p1_corners, .int p1_hearers, .int p1_firstColds, .ref q_p1_beers, .ref q_p1_firstPlaces, .ref q_p1_pinches, .ref q_p1_sayings])), (q_p1_beers, .inl (a 0, 8, .inl p1_beers)), (q_p1_firstPlaces, .inl (a 0, 9, .inl p1_firstPlaces)), (q_p1_pinches, .inl (a 0, 9, .inl p1_pinches)), (q_p1_sayings, .inl (a 0, 9, .inl p1_sayings))]) rfl) hS rfl rfl rfl hl.1 rfl (Nat.le_of_ble_eq_true rfl) dX4_readClause_21 (by decide) (fun H locs hP hD hS => ?_)
  have hP : va_P D vwCl [(q_t, .inr (4, [.ref q_letters, .int t_here, .int o10.1, .int o10.2])), (q_letters, .inr (5, [.ref q_letters_items, .int letters_count])), (q_letters_items, .inl (a 0, 230, .inl letters_items)), (q_p1, .inr (7, [.int p1_clauses, .int p1_corners, .int p1_hearers, .int p1_firstColds, .ref q_p1_beers, .ref q_p1_firstPlaces, .ref q_p1_pinches, .ref q_p1_sayings])), (q_p1_beers, .inl (a 0, 8, .inl p1_beers)), (q_p1_firstPlaces, .inl (a 0, 9, .inl p1_firstPlaces)), (q_p1_pinches, .inl (a 0, 9, .inl p1_pinches)), (q_p1_sayings, .inl (a 0, 9, .inl p1_sayings))] H := hP
  have hD : va_D A [(q_t, .inr (4, [.ref q_letters, .int t_here, .int o10.1, .int o10.2])), (q_letters, .inr (5, [.ref q_letters_items, .int letters_count])), (q_letters_items, .inl (a 0, 230, .inl letters_items)), (q_p1, .inr (7, [.int p1_clauses, .int p1_corners, .int p1_hearers, .int p1_firstColds, .ref q_p1_beers, .ref q_p1_firstPlaces, .ref q_p1_pinches, .ref q_p1_sayings])), (q_p1_beers, .inl (a 0, 8, .inl p1_beers)), (q_p1_firstPlaces, .inl (a 0, 9, .inl p1_firstPlaces)), (q_p1_pinches, .inl (a 0, 9, .inl p1_pinches)), (q_p1_sayings, .inl (a 0, 9, .inl p1_sayings))] := hD
  cases hf
  exact hret _ _ _ _ hP hD hS dX4_readClause_24
def f_X4_readInto_25 (letters_count : Int32) (letters_items : Nat → Int32) : Nat → Int32 → Int32 → Int32 → Int32 → Int32 → Int32 → Int32 → (Nat → Int32) → (Nat → Int32) → (Nat → Int32) → (Nat → Int32) → Int32 → Option (Int32 × Int32 × Int32 × Int32 × Int32 × Int32 × Int32 × Int32 × (Nat → Int32) × (Nat → Int32) × (Nat → Int32) × (Nat → Int32))
  | 0, _, _, _, _, _, _, _, _, _, _, _, _ => none
  | n_25 + 1, t_here, t_faultNumber, t_faultAt, p1_clauses, p1_corners, p1_hearers, p1_firstColds, p1_beers, p1_firstPlaces, p1_pinches, p1_sayings, x2 =>
    if (230 : Int32) ≤ x2 then (some (t_faultNumber, t_here, t_faultNumber, t_faultAt, p1_clauses, p1_corners, p1_hearers, p1_firstColds, p1_beers, p1_firstPlaces, p1_pinches, p1_sayings))
    else (if letters_count ≤ t_here then (some (t_faultNumber, t_here, t_faultNumber, t_faultAt, p1_clauses, p1_corners, p1_hearers, p1_firstColds, p1_beers, p1_firstPlaces, p1_pinches, p1_sayings))
    else (if t_faultNumber = 0 then ((f_X4_readClause t_here t_faultNumber t_faultAt letters_count letters_items p1_clauses p1_corners p1_hearers p1_firstColds p1_beers p1_firstPlaces p1_pinches p1_sayings).bind fun o4 =>
    (f_X4_skipBlanks o4.1 letters_count letters_items).bind fun o5 =>
    o_nm (x2 + (1 : Int32)) fun v6 =>
    f_X4_readInto_25 letters_count letters_items n_25 o5 o4.2.1 o4.2.2.1 o4.2.2.2.1 o4.2.2.2.2.1 o4.2.2.2.2.2.1 o4.2.2.2.2.2.2.1 o4.2.2.2.2.2.2.2.1 o4.2.2.2.2.2.2.2.2.1 o4.2.2.2.2.2.2.2.2.2.1 o4.2.2.2.2.2.2.2.2.2.2 v6)
    else (some (t_faultNumber, t_here, t_faultNumber, t_faultAt, p1_clauses, p1_corners, p1_hearers, p1_firstColds, p1_beers, p1_firstPlaces, p1_pinches, p1_sayings))))
def f_X4_readInto (t_here : Int32) (t_faultNumber : Int32) (t_faultAt : Int32) (letters_count : Int32) (letters_items : Nat → Int32) (p1_clauses : Int32) (p1_corners : Int32) (p1_hearers : Int32) (p1_firstColds : Int32) (p1_beers : Nat → Int32) (p1_firstPlaces : Nat → Int32) (p1_pinches : Nat → Int32) (p1_sayings : Nat → Int32) : Option (Int32 × Int32 × Int32 × Int32 × Int32 × Int32 × Int32 × Int32 × (Nat → Int32) × (Nat → Int32) × (Nat → Int32) × (Nat → Int32)) :=
  (f_X7_clear p1_clauses p1_corners p1_hearers p1_firstColds).bind fun o7 =>
  (f_X4_skipBlanks (0 : Int32) letters_count letters_items).bind fun o8 =>
  f_X4_readInto_25 letters_count letters_items 1000 o8 (0 : Int32) (-1 : Int32) o7.1 o7.2.1 o7.2.2.1 o7.2.2.2 p1_beers p1_firstPlaces p1_pinches p1_sayings (0 : Int32)
theorem hdS_X4_readInto : yX4_readInto.cls ≠ "java/lang/invoke/MethodHandle" ∧ yX4_readInto.cls ≠ "java/lang/invoke/VarHandle" ∧ (parseMethodDescriptor yX4_readInto.desc).map (fun d => d.parameters.length) = some 1 := by decide +kernel
theorem hdV_X4_readInto : yX4_readInto.cls = RX4 ∧ yX4_readInto.cls ≠ "java/lang/invoke/MethodHandle" ∧ yX4_readInto.cls ≠ "java/lang/invoke/VarHandle" ∧ (parseMethodDescriptor yX4_readInto.desc).map (fun d => d.parameters.length) = some 1 := ⟨rfl, hdS_X4_readInto⟩
set_option maxHeartbeats 4000000 in
set_option maxRecDepth 100000 in
theorem c_X4_readInto (l : Launch) (D : va_G) (a : Nat → ClassId) (t : Nat) (q_t : Nat) (q_letters : Nat) (t_here : Int32) (t_faultNumber : Int32) (t_faultAt : Int32) (q_letters_items : Nat) (letters_count : Int32) (letters_items : Nat → Int32) (q_p1 : Nat) (p1_clauses : Int32) (p1_corners : Int32) (p1_hearers : Int32) (p1_firstColds : Int32) (q_p1_beers : Nat) (q_p1_firstPlaces : Nat) (q_p1_pinches : Nat) (q_p1_sayings : Nat) (p1_beers : Nat → Int32) (p1_firstPlaces : Nat → Int32) (p1_pinches : Nat → Int32) (p1_sayings : Nat → Int32) (r : Int32) (o_t_here : Int32) (o_t_faultNumber : Int32) (o_t_faultAt : Int32) (o_p1_clauses : Int32) (o_p1_corners : Int32) (o_p1_hearers : Int32) (o_p1_firstColds : Int32) (o_p1_beers : Nat → Int32) (o_p1_firstPlaces : Nat → Int32) (o_p1_pinches : Nat → Int32) (o_p1_sayings : Nat → Int32) (hf : f_X4_readInto t_here t_faultNumber t_faultAt letters_count letters_items p1_clauses p1_corners p1_hearers p1_firstColds p1_beers p1_firstPlaces p1_pinches p1_sayings = some (r, o_t_here, o_t_faultNumber, o_t_faultAt, o_p1_clauses, o_p1_corners, o_p1_hearers, o_p1_firstColds, o_p1_beers, o_p1_firstPlaces, o_p1_pinches, o_p1_sayings)) : Ki l yX4_readInto wsX4_readInto 6 134 D a t [.ref q_t, .ref q_p1] [(q_t, .inr (4, [.ref q_letters, .int t_here, .int t_faultNumber, .int t_faultAt])), (q_letters, .inr (5, [.ref q_letters_items, .int letters_count])), (q_letters_items, .inl (a 0, 230, .inl letters_items)), (q_p1, .inr (7, [.int p1_clauses, .int p1_corners, .int p1_hearers, .int p1_firstColds, .ref q_p1_beers, .ref q_p1_firstPlaces, .ref q_p1_pinches, .ref q_p1_sayings])), (q_p1_beers, .inl (a 0, 8, .inl p1_beers)), (q_p1_firstPlaces, .inl (a 0, 9, .inl p1_firstPlaces)), (q_p1_pinches, .inl (a 0, 9, .inl p1_pinches)), (q_p1_sayings, .inl (a 0, 9, .inl p1_sayings))] [(q_t, .inr (4, [.ref q_letters, .int o_t_here, .int o_t_faultNumber, .int o_t_faultAt])), (q_letters, .inr (5, [.ref q_letters_items, .int letters_count])), (q_letters_items, .inl (a 0, 230, .inl letters_items)), (q_p1, .inr (7, [.int o_p1_clauses, .int o_p1_corners, .int o_p1_hearers, .int o_p1_firstColds, .ref q_p1_beers, .ref q_p1_firstPlaces, .ref q_p1_pinches, .ref q_p1_sayings])), (q_p1_beers, .inl (a 0, 8, .inl o_p1_beers)), (q_p1_firstPlaces, .inl (a 0, 9, .inl o_p1_firstPlaces)), (q_p1_pinches, .inl (a 0, 9, .inl o_p1_pinches)), (q_p1_sayings, .inl (a 0, 9, .inl o_p1_sayings))] r := by
  refine Ki.mk (cc := cX4_readInto) (nL := 3) (ty := .int) (own := RX4) (by decide) rfl rfl (Nat.le_of_ble_eq_true rfl) ?_
  intro p e s m args below meth c A Q ls hX hP hD hS hl hret
  have hx := hX.1.1
  have hb := hX.1.2.1
  have hown := hX.1.2.2.2.1
  have hts := hX.1.2.2.2.2
  have hN := hX.2.2.1
  have hA := hX.2.2.2.2
  have hl : lv_has ls 3 [(0, .ref q_t), (1, .ref q_p1)] := hl
  have hk1 := hts (.fieldLink RX4 24 "GainsaidOnce$Reader" "here" "I") (List.mem_of_getElem? (i := 1) rfl)
  have hk2 := hts (.fieldLink RX4 27 "GainsaidOnce$Reader" "faultNumber" "I") (List.mem_of_getElem? (i := 2) rfl)
  have hk3 := hts (.fieldLink RX4 20 "GainsaidOnce$Reader" "faultAt" "I") (List.mem_of_getElem? (i := 3) rfl)
  have hk4 := hts (.fieldLink RX4 14 "GainsaidOnce$Reader" "letters" "LGainsaidOnce$Row;") (List.mem_of_getElem? (i := 4) rfl)
  have hiX4 : ∀ w ∈ wsX40, w ∈ wsX4_readInto := (fun _ h => List.mem_cons_of_mem _ (List.mem_append_left _ (List.mem_append_left _ (List.mem_append_right _ h))))
  have hiX5 : ∀ w ∈ wsX50, w ∈ wsX4_readInto := (fun _ h => List.mem_cons_of_mem _ (List.mem_append_left _ (List.mem_append_right _ h)))
  have L_25 : ∀ (n_25 : Nat) (t_here : Int32) (t_faultNumber : Int32) (t_faultAt : Int32) (p1_clauses : Int32) (p1_corners : Int32) (p1_hearers : Int32) (p1_firstColds : Int32) (p1_beers : (Nat → Int32)) (p1_firstPlaces : (Nat → Int32)) (p1_pinches : (Nat → Int32)) (p1_sayings : (Nat → Int32)) (x2 : Int32) (H : Heap) (locs : List Loc) (ls : Array Slot), f_X4_readInto_25 letters_count letters_items n_25 t_here t_faultNumber t_faultAt p1_clauses p1_corners p1_hearers p1_firstColds p1_beers p1_firstPlaces p1_pinches p1_sayings x2 = some (r, o_t_here, o_t_faultNumber, o_t_faultAt, o_p1_clauses, o_p1_corners, o_p1_hearers, o_p1_firstColds, o_p1_beers, o_p1_firstPlaces, o_p1_pinches, o_p1_sayings) → va_P D vwCl [(q_t, .inr (4, [.ref q_letters, .int t_here, .int t_faultNumber, .int t_faultAt])), (q_letters, .inr (5, [.ref q_letters_items, .int letters_count])), (q_letters_items, .inl (a 0, 230, .inl letters_items)), (q_p1, .inr (7, [.int p1_clauses, .int p1_corners, .int p1_hearers, .int p1_firstColds, .ref q_p1_beers, .ref q_p1_firstPlaces, .ref q_p1_pinches, .ref q_p1_sayings])), (q_p1_beers, .inl (a 0, 8, .inl p1_beers)), (q_p1_firstPlaces, .inl (a 0, 9, .inl p1_firstPlaces)), (q_p1_pinches, .inl (a 0, 9, .inl p1_pinches)), (q_p1_sayings, .inl (a 0, 9, .inl p1_sayings))] H → va_D A [(q_t, .inr (4, [.ref q_letters, .int t_here, .int t_faultNumber, .int t_faultAt])), (q_letters, .inr (5, [.ref q_letters_items, .int letters_count])), (q_letters_items, .inl (a 0, 230, .inl letters_items)), (q_p1, .inr (7, [.int p1_clauses, .int p1_corners, .int p1_hearers, .int p1_firstColds, .ref q_p1_beers, .ref q_p1_firstPlaces, .ref q_p1_pinches, .ref q_p1_sayings])), (q_p1_beers, .inl (a 0, 8, .inl p1_beers)), (q_p1_firstPlaces, .inl (a 0, 9, .inl p1_firstPlaces)), (q_p1_pinches, .inl (a 0, 9, .inl p1_pinches)), (q_p1_sayings, .inl (a 0, 9, .inl p1_sayings))] → va_S A s.heap H locs → lv_has ls 3 [(0, .ref q_t), (1, .ref q_p1), (2, .int x2)] → W p l e { frames := 6, cells := 0, slots := 0, locals := 134 } s m args below meth c H locs 0 0 Q (F0 m 25 ls []) := by
    intro n_25
    induction n_25 with
    | zero => intro t_here t_faultNumber t_faultAt p1_clauses p1_corners p1_hearers p1_firstColds p1_beers p1_firstPlaces p1_pinches p1_sayings x2 H locs ls hf hP hD hS hl; rw [f_X4_readInto_25] at hf; cases hf
    | succ n_25 ih_25 =>
      intro t_here t_faultNumber t_faultAt p1_clauses p1_corners p1_hearers p1_firstColds p1_beers p1_firstPlaces p1_pinches p1_sayings x2 H locs ls hf hP hD hS hl
      rw [f_X4_readInto_25] at hf
      refine lv_iload_n hx hb dX4_readInto_25 rfl (lv_at hl 2 rfl) ?_
      refine lv_sipush (v := (230 : Int32)) hx hb dX4_readInto_26 (by decide) ?_
      refine lv_icmp_ge (tgt := 68) hx hb dX4_readInto_29 (by decide) (fun c1 => ?_) (fun c1 => ?_)
      · have hf := o_ifp hf c1
        refine lv_aload_n hx hb dX4_readInto_68 rfl (lv_at hl 0 rfl) ?_
        refine g_get hX hiX4 hP 0 rfl rfl 2 (by decide) hk2 rfl rfl dX4_readInto_69 ?_
        cases hf
        exact hret _ _ _ _ (vp_nar_int _) hP hD hS dX4_readInto_72
      have hf := o_ifn hf c1
      refine lv_aload_n hx hb dX4_readInto_32 rfl (lv_at hl 0 rfl) ?_
      refine g_get hX hiX4 hP 0 rfl rfl 1 (by decide) hk1 rfl rfl dX4_readInto_33 ?_
      refine lv_aload_n hx hb dX4_readInto_36 rfl (lv_at hl 0 rfl) ?_
      refine g_get hX hiX4 hP 0 rfl rfl 0 (by decide) hk4 rfl rfl dX4_readInto_37 ?_
      refine g_getN hX hiX5 hP 1 rfl rfl 1 (by decide) (nw_0 hN) rfl rfl dX4_readInto_40 ?_
      refine lv_icmp_ge (tgt := 68) hx hb dX4_readInto_43 (by decide) (fun c2 => ?_) (fun c2 => ?_)
      · have hf := o_ifp hf c2
        refine lv_aload_n hx hb dX4_readInto_68 rfl (lv_at hl 0 rfl) ?_
        refine g_get hX hiX4 hP 0 rfl rfl 2 (by decide) hk2 rfl rfl dX4_readInto_69 ?_
        cases hf
        exact hret _ _ _ _ (vp_nar_int _) hP hD hS dX4_readInto_72
      have hf := o_ifn hf c2
      refine lv_aload_n hx hb dX4_readInto_46 rfl (lv_at hl 0 rfl) ?_
      refine g_get hX hiX4 hP 0 rfl rfl 2 (by decide) hk2 rfl rfl dX4_readInto_47 ?_
      refine lv_if_ne (tgt := 68) hx hb dX4_readInto_50 (by decide) (fun c3 => ?_) (fun c3 => ?_)
      · have hf := o_ifn hf c3
        refine lv_aload_n hx hb dX4_readInto_68 rfl (lv_at hl 0 rfl) ?_
        refine g_get hX hiX4 hP 0 rfl rfl 2 (by decide) hk2 rfl rfl dX4_readInto_69 ?_
        cases hf
        exact hret _ _ _ _ (vp_nar_int _) hP hD hS dX4_readInto_72
      have hf := o_ifp hf c3
      refine lv_aload_n hx hb dX4_readInto_53 rfl (lv_at hl 0 rfl) ?_
      refine lv_aload_n hx hb dX4_readInto_54 rfl (lv_at hl 1 rfl) ?_
      obtain ⟨o4, ho4, hf⟩ := o_bd hf
      refine call_vV (q0 := 0) (ci := 4) hX (c_X4_readClause l D a t q_t q_letters t_here t_faultNumber t_faultAt q_letters_items letters_count letters_items q_p1 p1_clauses p1_corners p1_hearers p1_firstColds q_p1_beers q_p1_firstPlaces q_p1_pinches q_p1_sayings p1_beers p1_firstPlaces p1_pinches p1_sayings o4.1 o4.2.1 o4.2.2.1 o4.2.2.2.1 o4.2.2.2.2.1 o4.2.2.2.2.2.1 o4.2.2.2.2.2.2.1 o4.2.2.2.2.2.2.2.1 o4.2.2.2.2.2.2.2.2.1 o4.2.2.2.2.2.2.2.2.2.1 o4.2.2.2.2.2.2.2.2.2.2 ho4) (cwV 1 hts gX4_readInto_X4_readClause rfl rfl rfl hdV_X4_readClause ⟨by decide, by decide⟩) (Cut.of hA hP hD hS [0, 1, 2, 3, 4, 5, 6, 7] (by decide) rfl rfl (W' := [(q_t, .inr (4, [.ref q_letters, .int o4.1, .int o4.2.1, .int o4.2.2.1])), (q_letters, .inr (5, [.ref q_letters_items, .int letters_count])), (q_letters_items, .inl (a 0, 230, .inl letters_items)), (q_p1, .inr (7, [.int o4.2.2.2.1, .int o4.2.2.2.2.1, .int o4.2.2.2.2.2.1, .int o4.2.2.2.2.2.2.1, .ref q_p1_beers, .ref q_p1_firstPlaces, .ref q_p1_pinches, .ref q_p1_sayings])), (q_p1_beers, .inl (a 0, 8, .inl o4.2.2.2.2.2.2.2.1)), (q_p1_firstPlaces, .inl (a 0, 9, .inl o4.2.2.2.2.2.2.2.2.1)), (q_p1_pinches, .inl (a 0, 9, .inl o4.2.2.2.2.2.2.2.2.2.1)), (q_p1_sayings, .inl (a 0, 9, .inl o4.2.2.2.2.2.2.2.2.2.2))]) rfl) hS rfl rfl rfl hl.1 rfl (Nat.le_of_ble_eq_true rfl) dX4_readInto_55 (by decide) (fun H locs hP hD hS => ?_)
      have hP : va_P D vwCl [(q_t, .inr (4, [.ref q_letters, .int o4.1, .int o4.2.1, .int o4.2.2.1])), (q_letters, .inr (5, [.ref q_letters_items, .int letters_count])), (q_letters_items, .inl (a 0, 230, .inl letters_items)), (q_p1, .inr (7, [.int o4.2.2.2.1, .int o4.2.2.2.2.1, .int o4.2.2.2.2.2.1, .int o4.2.2.2.2.2.2.1, .ref q_p1_beers, .ref q_p1_firstPlaces, .ref q_p1_pinches, .ref q_p1_sayings])), (q_p1_beers, .inl (a 0, 8, .inl o4.2.2.2.2.2.2.2.1)), (q_p1_firstPlaces, .inl (a 0, 9, .inl o4.2.2.2.2.2.2.2.2.1)), (q_p1_pinches, .inl (a 0, 9, .inl o4.2.2.2.2.2.2.2.2.2.1)), (q_p1_sayings, .inl (a 0, 9, .inl o4.2.2.2.2.2.2.2.2.2.2))] H := hP
      have hD : va_D A [(q_t, .inr (4, [.ref q_letters, .int o4.1, .int o4.2.1, .int o4.2.2.1])), (q_letters, .inr (5, [.ref q_letters_items, .int letters_count])), (q_letters_items, .inl (a 0, 230, .inl letters_items)), (q_p1, .inr (7, [.int o4.2.2.2.1, .int o4.2.2.2.2.1, .int o4.2.2.2.2.2.1, .int o4.2.2.2.2.2.2.1, .ref q_p1_beers, .ref q_p1_firstPlaces, .ref q_p1_pinches, .ref q_p1_sayings])), (q_p1_beers, .inl (a 0, 8, .inl o4.2.2.2.2.2.2.2.1)), (q_p1_firstPlaces, .inl (a 0, 9, .inl o4.2.2.2.2.2.2.2.2.1)), (q_p1_pinches, .inl (a 0, 9, .inl o4.2.2.2.2.2.2.2.2.2.1)), (q_p1_sayings, .inl (a 0, 9, .inl o4.2.2.2.2.2.2.2.2.2.2))] := hD
      refine lv_aload_n hx hb dX4_readInto_58 rfl (lv_at hl 0 rfl) ?_
      obtain ⟨o5, ho5, hf⟩ := o_bd hf
      refine call_vV (q0 := 0) (ci := 4) hX (c_X4_skipBlanks l D a t q_t q_letters o4.1 o4.2.1 o4.2.2.1 q_letters_items letters_count letters_items o5 ho5) (cwV 0 hts gX4_readInto_X4_skipBlanks rfl rfl rfl hdV_X4_skipBlanks ⟨by decide, by decide⟩) (Cut.of hA hP hD hS [0, 1, 2] (by decide) rfl rfl (W' := [(q_t, .inr (4, [.ref q_letters, .int o5, .int o4.2.1, .int o4.2.2.1])), (q_letters, .inr (5, [.ref q_letters_items, .int letters_count])), (q_letters_items, .inl (a 0, 230, .inl letters_items)), (q_p1, .inr (7, [.int o4.2.2.2.1, .int o4.2.2.2.2.1, .int o4.2.2.2.2.2.1, .int o4.2.2.2.2.2.2.1, .ref q_p1_beers, .ref q_p1_firstPlaces, .ref q_p1_pinches, .ref q_p1_sayings])), (q_p1_beers, .inl (a 0, 8, .inl o4.2.2.2.2.2.2.2.1)), (q_p1_firstPlaces, .inl (a 0, 9, .inl o4.2.2.2.2.2.2.2.2.1)), (q_p1_pinches, .inl (a 0, 9, .inl o4.2.2.2.2.2.2.2.2.2.1)), (q_p1_sayings, .inl (a 0, 9, .inl o4.2.2.2.2.2.2.2.2.2.2))]) rfl) hS rfl rfl rfl hl.1 rfl (Nat.le_of_ble_eq_true rfl) dX4_readInto_59 (by decide) (fun H locs hP hD hS => ?_)
      have hP : va_P D vwCl [(q_t, .inr (4, [.ref q_letters, .int o5, .int o4.2.1, .int o4.2.2.1])), (q_letters, .inr (5, [.ref q_letters_items, .int letters_count])), (q_letters_items, .inl (a 0, 230, .inl letters_items)), (q_p1, .inr (7, [.int o4.2.2.2.1, .int o4.2.2.2.2.1, .int o4.2.2.2.2.2.1, .int o4.2.2.2.2.2.2.1, .ref q_p1_beers, .ref q_p1_firstPlaces, .ref q_p1_pinches, .ref q_p1_sayings])), (q_p1_beers, .inl (a 0, 8, .inl o4.2.2.2.2.2.2.2.1)), (q_p1_firstPlaces, .inl (a 0, 9, .inl o4.2.2.2.2.2.2.2.2.1)), (q_p1_pinches, .inl (a 0, 9, .inl o4.2.2.2.2.2.2.2.2.2.1)), (q_p1_sayings, .inl (a 0, 9, .inl o4.2.2.2.2.2.2.2.2.2.2))] H := hP
      have hD : va_D A [(q_t, .inr (4, [.ref q_letters, .int o5, .int o4.2.1, .int o4.2.2.1])), (q_letters, .inr (5, [.ref q_letters_items, .int letters_count])), (q_letters_items, .inl (a 0, 230, .inl letters_items)), (q_p1, .inr (7, [.int o4.2.2.2.1, .int o4.2.2.2.2.1, .int o4.2.2.2.2.2.1, .int o4.2.2.2.2.2.2.1, .ref q_p1_beers, .ref q_p1_firstPlaces, .ref q_p1_pinches, .ref q_p1_sayings])), (q_p1_beers, .inl (a 0, 8, .inl o4.2.2.2.2.2.2.2.1)), (q_p1_firstPlaces, .inl (a 0, 9, .inl o4.2.2.2.2.2.2.2.2.1)), (q_p1_pinches, .inl (a 0, 9, .inl o4.2.2.2.2.2.2.2.2.2.1)), (q_p1_sayings, .inl (a 0, 9, .inl o4.2.2.2.2.2.2.2.2.2.2))] := hD
      obtain ⟨v6, ev6⟩ : ∃ y : Int32, y = x2 + (1 : Int32) := ⟨_, rfl⟩
      have hf := o_nmh hf v6 ev6
      refine lv_iinc (v := v6) (lv' := [(2, .int v6), (0, .ref q_t), (1, .ref q_p1)]) hx hb dX4_readInto_62 hl (k := 2) rfl (by rw [ev6]; rfl) (by decide) rfl (fun ls hl => ?_)
      refine lv_goto (tgt := 25) hx hb dX4_readInto_65 (by decide) ?_
      exact ih_25 o5 o4.2.1 o4.2.2.1 o4.2.2.2.1 o4.2.2.2.2.1 o4.2.2.2.2.2.1 o4.2.2.2.2.2.2.1 o4.2.2.2.2.2.2.2.1 o4.2.2.2.2.2.2.2.2.1 o4.2.2.2.2.2.2.2.2.2.1 o4.2.2.2.2.2.2.2.2.2.2 v6 _ _ _ hf hP hD hS (lv_sub hl [1, 2, 0] rfl)
  unfold f_X4_readInto at hf
  refine lv_aload_n hx hb dX4_readInto_0 rfl (lv_at hl 0 rfl) ?_
  refine lv_iconst (v := (0 : Int32)) hx hb dX4_readInto_1 (by decide) ?_
  refine g_put hX hiX4 tyX4 tyX4_ok nmX4 hP hD hS 0 rfl rfl 1 (by decide) hk1 rfl rfl rfl rfl (Nat.le_of_ble_eq_true rfl) dX4_readInto_2 (fun H locs hP hD hS => ?_)
  have hP : va_P D vwCl [(q_t, .inr (4, [.ref q_letters, .int (0 : Int32), .int t_faultNumber, .int t_faultAt])), (q_letters, .inr (5, [.ref q_letters_items, .int letters_count])), (q_letters_items, .inl (a 0, 230, .inl letters_items)), (q_p1, .inr (7, [.int p1_clauses, .int p1_corners, .int p1_hearers, .int p1_firstColds, .ref q_p1_beers, .ref q_p1_firstPlaces, .ref q_p1_pinches, .ref q_p1_sayings])), (q_p1_beers, .inl (a 0, 8, .inl p1_beers)), (q_p1_firstPlaces, .inl (a 0, 9, .inl p1_firstPlaces)), (q_p1_pinches, .inl (a 0, 9, .inl p1_pinches)), (q_p1_sayings, .inl (a 0, 9, .inl p1_sayings))] H := hP
  have hD : va_D A [(q_t, .inr (4, [.ref q_letters, .int (0 : Int32), .int t_faultNumber, .int t_faultAt])), (q_letters, .inr (5, [.ref q_letters_items, .int letters_count])), (q_letters_items, .inl (a 0, 230, .inl letters_items)), (q_p1, .inr (7, [.int p1_clauses, .int p1_corners, .int p1_hearers, .int p1_firstColds, .ref q_p1_beers, .ref q_p1_firstPlaces, .ref q_p1_pinches, .ref q_p1_sayings])), (q_p1_beers, .inl (a 0, 8, .inl p1_beers)), (q_p1_firstPlaces, .inl (a 0, 9, .inl p1_firstPlaces)), (q_p1_pinches, .inl (a 0, 9, .inl p1_pinches)), (q_p1_sayings, .inl (a 0, 9, .inl p1_sayings))] := hD
  refine lv_aload_n hx hb dX4_readInto_5 rfl (lv_at hl 0 rfl) ?_
  refine lv_iconst (v := (0 : Int32)) hx hb dX4_readInto_6 (by decide) ?_
  refine g_put hX hiX4 tyX4 tyX4_ok nmX4 hP hD hS 0 rfl rfl 2 (by decide) hk2 rfl rfl rfl rfl (Nat.le_of_ble_eq_true rfl) dX4_readInto_7 (fun H locs hP hD hS => ?_)
  have hP : va_P D vwCl [(q_t, .inr (4, [.ref q_letters, .int (0 : Int32), .int (0 : Int32), .int t_faultAt])), (q_letters, .inr (5, [.ref q_letters_items, .int letters_count])), (q_letters_items, .inl (a 0, 230, .inl letters_items)), (q_p1, .inr (7, [.int p1_clauses, .int p1_corners, .int p1_hearers, .int p1_firstColds, .ref q_p1_beers, .ref q_p1_firstPlaces, .ref q_p1_pinches, .ref q_p1_sayings])), (q_p1_beers, .inl (a 0, 8, .inl p1_beers)), (q_p1_firstPlaces, .inl (a 0, 9, .inl p1_firstPlaces)), (q_p1_pinches, .inl (a 0, 9, .inl p1_pinches)), (q_p1_sayings, .inl (a 0, 9, .inl p1_sayings))] H := hP
  have hD : va_D A [(q_t, .inr (4, [.ref q_letters, .int (0 : Int32), .int (0 : Int32), .int t_faultAt])), (q_letters, .inr (5, [.ref q_letters_items, .int letters_count])), (q_letters_items, .inl (a 0, 230, .inl letters_items)), (q_p1, .inr (7, [.int p1_clauses, .int p1_corners, .int p1_hearers, .int p1_firstColds, .ref q_p1_beers, .ref q_p1_firstPlaces, .ref q_p1_pinches, .ref q_p1_sayings])), (q_p1_beers, .inl (a 0, 8, .inl p1_beers)), (q_p1_firstPlaces, .inl (a 0, 9, .inl p1_firstPlaces)), (q_p1_pinches, .inl (a 0, 9, .inl p1_pinches)), (q_p1_sayings, .inl (a 0, 9, .inl p1_sayings))] := hD
  refine lv_aload_n hx hb dX4_readInto_10 rfl (lv_at hl 0 rfl) ?_
  refine lv_iconst (v := (-1 : Int32)) hx hb dX4_readInto_11 (by decide) ?_
  refine g_put hX hiX4 tyX4 tyX4_ok nmX4 hP hD hS 0 rfl rfl 3 (by decide) hk3 rfl rfl rfl rfl (Nat.le_of_ble_eq_true rfl) dX4_readInto_12 (fun H locs hP hD hS => ?_)
  have hP : va_P D vwCl [(q_t, .inr (4, [.ref q_letters, .int (0 : Int32), .int (0 : Int32), .int (-1 : Int32)])), (q_letters, .inr (5, [.ref q_letters_items, .int letters_count])), (q_letters_items, .inl (a 0, 230, .inl letters_items)), (q_p1, .inr (7, [.int p1_clauses, .int p1_corners, .int p1_hearers, .int p1_firstColds, .ref q_p1_beers, .ref q_p1_firstPlaces, .ref q_p1_pinches, .ref q_p1_sayings])), (q_p1_beers, .inl (a 0, 8, .inl p1_beers)), (q_p1_firstPlaces, .inl (a 0, 9, .inl p1_firstPlaces)), (q_p1_pinches, .inl (a 0, 9, .inl p1_pinches)), (q_p1_sayings, .inl (a 0, 9, .inl p1_sayings))] H := hP
  have hD : va_D A [(q_t, .inr (4, [.ref q_letters, .int (0 : Int32), .int (0 : Int32), .int (-1 : Int32)])), (q_letters, .inr (5, [.ref q_letters_items, .int letters_count])), (q_letters_items, .inl (a 0, 230, .inl letters_items)), (q_p1, .inr (7, [.int p1_clauses, .int p1_corners, .int p1_hearers, .int p1_firstColds, .ref q_p1_beers, .ref q_p1_firstPlaces, .ref q_p1_pinches, .ref q_p1_sayings])), (q_p1_beers, .inl (a 0, 8, .inl p1_beers)), (q_p1_firstPlaces, .inl (a 0, 9, .inl p1_firstPlaces)), (q_p1_pinches, .inl (a 0, 9, .inl p1_pinches)), (q_p1_sayings, .inl (a 0, 9, .inl p1_sayings))] := hD
  refine lv_aload_n hx hb dX4_readInto_15 rfl (lv_at hl 1 rfl) ?_
  obtain ⟨o7, ho7, hf⟩ := o_bd hf
  refine call_vV (q0 := 0) (ci := 7) hX (c_X7_clear l D a t q_p1 p1_clauses p1_corners p1_hearers p1_firstColds q_p1_beers q_p1_firstPlaces q_p1_pinches q_p1_sayings o7.1 o7.2.1 o7.2.2.1 o7.2.2.2 ho7) (cwV 0 hts gX4_readInto_X7_clear rfl rfl rfl hdV_X7_clear ⟨by decide, by decide⟩) (Cut.of hA hP hD hS [3] (by decide) rfl rfl (W' := [(q_t, .inr (4, [.ref q_letters, .int (0 : Int32), .int (0 : Int32), .int (-1 : Int32)])), (q_letters, .inr (5, [.ref q_letters_items, .int letters_count])), (q_letters_items, .inl (a 0, 230, .inl letters_items)), (q_p1, .inr (7, [.int o7.1, .int o7.2.1, .int o7.2.2.1, .int o7.2.2.2, .ref q_p1_beers, .ref q_p1_firstPlaces, .ref q_p1_pinches, .ref q_p1_sayings])), (q_p1_beers, .inl (a 0, 8, .inl p1_beers)), (q_p1_firstPlaces, .inl (a 0, 9, .inl p1_firstPlaces)), (q_p1_pinches, .inl (a 0, 9, .inl p1_pinches)), (q_p1_sayings, .inl (a 0, 9, .inl p1_sayings))]) rfl) hS rfl rfl rfl hl.1 rfl (Nat.le_of_ble_eq_true rfl) dX4_readInto_16 (by decide) (fun H locs hP hD hS => ?_)
  have hP : va_P D vwCl [(q_t, .inr (4, [.ref q_letters, .int (0 : Int32), .int (0 : Int32), .int (-1 : Int32)])), (q_letters, .inr (5, [.ref q_letters_items, .int letters_count])), (q_letters_items, .inl (a 0, 230, .inl letters_items)), (q_p1, .inr (7, [.int o7.1, .int o7.2.1, .int o7.2.2.1, .int o7.2.2.2, .ref q_p1_beers, .ref q_p1_firstPlaces, .ref q_p1_pinches, .ref q_p1_sayings])), (q_p1_beers, .inl (a 0, 8, .inl p1_beers)), (q_p1_firstPlaces, .inl (a 0, 9, .inl p1_firstPlaces)), (q_p1_pinches, .inl (a 0, 9, .inl p1_pinches)), (q_p1_sayings, .inl (a 0, 9, .inl p1_sayings))] H := hP
  have hD : va_D A [(q_t, .inr (4, [.ref q_letters, .int (0 : Int32), .int (0 : Int32), .int (-1 : Int32)])), (q_letters, .inr (5, [.ref q_letters_items, .int letters_count])), (q_letters_items, .inl (a 0, 230, .inl letters_items)), (q_p1, .inr (7, [.int o7.1, .int o7.2.1, .int o7.2.2.1, .int o7.2.2.2, .ref q_p1_beers, .ref q_p1_firstPlaces, .ref q_p1_pinches, .ref q_p1_sayings])), (q_p1_beers, .inl (a 0, 8, .inl p1_beers)), (q_p1_firstPlaces, .inl (a 0, 9, .inl p1_firstPlaces)), (q_p1_pinches, .inl (a 0, 9, .inl p1_pinches)), (q_p1_sayings, .inl (a 0, 9, .inl p1_sayings))] := hD
  refine lv_aload_n hx hb dX4_readInto_19 rfl (lv_at hl 0 rfl) ?_
  obtain ⟨o8, ho8, hf⟩ := o_bd hf
  refine call_vV (q0 := 0) (ci := 4) hX (c_X4_skipBlanks l D a t q_t q_letters (0 : Int32) (0 : Int32) (-1 : Int32) q_letters_items letters_count letters_items o8 ho8) (cwV 0 hts gX4_readInto_X4_skipBlanks rfl rfl rfl hdV_X4_skipBlanks ⟨by decide, by decide⟩) (Cut.of hA hP hD hS [0, 1, 2] (by decide) rfl rfl (W' := [(q_t, .inr (4, [.ref q_letters, .int o8, .int (0 : Int32), .int (-1 : Int32)])), (q_letters, .inr (5, [.ref q_letters_items, .int letters_count])), (q_letters_items, .inl (a 0, 230, .inl letters_items)), (q_p1, .inr (7, [.int o7.1, .int o7.2.1, .int o7.2.2.1, .int o7.2.2.2, .ref q_p1_beers, .ref q_p1_firstPlaces, .ref q_p1_pinches, .ref q_p1_sayings])), (q_p1_beers, .inl (a 0, 8, .inl p1_beers)), (q_p1_firstPlaces, .inl (a 0, 9, .inl p1_firstPlaces)), (q_p1_pinches, .inl (a 0, 9, .inl p1_pinches)), (q_p1_sayings, .inl (a 0, 9, .inl p1_sayings))]) rfl) hS rfl rfl rfl hl.1 rfl (Nat.le_of_ble_eq_true rfl) dX4_readInto_20 (by decide) (fun H locs hP hD hS => ?_)
  have hP : va_P D vwCl [(q_t, .inr (4, [.ref q_letters, .int o8, .int (0 : Int32), .int (-1 : Int32)])), (q_letters, .inr (5, [.ref q_letters_items, .int letters_count])), (q_letters_items, .inl (a 0, 230, .inl letters_items)), (q_p1, .inr (7, [.int o7.1, .int o7.2.1, .int o7.2.2.1, .int o7.2.2.2, .ref q_p1_beers, .ref q_p1_firstPlaces, .ref q_p1_pinches, .ref q_p1_sayings])), (q_p1_beers, .inl (a 0, 8, .inl p1_beers)), (q_p1_firstPlaces, .inl (a 0, 9, .inl p1_firstPlaces)), (q_p1_pinches, .inl (a 0, 9, .inl p1_pinches)), (q_p1_sayings, .inl (a 0, 9, .inl p1_sayings))] H := hP
  have hD : va_D A [(q_t, .inr (4, [.ref q_letters, .int o8, .int (0 : Int32), .int (-1 : Int32)])), (q_letters, .inr (5, [.ref q_letters_items, .int letters_count])), (q_letters_items, .inl (a 0, 230, .inl letters_items)), (q_p1, .inr (7, [.int o7.1, .int o7.2.1, .int o7.2.2.1, .int o7.2.2.2, .ref q_p1_beers, .ref q_p1_firstPlaces, .ref q_p1_pinches, .ref q_p1_sayings])), (q_p1_beers, .inl (a 0, 8, .inl p1_beers)), (q_p1_firstPlaces, .inl (a 0, 9, .inl p1_firstPlaces)), (q_p1_pinches, .inl (a 0, 9, .inl p1_pinches)), (q_p1_sayings, .inl (a 0, 9, .inl p1_sayings))] := hD
  refine lv_iconst (v := (0 : Int32)) hx hb dX4_readInto_23 (by decide) ?_
  refine lv_istore_n (lv' := [(2, .int (0 : Int32)), (0, .ref q_t), (1, .ref q_p1)]) hx hb dX4_readInto_24 rfl hl (by decide) rfl (fun ls hl => ?_)
  exact L_25 1000 o8 (0 : Int32) (-1 : Int32) o7.1 o7.2.1 o7.2.2.1 o7.2.2.2 p1_beers p1_firstPlaces p1_pinches p1_sayings (0 : Int32) _ _ _ hf hP hD hS (lv_sub hl [1, 2, 0] rfl)
