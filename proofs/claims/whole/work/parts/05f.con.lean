def f_X11_remember_53  (t_undoMany : Int32) (w : (Nat → Int32)) : Option (Int32 × (Nat → Int32)) :=
  (f_X11_copy w (0 : Int32) ((68 : Int32) + ((17 : Int32) * t_undoMany))).bind fun o1 =>
  o_nm ((t_undoMany + (1 : Int32))) fun v2 =>
  some (v2, o1)
def f_X11_remember_11  : Nat → Int32 → (Nat → Int32) → Int32 → Option (Int32 × (Nat → Int32))
  | 0, _, _, _ => none
  | n_11 + 1, t_undoMany, w, x1 =>
    if (30 : Int32) ≤ x1 then (o_nm ((t_undoMany - (1 : Int32))) fun v4 =>
    f_X11_remember_53 v4 w)
    else ((f_X11_copy w ((68 : Int32) + ((17 : Int32) * x1)) ((68 : Int32) + ((17 : Int32) * (x1 - (1 : Int32))))).bind fun o5 =>
    o_nm (x1 + (1 : Int32)) fun v6 =>
    f_X11_remember_11  n_11 t_undoMany o5 v6)
def f_X11_remember (t_undoMany : Int32) (w : Nat → Int32) : Option (Int32 × (Nat → Int32)) :=
  if t_undoMany = (30 : Int32) then (f_X11_remember_11 1000 t_undoMany w (1 : Int32))
  else (f_X11_remember_53 t_undoMany w)
theorem hdS_X11_remember : yX11_remember.cls ≠ "java/lang/invoke/MethodHandle" ∧ yX11_remember.cls ≠ "java/lang/invoke/VarHandle" ∧ (parseMethodDescriptor yX11_remember.desc).map (fun d => d.parameters.length) = some 0 := by decide +kernel
theorem hdV_X11_remember : yX11_remember.cls = RX11 ∧ yX11_remember.cls ≠ "java/lang/invoke/MethodHandle" ∧ yX11_remember.cls ≠ "java/lang/invoke/VarHandle" ∧ (parseMethodDescriptor yX11_remember.desc).map (fun d => d.parameters.length) = some 0 := ⟨rfl, hdS_X11_remember⟩
set_option maxHeartbeats 4000000 in
set_option maxRecDepth 100000 in
theorem c_X11_remember (l : Launch) (D : va_G) (a : Nat → ClassId) (t : Nat) (q_t : Nat) (q_w : Nat) (q_isKept : Nat) (t_all : Int32) (t_corners : Int32) (t_hearers : Int32) (t_newAll : Int32) (t_newCorners : Int32) (t_newHearers : Int32) (q_beer : Nat) (q_cold : Nat) (q_stands : Nat) (q_pinched : Nat) (q_says : Nat) (q_text : Nat) (t_textSize : Int32) (t_at : Int32) (t_first : Int32) (t_faultOf : Int32) (t_fault : Int32) (t_spoke : Int32) (t_holds : Int32) (t_undoMany : Int32) (q_seenDecree : Nat) (q_seenAt : Nat) (q_seenSpoke : Nat) (t_seen : Int32) (q_inSets : Nat) (q_book : Nat) (t_written : Int32) (w : Nat → Int32) (o_t_undoMany : Int32) (o_w : Nat → Int32) (hf : f_X11_remember t_undoMany w = some (o_t_undoMany, o_w)) : Kv l yX11_remember wsX11_remember 1 23 D a t [.ref q_t] [(q_t, .inr (11, [.ref q_w, .ref q_isKept, .int t_all, .int t_corners, .int t_hearers, .int t_newAll, .int t_newCorners, .int t_newHearers, .ref q_beer, .ref q_cold, .ref q_stands, .ref q_pinched, .ref q_says, .ref q_text, .int t_textSize, .int t_at, .int t_first, .int t_faultOf, .int t_fault, .int t_spoke, .int t_holds, .int t_undoMany, .ref q_seenDecree, .ref q_seenAt, .ref q_seenSpoke, .int t_seen, .ref q_inSets, .ref q_book, .int t_written])), (q_w, .inl (a 0, 578, .inl w))] [(q_t, .inr (11, [.ref q_w, .ref q_isKept, .int t_all, .int t_corners, .int t_hearers, .int t_newAll, .int t_newCorners, .int t_newHearers, .ref q_beer, .ref q_cold, .ref q_stands, .ref q_pinched, .ref q_says, .ref q_text, .int t_textSize, .int t_at, .int t_first, .int t_faultOf, .int t_fault, .int t_spoke, .int t_holds, .int o_t_undoMany, .ref q_seenDecree, .ref q_seenAt, .ref q_seenSpoke, .int t_seen, .ref q_inSets, .ref q_book, .int t_written])), (q_w, .inl (a 0, 578, .inl o_w))] := by
  refine Kv.mk (cc := cX11_remember) (nL := 2) (own := RX11) (by decide) rfl rfl (Nat.le_of_ble_eq_true rfl) ?_
  intro p e s m args below meth c A Q ls hX hP hD hS hl hret
  have hx := hX.1.1
  have hb := hX.1.2.1
  have hown := hX.1.2.2.2.1
  have hts := hX.1.2.2.2.2
  have hN := hX.2.2.1
  have hA := hX.2.2.2.2
  have hl : lv_has ls 2 [(0, .ref q_t)] := hl
  have hk1 := hts (.fieldLink RX11 142 "GainsaidOnceModel" "undoMany" "I") (List.mem_of_getElem? (i := 1) rfl)
  have hiX11 : ∀ w ∈ wsX110, w ∈ wsX11_remember := (fun _ h => List.mem_cons_of_mem _ (List.mem_append_right _ h))
  have L_53 : ∀ (t_undoMany : Int32) (w : (Nat → Int32)) (H : Heap) (locs : List Loc) (ls : Array Slot), f_X11_remember_53 t_undoMany w = some (o_t_undoMany, o_w) → va_P D vwCl [(q_t, .inr (11, [.ref q_w, .ref q_isKept, .int t_all, .int t_corners, .int t_hearers, .int t_newAll, .int t_newCorners, .int t_newHearers, .ref q_beer, .ref q_cold, .ref q_stands, .ref q_pinched, .ref q_says, .ref q_text, .int t_textSize, .int t_at, .int t_first, .int t_faultOf, .int t_fault, .int t_spoke, .int t_holds, .int t_undoMany, .ref q_seenDecree, .ref q_seenAt, .ref q_seenSpoke, .int t_seen, .ref q_inSets, .ref q_book, .int t_written])), (q_w, .inl (a 0, 578, .inl w))] H → va_D A [(q_t, .inr (11, [.ref q_w, .ref q_isKept, .int t_all, .int t_corners, .int t_hearers, .int t_newAll, .int t_newCorners, .int t_newHearers, .ref q_beer, .ref q_cold, .ref q_stands, .ref q_pinched, .ref q_says, .ref q_text, .int t_textSize, .int t_at, .int t_first, .int t_faultOf, .int t_fault, .int t_spoke, .int t_holds, .int t_undoMany, .ref q_seenDecree, .ref q_seenAt, .ref q_seenSpoke, .int t_seen, .ref q_inSets, .ref q_book, .int t_written])), (q_w, .inl (a 0, 578, .inl w))] → va_S A s.heap H locs → lv_has ls 2 [(0, .ref q_t)] → W p l e { frames := 1, cells := 0, slots := 0, locals := 23 } s m args below meth c H locs 0 0 Q (F0 m 53 ls []) := by
    intro t_undoMany w H locs ls hf hP hD hS hl
    unfold f_X11_remember_53 at hf
    refine lv_aload_n hx hb dX11_remember_53 rfl (lv_at hl 0 rfl) ?_
    refine lv_iconst (v := (0 : Int32)) hx hb dX11_remember_54 (by decide) ?_
    refine lv_bipush (v := (68 : Int32)) hx hb dX11_remember_55 (by decide) ?_
    refine lv_bipush (v := (17 : Int32)) hx hb dX11_remember_57 (by decide) ?_
    refine lv_aload_n hx hb dX11_remember_59 rfl (lv_at hl 0 rfl) ?_
    refine g_get hX hiX11 hP 0 rfl rfl 21 (by decide) hk1 rfl rfl dX11_remember_60 ?_
    refine lv_imul hx hb dX11_remember_63 ?_
    refine lv_iadd hx hb dX11_remember_64 ?_
    obtain ⟨o1, ho1, hf⟩ := o_bd hf
    refine call_vV (q0 := 0) (ci := 11) hX (c_X11_copy l D a t q_t q_w q_isKept t_all t_corners t_hearers t_newAll t_newCorners t_newHearers q_beer q_cold q_stands q_pinched q_says q_text t_textSize t_at t_first t_faultOf t_fault t_spoke t_holds t_undoMany q_seenDecree q_seenAt q_seenSpoke t_seen q_inSets q_book t_written w (0 : Int32) ((68 : Int32) + ((17 : Int32) * t_undoMany)) o1 ho1) (cwV 2 hts gX11_remember_X11_copy rfl rfl rfl hdV_X11_copy ⟨by decide, by decide⟩) (Cut.of hA hP hD hS [0, 1] (by decide) rfl rfl (W' := [(q_t, .inr (11, [.ref q_w, .ref q_isKept, .int t_all, .int t_corners, .int t_hearers, .int t_newAll, .int t_newCorners, .int t_newHearers, .ref q_beer, .ref q_cold, .ref q_stands, .ref q_pinched, .ref q_says, .ref q_text, .int t_textSize, .int t_at, .int t_first, .int t_faultOf, .int t_fault, .int t_spoke, .int t_holds, .int t_undoMany, .ref q_seenDecree, .ref q_seenAt, .ref q_seenSpoke, .int t_seen, .ref q_inSets, .ref q_book, .int t_written])), (q_w, .inl (a 0, 578, .inl o1))]) rfl) hS rfl rfl rfl hl.1 rfl (Nat.le_of_ble_eq_true rfl) dX11_remember_65 (by decide) (fun H locs hP hD hS => ?_)
    replace hP : va_P D vwCl [(q_t, .inr (11, [.ref q_w, .ref q_isKept, .int t_all, .int t_corners, .int t_hearers, .int t_newAll, .int t_newCorners, .int t_newHearers, .ref q_beer, .ref q_cold, .ref q_stands, .ref q_pinched, .ref q_says, .ref q_text, .int t_textSize, .int t_at, .int t_first, .int t_faultOf, .int t_fault, .int t_spoke, .int t_holds, .int t_undoMany, .ref q_seenDecree, .ref q_seenAt, .ref q_seenSpoke, .int t_seen, .ref q_inSets, .ref q_book, .int t_written])), (q_w, .inl (a 0, 578, .inl o1))] H := hP
    replace hD : va_D A [(q_t, .inr (11, [.ref q_w, .ref q_isKept, .int t_all, .int t_corners, .int t_hearers, .int t_newAll, .int t_newCorners, .int t_newHearers, .ref q_beer, .ref q_cold, .ref q_stands, .ref q_pinched, .ref q_says, .ref q_text, .int t_textSize, .int t_at, .int t_first, .int t_faultOf, .int t_fault, .int t_spoke, .int t_holds, .int t_undoMany, .ref q_seenDecree, .ref q_seenAt, .ref q_seenSpoke, .int t_seen, .ref q_inSets, .ref q_book, .int t_written])), (q_w, .inl (a 0, 578, .inl o1))] := hD
    refine lv_aload_n hx hb dX11_remember_68 rfl (lv_at hl 0 rfl) ?_
    refine lv_dup hx hb dX11_remember_69 rfl ?_
    refine g_get hX hiX11 hP 0 rfl rfl 21 (by decide) hk1 rfl rfl dX11_remember_70 ?_
    refine lv_iconst (v := (1 : Int32)) hx hb dX11_remember_73 (by decide) ?_
    refine lv_iadd hx hb dX11_remember_74 ?_
    refine lv_topi (fun v2 ev2 => ?_)
    replace hf := o_nmh hf v2 ev2
    refine g_put hX hiX11 tyX11 tyX11_ok nmX11 hP hD hS 0 rfl rfl 21 (by decide) hk1 rfl rfl rfl rfl (Nat.le_of_ble_eq_true rfl) dX11_remember_75 (fun H locs hP hD hS => ?_)
    replace hP : va_P D vwCl [(q_t, .inr (11, [.ref q_w, .ref q_isKept, .int t_all, .int t_corners, .int t_hearers, .int t_newAll, .int t_newCorners, .int t_newHearers, .ref q_beer, .ref q_cold, .ref q_stands, .ref q_pinched, .ref q_says, .ref q_text, .int t_textSize, .int t_at, .int t_first, .int t_faultOf, .int t_fault, .int t_spoke, .int t_holds, .int v2, .ref q_seenDecree, .ref q_seenAt, .ref q_seenSpoke, .int t_seen, .ref q_inSets, .ref q_book, .int t_written])), (q_w, .inl (a 0, 578, .inl o1))] H := hP
    replace hD : va_D A [(q_t, .inr (11, [.ref q_w, .ref q_isKept, .int t_all, .int t_corners, .int t_hearers, .int t_newAll, .int t_newCorners, .int t_newHearers, .ref q_beer, .ref q_cold, .ref q_stands, .ref q_pinched, .ref q_says, .ref q_text, .int t_textSize, .int t_at, .int t_first, .int t_faultOf, .int t_fault, .int t_spoke, .int t_holds, .int v2, .ref q_seenDecree, .ref q_seenAt, .ref q_seenSpoke, .int t_seen, .ref q_inSets, .ref q_book, .int t_written])), (q_w, .inl (a 0, 578, .inl o1))] := hD
    cases hf
    exact hret _ _ _ _ hP hD hS dX11_remember_78
  have L_11 : ∀ (n_11 : Nat) (t_undoMany : Int32) (w : (Nat → Int32)) (x1 : Int32) (H : Heap) (locs : List Loc) (ls : Array Slot), f_X11_remember_11 n_11 t_undoMany w x1 = some (o_t_undoMany, o_w) → va_P D vwCl [(q_t, .inr (11, [.ref q_w, .ref q_isKept, .int t_all, .int t_corners, .int t_hearers, .int t_newAll, .int t_newCorners, .int t_newHearers, .ref q_beer, .ref q_cold, .ref q_stands, .ref q_pinched, .ref q_says, .ref q_text, .int t_textSize, .int t_at, .int t_first, .int t_faultOf, .int t_fault, .int t_spoke, .int t_holds, .int t_undoMany, .ref q_seenDecree, .ref q_seenAt, .ref q_seenSpoke, .int t_seen, .ref q_inSets, .ref q_book, .int t_written])), (q_w, .inl (a 0, 578, .inl w))] H → va_D A [(q_t, .inr (11, [.ref q_w, .ref q_isKept, .int t_all, .int t_corners, .int t_hearers, .int t_newAll, .int t_newCorners, .int t_newHearers, .ref q_beer, .ref q_cold, .ref q_stands, .ref q_pinched, .ref q_says, .ref q_text, .int t_textSize, .int t_at, .int t_first, .int t_faultOf, .int t_fault, .int t_spoke, .int t_holds, .int t_undoMany, .ref q_seenDecree, .ref q_seenAt, .ref q_seenSpoke, .int t_seen, .ref q_inSets, .ref q_book, .int t_written])), (q_w, .inl (a 0, 578, .inl w))] → va_S A s.heap H locs → lv_has ls 2 [(0, .ref q_t), (1, .int x1)] → W p l e { frames := 1, cells := 0, slots := 0, locals := 23 } s m args below meth c H locs 0 0 Q (F0 m 11 ls []) := by
    intro n_11
    induction n_11 with
    | zero => intro t_undoMany w x1 H locs ls hf hP hD hS hl; rw [f_X11_remember_11] at hf; cases hf
    | succ n_11 ih_11 =>
      intro t_undoMany w x1 H locs ls hf hP hD hS hl
      rw [f_X11_remember_11] at hf
      refine lv_iload_n hx hb dX11_remember_11 rfl (lv_at hl 1 rfl) ?_
      refine lv_bipush (v := (30 : Int32)) hx hb dX11_remember_12 (by decide) ?_
      refine lv_icmp_ge (tgt := 43) hx hb dX11_remember_14 (by decide) (fun c3 => ?_) (fun c3 => ?_)
      · replace hf := o_ifp hf c3
        refine lv_aload_n hx hb dX11_remember_43 rfl (lv_at hl 0 rfl) ?_
        refine lv_dup hx hb dX11_remember_44 rfl ?_
        refine g_get hX hiX11 hP 0 rfl rfl 21 (by decide) hk1 rfl rfl dX11_remember_45 ?_
        refine lv_iconst (v := (1 : Int32)) hx hb dX11_remember_48 (by decide) ?_
        refine lv_isub hx hb dX11_remember_49 ?_
        refine lv_topi (fun v4 ev4 => ?_)
        replace hf := o_nmh hf v4 ev4
        refine g_put hX hiX11 tyX11 tyX11_ok nmX11 hP hD hS 0 rfl rfl 21 (by decide) hk1 rfl rfl rfl rfl (Nat.le_of_ble_eq_true rfl) dX11_remember_50 (fun H locs hP hD hS => ?_)
        replace hP : va_P D vwCl [(q_t, .inr (11, [.ref q_w, .ref q_isKept, .int t_all, .int t_corners, .int t_hearers, .int t_newAll, .int t_newCorners, .int t_newHearers, .ref q_beer, .ref q_cold, .ref q_stands, .ref q_pinched, .ref q_says, .ref q_text, .int t_textSize, .int t_at, .int t_first, .int t_faultOf, .int t_fault, .int t_spoke, .int t_holds, .int v4, .ref q_seenDecree, .ref q_seenAt, .ref q_seenSpoke, .int t_seen, .ref q_inSets, .ref q_book, .int t_written])), (q_w, .inl (a 0, 578, .inl w))] H := hP
        replace hD : va_D A [(q_t, .inr (11, [.ref q_w, .ref q_isKept, .int t_all, .int t_corners, .int t_hearers, .int t_newAll, .int t_newCorners, .int t_newHearers, .ref q_beer, .ref q_cold, .ref q_stands, .ref q_pinched, .ref q_says, .ref q_text, .int t_textSize, .int t_at, .int t_first, .int t_faultOf, .int t_fault, .int t_spoke, .int t_holds, .int v4, .ref q_seenDecree, .ref q_seenAt, .ref q_seenSpoke, .int t_seen, .ref q_inSets, .ref q_book, .int t_written])), (q_w, .inl (a 0, 578, .inl w))] := hD
        exact L_53 v4 w _ _ _ hf hP hD hS (lv_sub hl [0] rfl)
      replace hf := o_ifn hf c3
      refine lv_aload_n hx hb dX11_remember_17 rfl (lv_at hl 0 rfl) ?_
      refine lv_bipush (v := (68 : Int32)) hx hb dX11_remember_18 (by decide) ?_
      refine lv_bipush (v := (17 : Int32)) hx hb dX11_remember_20 (by decide) ?_
      refine lv_iload_n hx hb dX11_remember_22 rfl (lv_at hl 1 rfl) ?_
      refine lv_imul hx hb dX11_remember_23 ?_
      refine lv_iadd hx hb dX11_remember_24 ?_
      refine lv_bipush (v := (68 : Int32)) hx hb dX11_remember_25 (by decide) ?_
      refine lv_bipush (v := (17 : Int32)) hx hb dX11_remember_27 (by decide) ?_
      refine lv_iload_n hx hb dX11_remember_29 rfl (lv_at hl 1 rfl) ?_
      refine lv_iconst (v := (1 : Int32)) hx hb dX11_remember_30 (by decide) ?_
      refine lv_isub hx hb dX11_remember_31 ?_
      refine lv_imul hx hb dX11_remember_32 ?_
      refine lv_iadd hx hb dX11_remember_33 ?_
      obtain ⟨o5, ho5, hf⟩ := o_bd hf
      refine call_vV (q0 := 0) (ci := 11) hX (c_X11_copy l D a t q_t q_w q_isKept t_all t_corners t_hearers t_newAll t_newCorners t_newHearers q_beer q_cold q_stands q_pinched q_says q_text t_textSize t_at t_first t_faultOf t_fault t_spoke t_holds t_undoMany q_seenDecree q_seenAt q_seenSpoke t_seen q_inSets q_book t_written w ((68 : Int32) + ((17 : Int32) * x1)) ((68 : Int32) + ((17 : Int32) * (x1 - (1 : Int32)))) o5 ho5) (cwV 2 hts gX11_remember_X11_copy rfl rfl rfl hdV_X11_copy ⟨by decide, by decide⟩) (Cut.of hA hP hD hS [0, 1] (by decide) rfl rfl (W' := [(q_t, .inr (11, [.ref q_w, .ref q_isKept, .int t_all, .int t_corners, .int t_hearers, .int t_newAll, .int t_newCorners, .int t_newHearers, .ref q_beer, .ref q_cold, .ref q_stands, .ref q_pinched, .ref q_says, .ref q_text, .int t_textSize, .int t_at, .int t_first, .int t_faultOf, .int t_fault, .int t_spoke, .int t_holds, .int t_undoMany, .ref q_seenDecree, .ref q_seenAt, .ref q_seenSpoke, .int t_seen, .ref q_inSets, .ref q_book, .int t_written])), (q_w, .inl (a 0, 578, .inl o5))]) rfl) hS rfl rfl rfl hl.1 rfl (Nat.le_of_ble_eq_true rfl) dX11_remember_34 (by decide) (fun H locs hP hD hS => ?_)
      replace hP : va_P D vwCl [(q_t, .inr (11, [.ref q_w, .ref q_isKept, .int t_all, .int t_corners, .int t_hearers, .int t_newAll, .int t_newCorners, .int t_newHearers, .ref q_beer, .ref q_cold, .ref q_stands, .ref q_pinched, .ref q_says, .ref q_text, .int t_textSize, .int t_at, .int t_first, .int t_faultOf, .int t_fault, .int t_spoke, .int t_holds, .int t_undoMany, .ref q_seenDecree, .ref q_seenAt, .ref q_seenSpoke, .int t_seen, .ref q_inSets, .ref q_book, .int t_written])), (q_w, .inl (a 0, 578, .inl o5))] H := hP
      replace hD : va_D A [(q_t, .inr (11, [.ref q_w, .ref q_isKept, .int t_all, .int t_corners, .int t_hearers, .int t_newAll, .int t_newCorners, .int t_newHearers, .ref q_beer, .ref q_cold, .ref q_stands, .ref q_pinched, .ref q_says, .ref q_text, .int t_textSize, .int t_at, .int t_first, .int t_faultOf, .int t_fault, .int t_spoke, .int t_holds, .int t_undoMany, .ref q_seenDecree, .ref q_seenAt, .ref q_seenSpoke, .int t_seen, .ref q_inSets, .ref q_book, .int t_written])), (q_w, .inl (a 0, 578, .inl o5))] := hD
      obtain ⟨v6, ev6⟩ : ∃ y : Int32, y = x1 + (1 : Int32) := ⟨_, rfl⟩
      replace hf := o_nmh hf v6 ev6
      refine lv_iinc (v := v6) (lv' := [(1, .int v6), (0, .ref q_t)]) hx hb dX11_remember_37 hl (k := 1) rfl (by rw [ev6]; rfl) (by decide) rfl (fun ls hl => ?_)
      refine lv_goto (tgt := 11) hx hb dX11_remember_40 (by decide) ?_
      exact ih_11 t_undoMany o5 v6 _ _ _ hf hP hD hS (lv_sub hl [1, 0] rfl)
  unfold f_X11_remember at hf
  refine lv_aload_n hx hb dX11_remember_0 rfl (lv_at hl 0 rfl) ?_
  refine g_get hX hiX11 hP 0 rfl rfl 21 (by decide) hk1 rfl rfl dX11_remember_1 ?_
  refine lv_bipush (v := (30 : Int32)) hx hb dX11_remember_4 (by decide) ?_
  refine lv_icmp_ne (tgt := 53) hx hb dX11_remember_6 (by decide) (fun c7 => ?_) (fun c7 => ?_)
  · replace hf := o_ifn hf c7
    exact L_53 t_undoMany w _ _ _ hf hP hD hS (lv_sub hl [0] rfl)
  replace hf := o_ifp hf c7
  refine lv_iconst (v := (1 : Int32)) hx hb dX11_remember_9 (by decide) ?_
  refine lv_istore_n (lv' := [(1, .int (1 : Int32)), (0, .ref q_t)]) hx hb dX11_remember_10 rfl hl (by decide) rfl (fun ls hl => ?_)
  exact L_11 1000 t_undoMany w (1 : Int32) _ _ _ hf hP hD hS (lv_sub hl [1, 0] rfl)
def f_X11_cry (t_all : Int32) (t_corners : Int32) (t_hearers : Int32) (t_spoke : Int32) (t_holds : Int32) (t_undoMany : Int32) (pinched : Nat → Int32) (says : Nat → Int32) (w : Nat → Int32) (x1 : Int32) (x2 : Int32) (x3 : Int32) : Option (Int32 × Int32 × Int32 × Int32 × (Nat → Int32)) :=
  (f_X11_isDecree t_all x1).bind fun o1 =>
  if o1 = 0 then (some ((-1000000001 : Int32), t_spoke, t_holds, t_undoMany, w))
  else ((f_X11_isCorner t_corners x2).bind fun o3 =>
  if o3 = 0 then (some ((-1000000001 : Int32), t_spoke, t_holds, t_undoMany, w))
  else ((f_X11_isWay x3).bind fun o5 =>
  if o5 = 0 then (some ((-1000000002 : Int32), t_spoke, t_holds, t_undoMany, w))
  else ((o_ld w 578 (12 : Int32)).bind fun v7 =>
  if v7 ≤ (9000 : Int32) then ((f_X11_remember t_undoMany w).bind fun o9 =>
  (f_X11_roundNow t_all t_corners t_hearers t_spoke t_holds pinched says o9.2 x1 x2 x3).bind fun o10 =>
  (o_ld o10.2.2 578 (14 : Int32)).bind fun v11 =>
  some (v11, o10.1, o10.2.1, o9.1, o10.2.2))
  else (some ((-1000000004 : Int32), t_spoke, t_holds, t_undoMany, w)))))
theorem hdS_X11_cry : yX11_cry.cls ≠ "java/lang/invoke/MethodHandle" ∧ yX11_cry.cls ≠ "java/lang/invoke/VarHandle" ∧ (parseMethodDescriptor yX11_cry.desc).map (fun d => d.parameters.length) = some 3 := by decide +kernel
theorem hdV_X11_cry : yX11_cry.cls = RX11 ∧ yX11_cry.cls ≠ "java/lang/invoke/MethodHandle" ∧ yX11_cry.cls ≠ "java/lang/invoke/VarHandle" ∧ (parseMethodDescriptor yX11_cry.desc).map (fun d => d.parameters.length) = some 3 := ⟨rfl, hdS_X11_cry⟩
set_option maxHeartbeats 4000000 in
set_option maxRecDepth 100000 in
theorem c_X11_cry (l : Launch) (D : va_G) (a : Nat → ClassId) (t : Nat) (q_t : Nat) (q_w : Nat) (q_isKept : Nat) (t_all : Int32) (t_corners : Int32) (t_hearers : Int32) (t_newAll : Int32) (t_newCorners : Int32) (t_newHearers : Int32) (q_beer : Nat) (q_cold : Nat) (q_stands : Nat) (q_pinched : Nat) (q_says : Nat) (q_text : Nat) (t_textSize : Int32) (t_at : Int32) (t_first : Int32) (t_faultOf : Int32) (t_fault : Int32) (t_spoke : Int32) (t_holds : Int32) (t_undoMany : Int32) (q_seenDecree : Nat) (q_seenAt : Nat) (q_seenSpoke : Nat) (t_seen : Int32) (q_inSets : Nat) (q_book : Nat) (t_written : Int32) (pinched : Nat → Int32) (says : Nat → Int32) (w : Nat → Int32) (x1 : Int32) (x2 : Int32) (x3 : Int32) (r : Int32) (o_t_spoke : Int32) (o_t_holds : Int32) (o_t_undoMany : Int32) (o_w : Nat → Int32) (hf : f_X11_cry t_all t_corners t_hearers t_spoke t_holds t_undoMany pinched says w x1 x2 x3 = some (r, o_t_spoke, o_t_holds, o_t_undoMany, o_w)) : Ki l yX11_cry wsX11_cry 6 152 D a t [.ref q_t, .int x1, .int x2, .int x3] [(q_t, .inr (11, [.ref q_w, .ref q_isKept, .int t_all, .int t_corners, .int t_hearers, .int t_newAll, .int t_newCorners, .int t_newHearers, .ref q_beer, .ref q_cold, .ref q_stands, .ref q_pinched, .ref q_says, .ref q_text, .int t_textSize, .int t_at, .int t_first, .int t_faultOf, .int t_fault, .int t_spoke, .int t_holds, .int t_undoMany, .ref q_seenDecree, .ref q_seenAt, .ref q_seenSpoke, .int t_seen, .ref q_inSets, .ref q_book, .int t_written])), (q_pinched, .inl (a 0, 18, .inl pinched)), (q_says, .inl (a 0, 18, .inl says)), (q_w, .inl (a 0, 578, .inl w))] [(q_t, .inr (11, [.ref q_w, .ref q_isKept, .int t_all, .int t_corners, .int t_hearers, .int t_newAll, .int t_newCorners, .int t_newHearers, .ref q_beer, .ref q_cold, .ref q_stands, .ref q_pinched, .ref q_says, .ref q_text, .int t_textSize, .int t_at, .int t_first, .int t_faultOf, .int t_fault, .int o_t_spoke, .int o_t_holds, .int o_t_undoMany, .ref q_seenDecree, .ref q_seenAt, .ref q_seenSpoke, .int t_seen, .ref q_inSets, .ref q_book, .int t_written])), (q_pinched, .inl (a 0, 18, .inl pinched)), (q_says, .inl (a 0, 18, .inl says)), (q_w, .inl (a 0, 578, .inl o_w))] r := by
  refine Ki.mk (cc := cX11_cry) (nL := 4) (ty := .int) (own := RX11) (by decide) rfl rfl (Nat.le_of_ble_eq_true rfl) ?_
  intro p e s m args below meth c A Q ls hX hP hD hS hl hret
  have hx := hX.1.1
  have hb := hX.1.2.1
  have hown := hX.1.2.2.2.1
  have hts := hX.1.2.2.2.2
  have hN := hX.2.2.1
  have hA := hX.2.2.2.2
  have hl : lv_has ls 4 [(0, .ref q_t), (1, .int x1), (2, .int x2), (3, .int x3)] := hl
  have hk1 := hts (.constant RX11 149 (-1000000001)) (List.mem_of_getElem? (i := 1) rfl)
  have hk2 := hts (.constant RX11 64 (-1000000002)) (List.mem_of_getElem? (i := 2) rfl)
  have hk3 := hts (.fieldLink RX11 7 "GainsaidOnceModel" "w" "[I") (List.mem_of_getElem? (i := 3) rfl)
  have hk4 := hts (.constant RX11 68 (-1000000004)) (List.mem_of_getElem? (i := 4) rfl)
  have hiX11 : ∀ w ∈ wsX110, w ∈ wsX11_cry := (fun _ h => List.mem_cons_of_mem _ (List.mem_append_right _ h))
  unfold f_X11_cry at hf
  refine lv_aload_n hx hb dX11_cry_0 rfl (lv_at hl 0 rfl) ?_
  refine lv_iload_n hx hb dX11_cry_1 rfl (lv_at hl 1 rfl) ?_
  obtain ⟨o1, ho1, hf⟩ := o_bd hf
  refine call_iV (q0 := 0) (ci := 11) hX (c_X11_isDecree l D a t q_t q_w q_isKept t_all t_corners t_hearers t_newAll t_newCorners t_newHearers q_beer q_cold q_stands q_pinched q_says q_text t_textSize t_at t_first t_faultOf t_fault t_spoke t_holds t_undoMany q_seenDecree q_seenAt q_seenSpoke t_seen q_inSets q_book t_written x1 o1 ho1) (cwV 1 hts gX11_cry_X11_isDecree rfl rfl rfl hdV_X11_isDecree ⟨by decide, by decide⟩) (Cut.of hA hP hD hS [0] (by decide) rfl rfl (W' := [(q_t, .inr (11, [.ref q_w, .ref q_isKept, .int t_all, .int t_corners, .int t_hearers, .int t_newAll, .int t_newCorners, .int t_newHearers, .ref q_beer, .ref q_cold, .ref q_stands, .ref q_pinched, .ref q_says, .ref q_text, .int t_textSize, .int t_at, .int t_first, .int t_faultOf, .int t_fault, .int t_spoke, .int t_holds, .int t_undoMany, .ref q_seenDecree, .ref q_seenAt, .ref q_seenSpoke, .int t_seen, .ref q_inSets, .ref q_book, .int t_written])), (q_pinched, .inl (a 0, 18, .inl pinched)), (q_says, .inl (a 0, 18, .inl says)), (q_w, .inl (a 0, 578, .inl w))]) rfl) hS rfl rfl rfl hl.1 rfl (Nat.le_of_ble_eq_true rfl) dX11_cry_2 (by decide) (fun H locs hP hD hS => ?_)
  replace hP : va_P D vwCl [(q_t, .inr (11, [.ref q_w, .ref q_isKept, .int t_all, .int t_corners, .int t_hearers, .int t_newAll, .int t_newCorners, .int t_newHearers, .ref q_beer, .ref q_cold, .ref q_stands, .ref q_pinched, .ref q_says, .ref q_text, .int t_textSize, .int t_at, .int t_first, .int t_faultOf, .int t_fault, .int t_spoke, .int t_holds, .int t_undoMany, .ref q_seenDecree, .ref q_seenAt, .ref q_seenSpoke, .int t_seen, .ref q_inSets, .ref q_book, .int t_written])), (q_pinched, .inl (a 0, 18, .inl pinched)), (q_says, .inl (a 0, 18, .inl says)), (q_w, .inl (a 0, 578, .inl w))] H := hP
  replace hD : va_D A [(q_t, .inr (11, [.ref q_w, .ref q_isKept, .int t_all, .int t_corners, .int t_hearers, .int t_newAll, .int t_newCorners, .int t_newHearers, .ref q_beer, .ref q_cold, .ref q_stands, .ref q_pinched, .ref q_says, .ref q_text, .int t_textSize, .int t_at, .int t_first, .int t_faultOf, .int t_fault, .int t_spoke, .int t_holds, .int t_undoMany, .ref q_seenDecree, .ref q_seenAt, .ref q_seenSpoke, .int t_seen, .ref q_inSets, .ref q_book, .int t_written])), (q_pinched, .inl (a 0, 18, .inl pinched)), (q_says, .inl (a 0, 18, .inl says)), (q_w, .inl (a 0, 578, .inl w))] := hD
  refine lv_if_eq (tgt := 16) hx hb dX11_cry_5 (by decide) (fun c2 => ?_) (fun c2 => ?_)
  · replace hf := o_ifp hf c2
    refine lv_ldc (v := (-1000000001 : Int32)) hx hb hown hk1 dX11_cry_16 ?_
    cases hf
    exact hret _ _ _ _ (vp_nar_int _) hP hD hS dX11_cry_18
  replace hf := o_ifn hf c2
  refine lv_aload_n hx hb dX11_cry_8 rfl (lv_at hl 0 rfl) ?_
  refine lv_iload_n hx hb dX11_cry_9 rfl (lv_at hl 2 rfl) ?_
  obtain ⟨o3, ho3, hf⟩ := o_bd hf
  refine call_iV (q0 := 0) (ci := 11) hX (c_X11_isCorner l D a t q_t q_w q_isKept t_all t_corners t_hearers t_newAll t_newCorners t_newHearers q_beer q_cold q_stands q_pinched q_says q_text t_textSize t_at t_first t_faultOf t_fault t_spoke t_holds t_undoMany q_seenDecree q_seenAt q_seenSpoke t_seen q_inSets q_book t_written x2 o3 ho3) (cwV 1 hts gX11_cry_X11_isCorner rfl rfl rfl hdV_X11_isCorner ⟨by decide, by decide⟩) (Cut.of hA hP hD hS [0] (by decide) rfl rfl (W' := [(q_t, .inr (11, [.ref q_w, .ref q_isKept, .int t_all, .int t_corners, .int t_hearers, .int t_newAll, .int t_newCorners, .int t_newHearers, .ref q_beer, .ref q_cold, .ref q_stands, .ref q_pinched, .ref q_says, .ref q_text, .int t_textSize, .int t_at, .int t_first, .int t_faultOf, .int t_fault, .int t_spoke, .int t_holds, .int t_undoMany, .ref q_seenDecree, .ref q_seenAt, .ref q_seenSpoke, .int t_seen, .ref q_inSets, .ref q_book, .int t_written])), (q_pinched, .inl (a 0, 18, .inl pinched)), (q_says, .inl (a 0, 18, .inl says)), (q_w, .inl (a 0, 578, .inl w))]) rfl) hS rfl rfl rfl hl.1 rfl (Nat.le_of_ble_eq_true rfl) dX11_cry_10 (by decide) (fun H locs hP hD hS => ?_)
  replace hP : va_P D vwCl [(q_t, .inr (11, [.ref q_w, .ref q_isKept, .int t_all, .int t_corners, .int t_hearers, .int t_newAll, .int t_newCorners, .int t_newHearers, .ref q_beer, .ref q_cold, .ref q_stands, .ref q_pinched, .ref q_says, .ref q_text, .int t_textSize, .int t_at, .int t_first, .int t_faultOf, .int t_fault, .int t_spoke, .int t_holds, .int t_undoMany, .ref q_seenDecree, .ref q_seenAt, .ref q_seenSpoke, .int t_seen, .ref q_inSets, .ref q_book, .int t_written])), (q_pinched, .inl (a 0, 18, .inl pinched)), (q_says, .inl (a 0, 18, .inl says)), (q_w, .inl (a 0, 578, .inl w))] H := hP
  replace hD : va_D A [(q_t, .inr (11, [.ref q_w, .ref q_isKept, .int t_all, .int t_corners, .int t_hearers, .int t_newAll, .int t_newCorners, .int t_newHearers, .ref q_beer, .ref q_cold, .ref q_stands, .ref q_pinched, .ref q_says, .ref q_text, .int t_textSize, .int t_at, .int t_first, .int t_faultOf, .int t_fault, .int t_spoke, .int t_holds, .int t_undoMany, .ref q_seenDecree, .ref q_seenAt, .ref q_seenSpoke, .int t_seen, .ref q_inSets, .ref q_book, .int t_written])), (q_pinched, .inl (a 0, 18, .inl pinched)), (q_says, .inl (a 0, 18, .inl says)), (q_w, .inl (a 0, 578, .inl w))] := hD
  refine lv_if_ne (tgt := 19) hx hb dX11_cry_13 (by decide) (fun c4 => ?_) (fun c4 => ?_)
  · replace hf := o_ifn hf c4
    refine lv_iload_n hx hb dX11_cry_19 rfl (lv_at hl 3 rfl) ?_
    obtain ⟨o5, ho5, hf⟩ := o_bd hf
    refine call_iS hX (c_X11_isWay l D a t x3 o5 ho5) (va_cwS 1 hts gX11_cry_X11_isWay rfl rfl rfl hdS_X11_isWay ⟨by decide, by decide⟩) (Cut.none hA hP hD hS) hS rfl hl.1 rfl (Nat.le_of_ble_eq_true rfl) dX11_cry_20 (by decide) (fun H locs hP hD hS => ?_)
    refine lv_if_ne (tgt := 29) hx hb dX11_cry_23 (by decide) (fun c6 => ?_) (fun c6 => ?_)
    · replace hf := o_ifn hf c6
      refine lv_aload_n hx hb dX11_cry_29 rfl (lv_at hl 0 rfl) ?_
      refine g_get hX hiX11 hP 0 rfl rfl 0 (by decide) hk3 rfl rfl dX11_cry_30 ?_
      refine lv_bipush (v := (12 : Int32)) hx hb dX11_cry_33 (by decide) ?_
      obtain ⟨hiv7, hf⟩ := o_ldh hf
      refine g_iald hX hP 3 rfl hiv7 dX11_cry_35 (fun v7 ev7 => ?_)
      replace hf := hf v7 ev7
      refine lv_sipush (v := (9000 : Int32)) hx hb dX11_cry_36 (by decide) ?_
      refine lv_icmp_le (tgt := 45) hx hb dX11_cry_39 (by decide) (fun c8 => ?_) (fun c8 => ?_)
      · replace hf := o_ifp hf c8
        refine lv_aload_n hx hb dX11_cry_45 rfl (lv_at hl 0 rfl) ?_
        obtain ⟨o9, ho9, hf⟩ := o_bd hf
        refine call_vV (q0 := 0) (ci := 11) hX (c_X11_remember l D a t q_t q_w q_isKept t_all t_corners t_hearers t_newAll t_newCorners t_newHearers q_beer q_cold q_stands q_pinched q_says q_text t_textSize t_at t_first t_faultOf t_fault t_spoke t_holds t_undoMany q_seenDecree q_seenAt q_seenSpoke t_seen q_inSets q_book t_written w o9.1 o9.2 ho9) (cwV 0 hts gX11_cry_X11_remember rfl rfl rfl hdV_X11_remember ⟨by decide, by decide⟩) (Cut.of hA hP hD hS [0, 3] (by decide) rfl rfl (W' := [(q_t, .inr (11, [.ref q_w, .ref q_isKept, .int t_all, .int t_corners, .int t_hearers, .int t_newAll, .int t_newCorners, .int t_newHearers, .ref q_beer, .ref q_cold, .ref q_stands, .ref q_pinched, .ref q_says, .ref q_text, .int t_textSize, .int t_at, .int t_first, .int t_faultOf, .int t_fault, .int t_spoke, .int t_holds, .int o9.1, .ref q_seenDecree, .ref q_seenAt, .ref q_seenSpoke, .int t_seen, .ref q_inSets, .ref q_book, .int t_written])), (q_pinched, .inl (a 0, 18, .inl pinched)), (q_says, .inl (a 0, 18, .inl says)), (q_w, .inl (a 0, 578, .inl o9.2))]) rfl) hS rfl rfl rfl hl.1 rfl (Nat.le_of_ble_eq_true rfl) dX11_cry_46 (by decide) (fun H locs hP hD hS => ?_)
        replace hP : va_P D vwCl [(q_t, .inr (11, [.ref q_w, .ref q_isKept, .int t_all, .int t_corners, .int t_hearers, .int t_newAll, .int t_newCorners, .int t_newHearers, .ref q_beer, .ref q_cold, .ref q_stands, .ref q_pinched, .ref q_says, .ref q_text, .int t_textSize, .int t_at, .int t_first, .int t_faultOf, .int t_fault, .int t_spoke, .int t_holds, .int o9.1, .ref q_seenDecree, .ref q_seenAt, .ref q_seenSpoke, .int t_seen, .ref q_inSets, .ref q_book, .int t_written])), (q_pinched, .inl (a 0, 18, .inl pinched)), (q_says, .inl (a 0, 18, .inl says)), (q_w, .inl (a 0, 578, .inl o9.2))] H := hP
        replace hD : va_D A [(q_t, .inr (11, [.ref q_w, .ref q_isKept, .int t_all, .int t_corners, .int t_hearers, .int t_newAll, .int t_newCorners, .int t_newHearers, .ref q_beer, .ref q_cold, .ref q_stands, .ref q_pinched, .ref q_says, .ref q_text, .int t_textSize, .int t_at, .int t_first, .int t_faultOf, .int t_fault, .int t_spoke, .int t_holds, .int o9.1, .ref q_seenDecree, .ref q_seenAt, .ref q_seenSpoke, .int t_seen, .ref q_inSets, .ref q_book, .int t_written])), (q_pinched, .inl (a 0, 18, .inl pinched)), (q_says, .inl (a 0, 18, .inl says)), (q_w, .inl (a 0, 578, .inl o9.2))] := hD
        refine lv_aload_n hx hb dX11_cry_49 rfl (lv_at hl 0 rfl) ?_
        refine lv_iload_n hx hb dX11_cry_50 rfl (lv_at hl 1 rfl) ?_
        refine lv_iload_n hx hb dX11_cry_51 rfl (lv_at hl 2 rfl) ?_
        refine lv_iload_n hx hb dX11_cry_52 rfl (lv_at hl 3 rfl) ?_
        obtain ⟨o10, ho10, hf⟩ := o_bd hf
        refine call_vV (q0 := 0) (ci := 11) hX (c_X11_roundNow l D a t q_t q_w q_isKept t_all t_corners t_hearers t_newAll t_newCorners t_newHearers q_beer q_cold q_stands q_pinched q_says q_text t_textSize t_at t_first t_faultOf t_fault t_spoke t_holds o9.1 q_seenDecree q_seenAt q_seenSpoke t_seen q_inSets q_book t_written pinched says o9.2 x1 x2 x3 o10.1 o10.2.1 o10.2.2 ho10) (cwV 3 hts gX11_cry_X11_roundNow rfl rfl rfl hdV_X11_roundNow ⟨by decide, by decide⟩) (Cut.of hA hP hD hS [0, 1, 2, 3] (by decide) rfl rfl (W' := [(q_t, .inr (11, [.ref q_w, .ref q_isKept, .int t_all, .int t_corners, .int t_hearers, .int t_newAll, .int t_newCorners, .int t_newHearers, .ref q_beer, .ref q_cold, .ref q_stands, .ref q_pinched, .ref q_says, .ref q_text, .int t_textSize, .int t_at, .int t_first, .int t_faultOf, .int t_fault, .int o10.1, .int o10.2.1, .int o9.1, .ref q_seenDecree, .ref q_seenAt, .ref q_seenSpoke, .int t_seen, .ref q_inSets, .ref q_book, .int t_written])), (q_pinched, .inl (a 0, 18, .inl pinched)), (q_says, .inl (a 0, 18, .inl says)), (q_w, .inl (a 0, 578, .inl o10.2.2))]) rfl) hS rfl rfl rfl hl.1 rfl (Nat.le_of_ble_eq_true rfl) dX11_cry_53 (by decide) (fun H locs hP hD hS => ?_)
        replace hP : va_P D vwCl [(q_t, .inr (11, [.ref q_w, .ref q_isKept, .int t_all, .int t_corners, .int t_hearers, .int t_newAll, .int t_newCorners, .int t_newHearers, .ref q_beer, .ref q_cold, .ref q_stands, .ref q_pinched, .ref q_says, .ref q_text, .int t_textSize, .int t_at, .int t_first, .int t_faultOf, .int t_fault, .int o10.1, .int o10.2.1, .int o9.1, .ref q_seenDecree, .ref q_seenAt, .ref q_seenSpoke, .int t_seen, .ref q_inSets, .ref q_book, .int t_written])), (q_pinched, .inl (a 0, 18, .inl pinched)), (q_says, .inl (a 0, 18, .inl says)), (q_w, .inl (a 0, 578, .inl o10.2.2))] H := hP
        replace hD : va_D A [(q_t, .inr (11, [.ref q_w, .ref q_isKept, .int t_all, .int t_corners, .int t_hearers, .int t_newAll, .int t_newCorners, .int t_newHearers, .ref q_beer, .ref q_cold, .ref q_stands, .ref q_pinched, .ref q_says, .ref q_text, .int t_textSize, .int t_at, .int t_first, .int t_faultOf, .int t_fault, .int o10.1, .int o10.2.1, .int o9.1, .ref q_seenDecree, .ref q_seenAt, .ref q_seenSpoke, .int t_seen, .ref q_inSets, .ref q_book, .int t_written])), (q_pinched, .inl (a 0, 18, .inl pinched)), (q_says, .inl (a 0, 18, .inl says)), (q_w, .inl (a 0, 578, .inl o10.2.2))] := hD
        refine lv_aload_n hx hb dX11_cry_56 rfl (lv_at hl 0 rfl) ?_
        refine g_get hX hiX11 hP 0 rfl rfl 0 (by decide) hk3 rfl rfl dX11_cry_57 ?_
        refine lv_bipush (v := (14 : Int32)) hx hb dX11_cry_60 (by decide) ?_
        obtain ⟨hiv11, hf⟩ := o_ldh hf
        refine g_iald hX hP 3 rfl hiv11 dX11_cry_62 (fun v11 ev11 => ?_)
        replace hf := hf v11 ev11
        cases hf
        exact hret _ _ _ _ (vp_nar_int _) hP hD hS dX11_cry_63
      replace hf := o_ifn hf c8
      refine lv_ldc (v := (-1000000004 : Int32)) hx hb hown hk4 dX11_cry_42 ?_
      cases hf
      exact hret _ _ _ _ (vp_nar_int _) hP hD hS dX11_cry_44
    replace hf := o_ifp hf c6
    refine lv_ldc (v := (-1000000002 : Int32)) hx hb hown hk2 dX11_cry_26 ?_
    cases hf
    exact hret _ _ _ _ (vp_nar_int _) hP hD hS dX11_cry_28
  replace hf := o_ifp hf c4
  refine lv_ldc (v := (-1000000001 : Int32)) hx hb hown hk1 dX11_cry_16 ?_
  cases hf
  exact hret _ _ _ _ (vp_nar_int _) hP hD hS dX11_cry_18
def f_X11_passMonth (w : Nat → Int32) : Option ((Nat → Int32)) :=
  (o_st w 578 (9 : Int32) (0 : Int32)).bind fun w1 =>
  (o_ld w1 578 (13 : Int32)).bind fun v2 =>
  (o_st w1 578 (13 : Int32) (v2 + (1 : Int32))).bind fun w3 =>
  some w3
theorem hdS_X11_passMonth : yX11_passMonth.cls ≠ "java/lang/invoke/MethodHandle" ∧ yX11_passMonth.cls ≠ "java/lang/invoke/VarHandle" ∧ (parseMethodDescriptor yX11_passMonth.desc).map (fun d => d.parameters.length) = some 0 := by decide +kernel
theorem hdV_X11_passMonth : yX11_passMonth.cls = RX11 ∧ yX11_passMonth.cls ≠ "java/lang/invoke/MethodHandle" ∧ yX11_passMonth.cls ≠ "java/lang/invoke/VarHandle" ∧ (parseMethodDescriptor yX11_passMonth.desc).map (fun d => d.parameters.length) = some 0 := ⟨rfl, hdS_X11_passMonth⟩
set_option maxHeartbeats 4000000 in
set_option maxRecDepth 100000 in
theorem c_X11_passMonth (l : Launch) (D : va_G) (a : Nat → ClassId) (t : Nat) (q_t : Nat) (q_w : Nat) (q_isKept : Nat) (t_all : Int32) (t_corners : Int32) (t_hearers : Int32) (t_newAll : Int32) (t_newCorners : Int32) (t_newHearers : Int32) (q_beer : Nat) (q_cold : Nat) (q_stands : Nat) (q_pinched : Nat) (q_says : Nat) (q_text : Nat) (t_textSize : Int32) (t_at : Int32) (t_first : Int32) (t_faultOf : Int32) (t_fault : Int32) (t_spoke : Int32) (t_holds : Int32) (t_undoMany : Int32) (q_seenDecree : Nat) (q_seenAt : Nat) (q_seenSpoke : Nat) (t_seen : Int32) (q_inSets : Nat) (q_book : Nat) (t_written : Int32) (w : Nat → Int32) (o_w : Nat → Int32) (hf : f_X11_passMonth w = some o_w) : Kv l yX11_passMonth wsX11_passMonth 0 0 D a t [.ref q_t] [(q_t, .inr (11, [.ref q_w, .ref q_isKept, .int t_all, .int t_corners, .int t_hearers, .int t_newAll, .int t_newCorners, .int t_newHearers, .ref q_beer, .ref q_cold, .ref q_stands, .ref q_pinched, .ref q_says, .ref q_text, .int t_textSize, .int t_at, .int t_first, .int t_faultOf, .int t_fault, .int t_spoke, .int t_holds, .int t_undoMany, .ref q_seenDecree, .ref q_seenAt, .ref q_seenSpoke, .int t_seen, .ref q_inSets, .ref q_book, .int t_written])), (q_w, .inl (a 0, 578, .inl w))] [(q_t, .inr (11, [.ref q_w, .ref q_isKept, .int t_all, .int t_corners, .int t_hearers, .int t_newAll, .int t_newCorners, .int t_newHearers, .ref q_beer, .ref q_cold, .ref q_stands, .ref q_pinched, .ref q_says, .ref q_text, .int t_textSize, .int t_at, .int t_first, .int t_faultOf, .int t_fault, .int t_spoke, .int t_holds, .int t_undoMany, .ref q_seenDecree, .ref q_seenAt, .ref q_seenSpoke, .int t_seen, .ref q_inSets, .ref q_book, .int t_written])), (q_w, .inl (a 0, 578, .inl o_w))] := by
  refine Kv.mk (cc := cX11_passMonth) (nL := 1) (own := RX11) (by decide) rfl rfl (Nat.le_of_ble_eq_true rfl) ?_
  intro p e s m args below meth c A Q ls hX hP hD hS hl hret
  have hx := hX.1.1
  have hb := hX.1.2.1
  have hown := hX.1.2.2.2.1
  have hts := hX.1.2.2.2.2
  have hN := hX.2.2.1
  have hA := hX.2.2.2.2
  have hl : lv_has ls 1 [(0, .ref q_t)] := hl
  have hk1 := hts (.fieldLink RX11 7 "GainsaidOnceModel" "w" "[I") (List.mem_of_getElem? (i := 1) rfl)
  have hiX11 : ∀ w ∈ wsX110, w ∈ wsX11_passMonth := (fun _ h => List.mem_cons_of_mem _ (List.mem_append_right _ h))
  unfold f_X11_passMonth at hf
  refine lv_aload_n hx hb dX11_passMonth_0 rfl (lv_at hl 0 rfl) ?_
  refine g_get hX hiX11 hP 0 rfl rfl 0 (by decide) hk1 rfl rfl dX11_passMonth_1 ?_
  refine lv_bipush (v := (9 : Int32)) hx hb dX11_passMonth_4 (by decide) ?_
  refine lv_iconst (v := (0 : Int32)) hx hb dX11_passMonth_6 (by decide) ?_
  obtain ⟨hiw1, hf⟩ := o_sth hf
  refine g_iast hX hP hD hS 1 rfl hiw1 dX11_passMonth_7 (fun w1 ew1 H locs hP hD hS => ?_)
  replace hf := hf w1 ew1
  replace hP : va_P D vwCl [(q_t, .inr (11, [.ref q_w, .ref q_isKept, .int t_all, .int t_corners, .int t_hearers, .int t_newAll, .int t_newCorners, .int t_newHearers, .ref q_beer, .ref q_cold, .ref q_stands, .ref q_pinched, .ref q_says, .ref q_text, .int t_textSize, .int t_at, .int t_first, .int t_faultOf, .int t_fault, .int t_spoke, .int t_holds, .int t_undoMany, .ref q_seenDecree, .ref q_seenAt, .ref q_seenSpoke, .int t_seen, .ref q_inSets, .ref q_book, .int t_written])), (q_w, .inl (a 0, 578, .inl w1))] H := hP
  replace hD : va_D A [(q_t, .inr (11, [.ref q_w, .ref q_isKept, .int t_all, .int t_corners, .int t_hearers, .int t_newAll, .int t_newCorners, .int t_newHearers, .ref q_beer, .ref q_cold, .ref q_stands, .ref q_pinched, .ref q_says, .ref q_text, .int t_textSize, .int t_at, .int t_first, .int t_faultOf, .int t_fault, .int t_spoke, .int t_holds, .int t_undoMany, .ref q_seenDecree, .ref q_seenAt, .ref q_seenSpoke, .int t_seen, .ref q_inSets, .ref q_book, .int t_written])), (q_w, .inl (a 0, 578, .inl w1))] := hD
  refine lv_aload_n hx hb dX11_passMonth_8 rfl (lv_at hl 0 rfl) ?_
  refine g_get hX hiX11 hP 0 rfl rfl 0 (by decide) hk1 rfl rfl dX11_passMonth_9 ?_
  refine lv_bipush (v := (13 : Int32)) hx hb dX11_passMonth_12 (by decide) ?_
  refine lv_dup2_11 hx hb dX11_passMonth_14 rfl rfl ?_
  obtain ⟨hiv2, hf⟩ := o_ldh hf
  refine g_iald hX hP 1 rfl hiv2 dX11_passMonth_15 (fun v2 ev2 => ?_)
  replace hf := hf v2 ev2
  refine lv_iconst (v := (1 : Int32)) hx hb dX11_passMonth_16 (by decide) ?_
  refine lv_iadd hx hb dX11_passMonth_17 ?_
  obtain ⟨hiw3, hf⟩ := o_sth hf
  refine g_iast hX hP hD hS 1 rfl hiw3 dX11_passMonth_18 (fun w3 ew3 H locs hP hD hS => ?_)
  replace hf := hf w3 ew3
  replace hP : va_P D vwCl [(q_t, .inr (11, [.ref q_w, .ref q_isKept, .int t_all, .int t_corners, .int t_hearers, .int t_newAll, .int t_newCorners, .int t_newHearers, .ref q_beer, .ref q_cold, .ref q_stands, .ref q_pinched, .ref q_says, .ref q_text, .int t_textSize, .int t_at, .int t_first, .int t_faultOf, .int t_fault, .int t_spoke, .int t_holds, .int t_undoMany, .ref q_seenDecree, .ref q_seenAt, .ref q_seenSpoke, .int t_seen, .ref q_inSets, .ref q_book, .int t_written])), (q_w, .inl (a 0, 578, .inl w3))] H := hP
  replace hD : va_D A [(q_t, .inr (11, [.ref q_w, .ref q_isKept, .int t_all, .int t_corners, .int t_hearers, .int t_newAll, .int t_newCorners, .int t_newHearers, .ref q_beer, .ref q_cold, .ref q_stands, .ref q_pinched, .ref q_says, .ref q_text, .int t_textSize, .int t_at, .int t_first, .int t_faultOf, .int t_fault, .int t_spoke, .int t_holds, .int t_undoMany, .ref q_seenDecree, .ref q_seenAt, .ref q_seenSpoke, .int t_seen, .ref q_inSets, .ref q_book, .int t_written])), (q_w, .inl (a 0, 578, .inl w3))] := hD
  cases hf
  exact hret _ _ _ _ hP hD hS dX11_passMonth_19
def f_X11_month (t_all : Int32) (t_undoMany : Int32) (w : Nat → Int32) : Option (Int32 × Int32 × (Nat → Int32)) :=
  if t_all = 0 then (some ((-1000000003 : Int32), t_undoMany, w))
  else ((o_ld w 578 (13 : Int32)).bind fun v2 =>
  if v2 ≤ (9000 : Int32) then ((f_X11_remember t_undoMany w).bind fun o4 =>
  (o_ld o4.2 578 (9 : Int32)).bind fun v5 =>
  (f_X11_ones v5).bind fun o6 =>
  (f_X11_passMonth o4.2).bind fun o7 =>
  some (o6, o4.1, o7))
  else (some ((-1000000004 : Int32), t_undoMany, w)))
theorem hdS_X11_month : yX11_month.cls ≠ "java/lang/invoke/MethodHandle" ∧ yX11_month.cls ≠ "java/lang/invoke/VarHandle" ∧ (parseMethodDescriptor yX11_month.desc).map (fun d => d.parameters.length) = some 0 := by decide +kernel
theorem hdV_X11_month : yX11_month.cls = RX11 ∧ yX11_month.cls ≠ "java/lang/invoke/MethodHandle" ∧ yX11_month.cls ≠ "java/lang/invoke/VarHandle" ∧ (parseMethodDescriptor yX11_month.desc).map (fun d => d.parameters.length) = some 0 := ⟨rfl, hdS_X11_month⟩
set_option maxHeartbeats 4000000 in
set_option maxRecDepth 100000 in
theorem c_X11_month (l : Launch) (D : va_G) (a : Nat → ClassId) (t : Nat) (q_t : Nat) (q_w : Nat) (q_isKept : Nat) (t_all : Int32) (t_corners : Int32) (t_hearers : Int32) (t_newAll : Int32) (t_newCorners : Int32) (t_newHearers : Int32) (q_beer : Nat) (q_cold : Nat) (q_stands : Nat) (q_pinched : Nat) (q_says : Nat) (q_text : Nat) (t_textSize : Int32) (t_at : Int32) (t_first : Int32) (t_faultOf : Int32) (t_fault : Int32) (t_spoke : Int32) (t_holds : Int32) (t_undoMany : Int32) (q_seenDecree : Nat) (q_seenAt : Nat) (q_seenSpoke : Nat) (t_seen : Int32) (q_inSets : Nat) (q_book : Nat) (t_written : Int32) (w : Nat → Int32) (r : Int32) (o_t_undoMany : Int32) (o_w : Nat → Int32) (hf : f_X11_month t_all t_undoMany w = some (r, o_t_undoMany, o_w)) : Ki l yX11_month wsX11_month 2 44 D a t [.ref q_t] [(q_t, .inr (11, [.ref q_w, .ref q_isKept, .int t_all, .int t_corners, .int t_hearers, .int t_newAll, .int t_newCorners, .int t_newHearers, .ref q_beer, .ref q_cold, .ref q_stands, .ref q_pinched, .ref q_says, .ref q_text, .int t_textSize, .int t_at, .int t_first, .int t_faultOf, .int t_fault, .int t_spoke, .int t_holds, .int t_undoMany, .ref q_seenDecree, .ref q_seenAt, .ref q_seenSpoke, .int t_seen, .ref q_inSets, .ref q_book, .int t_written])), (q_w, .inl (a 0, 578, .inl w))] [(q_t, .inr (11, [.ref q_w, .ref q_isKept, .int t_all, .int t_corners, .int t_hearers, .int t_newAll, .int t_newCorners, .int t_newHearers, .ref q_beer, .ref q_cold, .ref q_stands, .ref q_pinched, .ref q_says, .ref q_text, .int t_textSize, .int t_at, .int t_first, .int t_faultOf, .int t_fault, .int t_spoke, .int t_holds, .int o_t_undoMany, .ref q_seenDecree, .ref q_seenAt, .ref q_seenSpoke, .int t_seen, .ref q_inSets, .ref q_book, .int t_written])), (q_w, .inl (a 0, 578, .inl o_w))] r := by
  refine Ki.mk (cc := cX11_month) (nL := 2) (ty := .int) (own := RX11) (by decide) rfl rfl (Nat.le_of_ble_eq_true rfl) ?_
  intro p e s m args below meth c A Q ls hX hP hD hS hl hret
  have hx := hX.1.1
  have hb := hX.1.2.1
  have hown := hX.1.2.2.2.1
  have hts := hX.1.2.2.2.2
  have hN := hX.2.2.1
  have hA := hX.2.2.2.2
  have hl : lv_has ls 2 [(0, .ref q_t)] := hl
  have hk1 := hts (.fieldLink RX11 126 "GainsaidOnceModel" "all" "I") (List.mem_of_getElem? (i := 1) rfl)
  have hk2 := hts (.constant RX11 200 (-1000000003)) (List.mem_of_getElem? (i := 2) rfl)
  have hk3 := hts (.fieldLink RX11 7 "GainsaidOnceModel" "w" "[I") (List.mem_of_getElem? (i := 3) rfl)
  have hk4 := hts (.constant RX11 68 (-1000000004)) (List.mem_of_getElem? (i := 4) rfl)
  have hiX11 : ∀ w ∈ wsX110, w ∈ wsX11_month := (fun _ h => List.mem_cons_of_mem _ (List.mem_append_right _ h))
  unfold f_X11_month at hf
  refine lv_aload_n hx hb dX11_month_0 rfl (lv_at hl 0 rfl) ?_
  refine g_get hX hiX11 hP 0 rfl rfl 2 (by decide) hk1 rfl rfl dX11_month_1 ?_
  refine lv_if_ne (tgt := 10) hx hb dX11_month_4 (by decide) (fun c1 => ?_) (fun c1 => ?_)
  · replace hf := o_ifn hf c1
    refine lv_aload_n hx hb dX11_month_10 rfl (lv_at hl 0 rfl) ?_
    refine g_get hX hiX11 hP 0 rfl rfl 0 (by decide) hk3 rfl rfl dX11_month_11 ?_
    refine lv_bipush (v := (13 : Int32)) hx hb dX11_month_14 (by decide) ?_
    obtain ⟨hiv2, hf⟩ := o_ldh hf
    refine g_iald hX hP 1 rfl hiv2 dX11_month_16 (fun v2 ev2 => ?_)
    replace hf := hf v2 ev2
    refine lv_sipush (v := (9000 : Int32)) hx hb dX11_month_17 (by decide) ?_
    refine lv_icmp_le (tgt := 26) hx hb dX11_month_20 (by decide) (fun c3 => ?_) (fun c3 => ?_)
    · replace hf := o_ifp hf c3
      refine lv_aload_n hx hb dX11_month_26 rfl (lv_at hl 0 rfl) ?_
      obtain ⟨o4, ho4, hf⟩ := o_bd hf
      refine call_vV (q0 := 0) (ci := 11) hX (c_X11_remember l D a t q_t q_w q_isKept t_all t_corners t_hearers t_newAll t_newCorners t_newHearers q_beer q_cold q_stands q_pinched q_says q_text t_textSize t_at t_first t_faultOf t_fault t_spoke t_holds t_undoMany q_seenDecree q_seenAt q_seenSpoke t_seen q_inSets q_book t_written w o4.1 o4.2 ho4) (cwV 0 hts gX11_month_X11_remember rfl rfl rfl hdV_X11_remember ⟨by decide, by decide⟩) (Cut.of hA hP hD hS [0, 1] (by decide) rfl rfl (W' := [(q_t, .inr (11, [.ref q_w, .ref q_isKept, .int t_all, .int t_corners, .int t_hearers, .int t_newAll, .int t_newCorners, .int t_newHearers, .ref q_beer, .ref q_cold, .ref q_stands, .ref q_pinched, .ref q_says, .ref q_text, .int t_textSize, .int t_at, .int t_first, .int t_faultOf, .int t_fault, .int t_spoke, .int t_holds, .int o4.1, .ref q_seenDecree, .ref q_seenAt, .ref q_seenSpoke, .int t_seen, .ref q_inSets, .ref q_book, .int t_written])), (q_w, .inl (a 0, 578, .inl o4.2))]) rfl) hS rfl rfl rfl hl.1 rfl (Nat.le_of_ble_eq_true rfl) dX11_month_27 (by decide) (fun H locs hP hD hS => ?_)
      replace hP : va_P D vwCl [(q_t, .inr (11, [.ref q_w, .ref q_isKept, .int t_all, .int t_corners, .int t_hearers, .int t_newAll, .int t_newCorners, .int t_newHearers, .ref q_beer, .ref q_cold, .ref q_stands, .ref q_pinched, .ref q_says, .ref q_text, .int t_textSize, .int t_at, .int t_first, .int t_faultOf, .int t_fault, .int t_spoke, .int t_holds, .int o4.1, .ref q_seenDecree, .ref q_seenAt, .ref q_seenSpoke, .int t_seen, .ref q_inSets, .ref q_book, .int t_written])), (q_w, .inl (a 0, 578, .inl o4.2))] H := hP
      replace hD : va_D A [(q_t, .inr (11, [.ref q_w, .ref q_isKept, .int t_all, .int t_corners, .int t_hearers, .int t_newAll, .int t_newCorners, .int t_newHearers, .ref q_beer, .ref q_cold, .ref q_stands, .ref q_pinched, .ref q_says, .ref q_text, .int t_textSize, .int t_at, .int t_first, .int t_faultOf, .int t_fault, .int t_spoke, .int t_holds, .int o4.1, .ref q_seenDecree, .ref q_seenAt, .ref q_seenSpoke, .int t_seen, .ref q_inSets, .ref q_book, .int t_written])), (q_w, .inl (a 0, 578, .inl o4.2))] := hD
      refine lv_aload_n hx hb dX11_month_30 rfl (lv_at hl 0 rfl) ?_
      refine g_get hX hiX11 hP 0 rfl rfl 0 (by decide) hk3 rfl rfl dX11_month_31 ?_
      refine lv_bipush (v := (9 : Int32)) hx hb dX11_month_34 (by decide) ?_
      obtain ⟨hiv5, hf⟩ := o_ldh hf
      refine g_iald hX hP 1 rfl hiv5 dX11_month_36 (fun v5 ev5 => ?_)
      replace hf := hf v5 ev5
      obtain ⟨o6, ho6, hf⟩ := o_bd hf
      refine call_iS hX (c_X11_ones l D a t v5 o6 ho6) (va_cwS 1 hts gX11_month_X11_ones rfl rfl rfl hdS_X11_ones ⟨by decide, by decide⟩) (Cut.none hA hP hD hS) hS rfl hl.1 rfl (Nat.le_of_ble_eq_true rfl) dX11_month_37 (by decide) (fun H locs hP hD hS => ?_)
      refine lv_istore_n (lv' := [(1, .int o6), (0, .ref q_t)]) hx hb dX11_month_40 rfl hl (by decide) rfl (fun ls hl => ?_)
      refine lv_aload_n hx hb dX11_month_41 rfl (lv_at hl 1 rfl) ?_
      obtain ⟨o7, ho7, hf⟩ := o_bd hf
      refine call_vV (q0 := 0) (ci := 11) hX (c_X11_passMonth l D a t q_t q_w q_isKept t_all t_corners t_hearers t_newAll t_newCorners t_newHearers q_beer q_cold q_stands q_pinched q_says q_text t_textSize t_at t_first t_faultOf t_fault t_spoke t_holds o4.1 q_seenDecree q_seenAt q_seenSpoke t_seen q_inSets q_book t_written o4.2 o7 ho7) (cwV 0 hts gX11_month_X11_passMonth rfl rfl rfl hdV_X11_passMonth ⟨by decide, by decide⟩) (Cut.of hA hP hD hS [0, 1] (by decide) rfl rfl (W' := [(q_t, .inr (11, [.ref q_w, .ref q_isKept, .int t_all, .int t_corners, .int t_hearers, .int t_newAll, .int t_newCorners, .int t_newHearers, .ref q_beer, .ref q_cold, .ref q_stands, .ref q_pinched, .ref q_says, .ref q_text, .int t_textSize, .int t_at, .int t_first, .int t_faultOf, .int t_fault, .int t_spoke, .int t_holds, .int o4.1, .ref q_seenDecree, .ref q_seenAt, .ref q_seenSpoke, .int t_seen, .ref q_inSets, .ref q_book, .int t_written])), (q_w, .inl (a 0, 578, .inl o7))]) rfl) hS rfl rfl rfl hl.1 rfl (Nat.le_of_ble_eq_true rfl) dX11_month_42 (by decide) (fun H locs hP hD hS => ?_)
      replace hP : va_P D vwCl [(q_t, .inr (11, [.ref q_w, .ref q_isKept, .int t_all, .int t_corners, .int t_hearers, .int t_newAll, .int t_newCorners, .int t_newHearers, .ref q_beer, .ref q_cold, .ref q_stands, .ref q_pinched, .ref q_says, .ref q_text, .int t_textSize, .int t_at, .int t_first, .int t_faultOf, .int t_fault, .int t_spoke, .int t_holds, .int o4.1, .ref q_seenDecree, .ref q_seenAt, .ref q_seenSpoke, .int t_seen, .ref q_inSets, .ref q_book, .int t_written])), (q_w, .inl (a 0, 578, .inl o7))] H := hP
      replace hD : va_D A [(q_t, .inr (11, [.ref q_w, .ref q_isKept, .int t_all, .int t_corners, .int t_hearers, .int t_newAll, .int t_newCorners, .int t_newHearers, .ref q_beer, .ref q_cold, .ref q_stands, .ref q_pinched, .ref q_says, .ref q_text, .int t_textSize, .int t_at, .int t_first, .int t_faultOf, .int t_fault, .int t_spoke, .int t_holds, .int o4.1, .ref q_seenDecree, .ref q_seenAt, .ref q_seenSpoke, .int t_seen, .ref q_inSets, .ref q_book, .int t_written])), (q_w, .inl (a 0, 578, .inl o7))] := hD
      refine lv_iload_n hx hb dX11_month_45 rfl (lv_at hl 0 rfl) ?_
      cases hf
      exact hret _ _ _ _ (vp_nar_int _) hP hD hS dX11_month_46
    replace hf := o_ifn hf c3
    refine lv_ldc (v := (-1000000004 : Int32)) hx hb hown hk4 dX11_month_23 ?_
    cases hf
    exact hret _ _ _ _ (vp_nar_int _) hP hD hS dX11_month_25
  replace hf := o_ifp hf c1
  refine lv_ldc (v := (-1000000003 : Int32)) hx hb hown hk2 dX11_month_7 ?_
  cases hf
  exact hret _ _ _ _ (vp_nar_int _) hP hD hS dX11_month_9
def f_X11_withOrNot (x0 : Int32) (x1 : Int32) (x2 : Int32) : Option (Int32) :=
  if x2 = 0 then (some (x0 &&& (((1 : Int32) <<< (x1 &&& 31)) ^^^ (-1 : Int32))))
  else (some (x0 ||| ((1 : Int32) <<< (x1 &&& 31))))
theorem hdS_X11_withOrNot : yX11_withOrNot.cls ≠ "java/lang/invoke/MethodHandle" ∧ yX11_withOrNot.cls ≠ "java/lang/invoke/VarHandle" ∧ (parseMethodDescriptor yX11_withOrNot.desc).map (fun d => d.parameters.length) = some 3 := by decide +kernel
theorem hdV_X11_withOrNot : yX11_withOrNot.cls = RX11 ∧ yX11_withOrNot.cls ≠ "java/lang/invoke/MethodHandle" ∧ yX11_withOrNot.cls ≠ "java/lang/invoke/VarHandle" ∧ (parseMethodDescriptor yX11_withOrNot.desc).map (fun d => d.parameters.length) = some 3 := ⟨rfl, hdS_X11_withOrNot⟩
set_option maxHeartbeats 4000000 in
set_option maxRecDepth 100000 in
theorem c_X11_withOrNot (l : Launch) (D : va_G) (a : Nat → ClassId) (t : Nat) (x0 : Int32) (x1 : Int32) (x2 : Int32) (r : Int32) (hf : f_X11_withOrNot x0 x1 x2 = some r) : Ki l yX11_withOrNot wsX11_withOrNot 0 0 D a t [.int x0, .int x1, .int x2] [] [] r := by
  refine Ki.mk (cc := cX11_withOrNot) (nL := 3) (ty := .int) (own := RX11) (by decide) rfl rfl (Nat.le_of_ble_eq_true rfl) ?_
  intro p e s m args below meth c A Q ls hX hP hD hS hl hret
  have hx := hX.1.1
  have hb := hX.1.2.1
  have hown := hX.1.2.2.2.1
  have hts := hX.1.2.2.2.2
  have hN := hX.2.2.1
  have hA := hX.2.2.2.2
  have hl : lv_has ls 3 [(0, .int x0), (1, .int x1), (2, .int x2)] := hl
  unfold f_X11_withOrNot at hf
  refine lv_iload_n hx hb dX11_withOrNot_0 rfl (lv_at hl 2 rfl) ?_
  refine lv_if_eq (tgt := 12) hx hb dX11_withOrNot_1 (by decide) (fun c1 => ?_) (fun c1 => ?_)
  · replace hf := o_ifp hf c1
    refine lv_iload_n hx hb dX11_withOrNot_12 rfl (lv_at hl 0 rfl) ?_
    refine lv_iconst (v := (1 : Int32)) hx hb dX11_withOrNot_13 (by decide) ?_
    refine lv_iload_n hx hb dX11_withOrNot_14 rfl (lv_at hl 1 rfl) ?_
    refine lv_ishl hx hb dX11_withOrNot_15 ?_
    refine lv_iconst (v := (-1 : Int32)) hx hb dX11_withOrNot_16 (by decide) ?_
    refine lv_ixor hx hb dX11_withOrNot_17 ?_
    refine lv_iand hx hb dX11_withOrNot_18 ?_
    cases hf
    exact hret _ _ _ _ (vp_nar_int _) hP hD hS dX11_withOrNot_19
  replace hf := o_ifn hf c1
  refine lv_iload_n hx hb dX11_withOrNot_4 rfl (lv_at hl 0 rfl) ?_
  refine lv_iconst (v := (1 : Int32)) hx hb dX11_withOrNot_5 (by decide) ?_
  refine lv_iload_n hx hb dX11_withOrNot_6 rfl (lv_at hl 1 rfl) ?_
  refine lv_ishl hx hb dX11_withOrNot_7 ?_
  refine lv_ior hx hb dX11_withOrNot_8 ?_
  refine lv_goto (tgt := 19) hx hb dX11_withOrNot_9 (by decide) ?_
  cases hf
  exact hret _ _ _ _ (vp_nar_int _) hP hD hS dX11_withOrNot_19
def f_X11_keepIn (t_hearers : Int32) (t_undoMany : Int32) (w : Nat → Int32) (x1 : Int32) (x2 : Int32) : Option (Int32 × Int32 × (Nat → Int32)) :=
  (f_X11_isHearer t_hearers x1).bind fun o1 =>
  if o1 = 0 then (some ((-1000000001 : Int32), t_undoMany, w))
  else ((f_X11_remember t_undoMany w).bind fun o3 =>
  (o_ld o3.2 578 (10 : Int32)).bind fun v4 =>
  o_nm (((v4 >>> (x1 &&& 31)) &&& (1 : Int32))) fun v5 =>
  (o_ld o3.2 578 (10 : Int32)).bind fun v6 =>
  (f_X11_withOrNot v6 x1 x2).bind fun o7 =>
  (o_st o3.2 578 (10 : Int32) o7).bind fun w8 =>
  some (v5, o3.1, w8))
theorem hdS_X11_keepIn : yX11_keepIn.cls ≠ "java/lang/invoke/MethodHandle" ∧ yX11_keepIn.cls ≠ "java/lang/invoke/VarHandle" ∧ (parseMethodDescriptor yX11_keepIn.desc).map (fun d => d.parameters.length) = some 2 := by decide +kernel
theorem hdV_X11_keepIn : yX11_keepIn.cls = RX11 ∧ yX11_keepIn.cls ≠ "java/lang/invoke/MethodHandle" ∧ yX11_keepIn.cls ≠ "java/lang/invoke/VarHandle" ∧ (parseMethodDescriptor yX11_keepIn.desc).map (fun d => d.parameters.length) = some 2 := ⟨rfl, hdS_X11_keepIn⟩
set_option maxHeartbeats 4000000 in
set_option maxRecDepth 100000 in
theorem c_X11_keepIn (l : Launch) (D : va_G) (a : Nat → ClassId) (t : Nat) (q_t : Nat) (q_w : Nat) (q_isKept : Nat) (t_all : Int32) (t_corners : Int32) (t_hearers : Int32) (t_newAll : Int32) (t_newCorners : Int32) (t_newHearers : Int32) (q_beer : Nat) (q_cold : Nat) (q_stands : Nat) (q_pinched : Nat) (q_says : Nat) (q_text : Nat) (t_textSize : Int32) (t_at : Int32) (t_first : Int32) (t_faultOf : Int32) (t_fault : Int32) (t_spoke : Int32) (t_holds : Int32) (t_undoMany : Int32) (q_seenDecree : Nat) (q_seenAt : Nat) (q_seenSpoke : Nat) (t_seen : Int32) (q_inSets : Nat) (q_book : Nat) (t_written : Int32) (w : Nat → Int32) (x1 : Int32) (x2 : Int32) (r : Int32) (o_t_undoMany : Int32) (o_w : Nat → Int32) (hf : f_X11_keepIn t_hearers t_undoMany w x1 x2 = some (r, o_t_undoMany, o_w)) : Ki l yX11_keepIn wsX11_keepIn 2 46 D a t [.ref q_t, .int x1, .int x2] [(q_t, .inr (11, [.ref q_w, .ref q_isKept, .int t_all, .int t_corners, .int t_hearers, .int t_newAll, .int t_newCorners, .int t_newHearers, .ref q_beer, .ref q_cold, .ref q_stands, .ref q_pinched, .ref q_says, .ref q_text, .int t_textSize, .int t_at, .int t_first, .int t_faultOf, .int t_fault, .int t_spoke, .int t_holds, .int t_undoMany, .ref q_seenDecree, .ref q_seenAt, .ref q_seenSpoke, .int t_seen, .ref q_inSets, .ref q_book, .int t_written])), (q_w, .inl (a 0, 578, .inl w))] [(q_t, .inr (11, [.ref q_w, .ref q_isKept, .int t_all, .int t_corners, .int t_hearers, .int t_newAll, .int t_newCorners, .int t_newHearers, .ref q_beer, .ref q_cold, .ref q_stands, .ref q_pinched, .ref q_says, .ref q_text, .int t_textSize, .int t_at, .int t_first, .int t_faultOf, .int t_fault, .int t_spoke, .int t_holds, .int o_t_undoMany, .ref q_seenDecree, .ref q_seenAt, .ref q_seenSpoke, .int t_seen, .ref q_inSets, .ref q_book, .int t_written])), (q_w, .inl (a 0, 578, .inl o_w))] r := by
  refine Ki.mk (cc := cX11_keepIn) (nL := 4) (ty := .int) (own := RX11) (by decide) rfl rfl (Nat.le_of_ble_eq_true rfl) ?_
  intro p e s m args below meth c A Q ls hX hP hD hS hl hret
  have hx := hX.1.1
  have hb := hX.1.2.1
  have hown := hX.1.2.2.2.1
  have hts := hX.1.2.2.2.2
  have hN := hX.2.2.1
  have hA := hX.2.2.2.2
  have hl : lv_has ls 4 [(0, .ref q_t), (1, .int x1), (2, .int x2)] := hl
  have hk1 := hts (.constant RX11 149 (-1000000001)) (List.mem_of_getElem? (i := 1) rfl)
  have hk2 := hts (.fieldLink RX11 7 "GainsaidOnceModel" "w" "[I") (List.mem_of_getElem? (i := 2) rfl)
  have hiX11 : ∀ w ∈ wsX110, w ∈ wsX11_keepIn := (fun _ h => List.mem_cons_of_mem _ (List.mem_append_right _ h))
  unfold f_X11_keepIn at hf
  refine lv_aload_n hx hb dX11_keepIn_0 rfl (lv_at hl 0 rfl) ?_
  refine lv_iload_n hx hb dX11_keepIn_1 rfl (lv_at hl 1 rfl) ?_
  obtain ⟨o1, ho1, hf⟩ := o_bd hf
  refine call_iV (q0 := 0) (ci := 11) hX (c_X11_isHearer l D a t q_t q_w q_isKept t_all t_corners t_hearers t_newAll t_newCorners t_newHearers q_beer q_cold q_stands q_pinched q_says q_text t_textSize t_at t_first t_faultOf t_fault t_spoke t_holds t_undoMany q_seenDecree q_seenAt q_seenSpoke t_seen q_inSets q_book t_written x1 o1 ho1) (cwV 1 hts gX11_keepIn_X11_isHearer rfl rfl rfl hdV_X11_isHearer ⟨by decide, by decide⟩) (Cut.of hA hP hD hS [0] (by decide) rfl rfl (W' := [(q_t, .inr (11, [.ref q_w, .ref q_isKept, .int t_all, .int t_corners, .int t_hearers, .int t_newAll, .int t_newCorners, .int t_newHearers, .ref q_beer, .ref q_cold, .ref q_stands, .ref q_pinched, .ref q_says, .ref q_text, .int t_textSize, .int t_at, .int t_first, .int t_faultOf, .int t_fault, .int t_spoke, .int t_holds, .int t_undoMany, .ref q_seenDecree, .ref q_seenAt, .ref q_seenSpoke, .int t_seen, .ref q_inSets, .ref q_book, .int t_written])), (q_w, .inl (a 0, 578, .inl w))]) rfl) hS rfl rfl rfl hl.1 rfl (Nat.le_of_ble_eq_true rfl) dX11_keepIn_2 (by decide) (fun H locs hP hD hS => ?_)
  replace hP : va_P D vwCl [(q_t, .inr (11, [.ref q_w, .ref q_isKept, .int t_all, .int t_corners, .int t_hearers, .int t_newAll, .int t_newCorners, .int t_newHearers, .ref q_beer, .ref q_cold, .ref q_stands, .ref q_pinched, .ref q_says, .ref q_text, .int t_textSize, .int t_at, .int t_first, .int t_faultOf, .int t_fault, .int t_spoke, .int t_holds, .int t_undoMany, .ref q_seenDecree, .ref q_seenAt, .ref q_seenSpoke, .int t_seen, .ref q_inSets, .ref q_book, .int t_written])), (q_w, .inl (a 0, 578, .inl w))] H := hP
  replace hD : va_D A [(q_t, .inr (11, [.ref q_w, .ref q_isKept, .int t_all, .int t_corners, .int t_hearers, .int t_newAll, .int t_newCorners, .int t_newHearers, .ref q_beer, .ref q_cold, .ref q_stands, .ref q_pinched, .ref q_says, .ref q_text, .int t_textSize, .int t_at, .int t_first, .int t_faultOf, .int t_fault, .int t_spoke, .int t_holds, .int t_undoMany, .ref q_seenDecree, .ref q_seenAt, .ref q_seenSpoke, .int t_seen, .ref q_inSets, .ref q_book, .int t_written])), (q_w, .inl (a 0, 578, .inl w))] := hD
  refine lv_if_ne (tgt := 11) hx hb dX11_keepIn_5 (by decide) (fun c2 => ?_) (fun c2 => ?_)
  · replace hf := o_ifn hf c2
    refine lv_aload_n hx hb dX11_keepIn_11 rfl (lv_at hl 0 rfl) ?_
    obtain ⟨o3, ho3, hf⟩ := o_bd hf
    refine call_vV (q0 := 0) (ci := 11) hX (c_X11_remember l D a t q_t q_w q_isKept t_all t_corners t_hearers t_newAll t_newCorners t_newHearers q_beer q_cold q_stands q_pinched q_says q_text t_textSize t_at t_first t_faultOf t_fault t_spoke t_holds t_undoMany q_seenDecree q_seenAt q_seenSpoke t_seen q_inSets q_book t_written w o3.1 o3.2 ho3) (cwV 0 hts gX11_keepIn_X11_remember rfl rfl rfl hdV_X11_remember ⟨by decide, by decide⟩) (Cut.of hA hP hD hS [0, 1] (by decide) rfl rfl (W' := [(q_t, .inr (11, [.ref q_w, .ref q_isKept, .int t_all, .int t_corners, .int t_hearers, .int t_newAll, .int t_newCorners, .int t_newHearers, .ref q_beer, .ref q_cold, .ref q_stands, .ref q_pinched, .ref q_says, .ref q_text, .int t_textSize, .int t_at, .int t_first, .int t_faultOf, .int t_fault, .int t_spoke, .int t_holds, .int o3.1, .ref q_seenDecree, .ref q_seenAt, .ref q_seenSpoke, .int t_seen, .ref q_inSets, .ref q_book, .int t_written])), (q_w, .inl (a 0, 578, .inl o3.2))]) rfl) hS rfl rfl rfl hl.1 rfl (Nat.le_of_ble_eq_true rfl) dX11_keepIn_12 (by decide) (fun H locs hP hD hS => ?_)
    replace hP : va_P D vwCl [(q_t, .inr (11, [.ref q_w, .ref q_isKept, .int t_all, .int t_corners, .int t_hearers, .int t_newAll, .int t_newCorners, .int t_newHearers, .ref q_beer, .ref q_cold, .ref q_stands, .ref q_pinched, .ref q_says, .ref q_text, .int t_textSize, .int t_at, .int t_first, .int t_faultOf, .int t_fault, .int t_spoke, .int t_holds, .int o3.1, .ref q_seenDecree, .ref q_seenAt, .ref q_seenSpoke, .int t_seen, .ref q_inSets, .ref q_book, .int t_written])), (q_w, .inl (a 0, 578, .inl o3.2))] H := hP
    replace hD : va_D A [(q_t, .inr (11, [.ref q_w, .ref q_isKept, .int t_all, .int t_corners, .int t_hearers, .int t_newAll, .int t_newCorners, .int t_newHearers, .ref q_beer, .ref q_cold, .ref q_stands, .ref q_pinched, .ref q_says, .ref q_text, .int t_textSize, .int t_at, .int t_first, .int t_faultOf, .int t_fault, .int t_spoke, .int t_holds, .int o3.1, .ref q_seenDecree, .ref q_seenAt, .ref q_seenSpoke, .int t_seen, .ref q_inSets, .ref q_book, .int t_written])), (q_w, .inl (a 0, 578, .inl o3.2))] := hD
    refine lv_aload_n hx hb dX11_keepIn_15 rfl (lv_at hl 0 rfl) ?_
    refine g_get hX hiX11 hP 0 rfl rfl 0 (by decide) hk2 rfl rfl dX11_keepIn_16 ?_
    refine lv_bipush (v := (10 : Int32)) hx hb dX11_keepIn_19 (by decide) ?_
    obtain ⟨hiv4, hf⟩ := o_ldh hf
    refine g_iald hX hP 1 rfl hiv4 dX11_keepIn_21 (fun v4 ev4 => ?_)
    replace hf := hf v4 ev4
    refine lv_iload_n hx hb dX11_keepIn_22 rfl (lv_at hl 1 rfl) ?_
    refine lv_ishr hx hb dX11_keepIn_23 ?_
    refine lv_iconst (v := (1 : Int32)) hx hb dX11_keepIn_24 (by decide) ?_
    refine lv_iand hx hb dX11_keepIn_25 ?_
    refine lv_topi (fun v5 ev5 => ?_)
    replace hf := o_nmh hf v5 ev5
    refine lv_istore_n (lv' := [(3, .int v5), (0, .ref q_t), (1, .int x1), (2, .int x2)]) hx hb dX11_keepIn_26 rfl hl (by decide) rfl (fun ls hl => ?_)
    refine lv_aload_n hx hb dX11_keepIn_27 rfl (lv_at hl 1 rfl) ?_
    refine g_get hX hiX11 hP 0 rfl rfl 0 (by decide) hk2 rfl rfl dX11_keepIn_28 ?_
    refine lv_bipush (v := (10 : Int32)) hx hb dX11_keepIn_31 (by decide) ?_
    refine lv_aload_n hx hb dX11_keepIn_33 rfl (lv_at hl 1 rfl) ?_
    refine g_get hX hiX11 hP 0 rfl rfl 0 (by decide) hk2 rfl rfl dX11_keepIn_34 ?_
    refine lv_bipush (v := (10 : Int32)) hx hb dX11_keepIn_37 (by decide) ?_
    obtain ⟨hiv6, hf⟩ := o_ldh hf
    refine g_iald hX hP 1 rfl hiv6 dX11_keepIn_39 (fun v6 ev6 => ?_)
    replace hf := hf v6 ev6
    refine lv_iload_n hx hb dX11_keepIn_40 rfl (lv_at hl 2 rfl) ?_
    refine lv_iload_n hx hb dX11_keepIn_41 rfl (lv_at hl 3 rfl) ?_
    obtain ⟨o7, ho7, hf⟩ := o_bd hf
    refine call_iS hX (c_X11_withOrNot l D a t v6 x1 x2 o7 ho7) (va_cwS 3 hts gX11_keepIn_X11_withOrNot rfl rfl rfl hdS_X11_withOrNot ⟨by decide, by decide⟩) (Cut.none hA hP hD hS) hS rfl hl.1 rfl (Nat.le_of_ble_eq_true rfl) dX11_keepIn_42 (by decide) (fun H locs hP hD hS => ?_)
    obtain ⟨hiw8, hf⟩ := o_sth hf
    refine g_iast hX hP hD hS 1 rfl hiw8 dX11_keepIn_45 (fun w8 ew8 H locs hP hD hS => ?_)
    replace hf := hf w8 ew8
    replace hP : va_P D vwCl [(q_t, .inr (11, [.ref q_w, .ref q_isKept, .int t_all, .int t_corners, .int t_hearers, .int t_newAll, .int t_newCorners, .int t_newHearers, .ref q_beer, .ref q_cold, .ref q_stands, .ref q_pinched, .ref q_says, .ref q_text, .int t_textSize, .int t_at, .int t_first, .int t_faultOf, .int t_fault, .int t_spoke, .int t_holds, .int o3.1, .ref q_seenDecree, .ref q_seenAt, .ref q_seenSpoke, .int t_seen, .ref q_inSets, .ref q_book, .int t_written])), (q_w, .inl (a 0, 578, .inl w8))] H := hP
    replace hD : va_D A [(q_t, .inr (11, [.ref q_w, .ref q_isKept, .int t_all, .int t_corners, .int t_hearers, .int t_newAll, .int t_newCorners, .int t_newHearers, .ref q_beer, .ref q_cold, .ref q_stands, .ref q_pinched, .ref q_says, .ref q_text, .int t_textSize, .int t_at, .int t_first, .int t_faultOf, .int t_fault, .int t_spoke, .int t_holds, .int o3.1, .ref q_seenDecree, .ref q_seenAt, .ref q_seenSpoke, .int t_seen, .ref q_inSets, .ref q_book, .int t_written])), (q_w, .inl (a 0, 578, .inl w8))] := hD
    refine lv_iload_n hx hb dX11_keepIn_46 rfl (lv_at hl 0 rfl) ?_
    cases hf
    exact hret _ _ _ _ (vp_nar_int _) hP hD hS dX11_keepIn_47
  replace hf := o_ifp hf c2
  refine lv_ldc (v := (-1000000001 : Int32)) hx hb hown hk1 dX11_keepIn_8 ?_
  cases hf
  exact hret _ _ _ _ (vp_nar_int _) hP hD hS dX11_keepIn_10
def f_X11_move (t_corners : Int32) (t_hearers : Int32) (t_undoMany : Int32) (w : Nat → Int32) (x1 : Int32) (x2 : Int32) : Option (Int32 × Int32 × (Nat → Int32)) :=
  (f_X11_isHearer t_hearers x1).bind fun o1 =>
  if o1 = 0 then (some ((-1000000001 : Int32), t_undoMany, w))
  else ((f_X11_isCorner t_corners x2).bind fun o3 =>
  if o3 = 0 then (some ((-1000000001 : Int32), t_undoMany, w))
  else ((f_X11_remember t_undoMany w).bind fun o5 =>
  (o_ld o5.2 578 x1).bind fun v6 =>
  (o_st o5.2 578 x1 x2).bind fun w7 =>
  some (v6, o5.1, w7)))
theorem hdS_X11_move : yX11_move.cls ≠ "java/lang/invoke/MethodHandle" ∧ yX11_move.cls ≠ "java/lang/invoke/VarHandle" ∧ (parseMethodDescriptor yX11_move.desc).map (fun d => d.parameters.length) = some 2 := by decide +kernel
theorem hdV_X11_move : yX11_move.cls = RX11 ∧ yX11_move.cls ≠ "java/lang/invoke/MethodHandle" ∧ yX11_move.cls ≠ "java/lang/invoke/VarHandle" ∧ (parseMethodDescriptor yX11_move.desc).map (fun d => d.parameters.length) = some 2 := ⟨rfl, hdS_X11_move⟩
set_option maxHeartbeats 4000000 in
set_option maxRecDepth 100000 in
theorem c_X11_move (l : Launch) (D : va_G) (a : Nat → ClassId) (t : Nat) (q_t : Nat) (q_w : Nat) (q_isKept : Nat) (t_all : Int32) (t_corners : Int32) (t_hearers : Int32) (t_newAll : Int32) (t_newCorners : Int32) (t_newHearers : Int32) (q_beer : Nat) (q_cold : Nat) (q_stands : Nat) (q_pinched : Nat) (q_says : Nat) (q_text : Nat) (t_textSize : Int32) (t_at : Int32) (t_first : Int32) (t_faultOf : Int32) (t_fault : Int32) (t_spoke : Int32) (t_holds : Int32) (t_undoMany : Int32) (q_seenDecree : Nat) (q_seenAt : Nat) (q_seenSpoke : Nat) (t_seen : Int32) (q_inSets : Nat) (q_book : Nat) (t_written : Int32) (w : Nat → Int32) (x1 : Int32) (x2 : Int32) (r : Int32) (o_t_undoMany : Int32) (o_w : Nat → Int32) (hf : f_X11_move t_corners t_hearers t_undoMany w x1 x2 = some (r, o_t_undoMany, o_w)) : Ki l yX11_move wsX11_move 2 46 D a t [.ref q_t, .int x1, .int x2] [(q_t, .inr (11, [.ref q_w, .ref q_isKept, .int t_all, .int t_corners, .int t_hearers, .int t_newAll, .int t_newCorners, .int t_newHearers, .ref q_beer, .ref q_cold, .ref q_stands, .ref q_pinched, .ref q_says, .ref q_text, .int t_textSize, .int t_at, .int t_first, .int t_faultOf, .int t_fault, .int t_spoke, .int t_holds, .int t_undoMany, .ref q_seenDecree, .ref q_seenAt, .ref q_seenSpoke, .int t_seen, .ref q_inSets, .ref q_book, .int t_written])), (q_w, .inl (a 0, 578, .inl w))] [(q_t, .inr (11, [.ref q_w, .ref q_isKept, .int t_all, .int t_corners, .int t_hearers, .int t_newAll, .int t_newCorners, .int t_newHearers, .ref q_beer, .ref q_cold, .ref q_stands, .ref q_pinched, .ref q_says, .ref q_text, .int t_textSize, .int t_at, .int t_first, .int t_faultOf, .int t_fault, .int t_spoke, .int t_holds, .int o_t_undoMany, .ref q_seenDecree, .ref q_seenAt, .ref q_seenSpoke, .int t_seen, .ref q_inSets, .ref q_book, .int t_written])), (q_w, .inl (a 0, 578, .inl o_w))] r := by
  refine Ki.mk (cc := cX11_move) (nL := 4) (ty := .int) (own := RX11) (by decide) rfl rfl (Nat.le_of_ble_eq_true rfl) ?_
  intro p e s m args below meth c A Q ls hX hP hD hS hl hret
  have hx := hX.1.1
  have hb := hX.1.2.1
  have hown := hX.1.2.2.2.1
  have hts := hX.1.2.2.2.2
  have hN := hX.2.2.1
  have hA := hX.2.2.2.2
  have hl : lv_has ls 4 [(0, .ref q_t), (1, .int x1), (2, .int x2)] := hl
  have hk1 := hts (.constant RX11 149 (-1000000001)) (List.mem_of_getElem? (i := 1) rfl)
  have hk2 := hts (.fieldLink RX11 7 "GainsaidOnceModel" "w" "[I") (List.mem_of_getElem? (i := 2) rfl)
  have hiX11 : ∀ w ∈ wsX110, w ∈ wsX11_move := (fun _ h => List.mem_cons_of_mem _ (List.mem_append_right _ h))
  unfold f_X11_move at hf
  refine lv_aload_n hx hb dX11_move_0 rfl (lv_at hl 0 rfl) ?_
  refine lv_iload_n hx hb dX11_move_1 rfl (lv_at hl 1 rfl) ?_
  obtain ⟨o1, ho1, hf⟩ := o_bd hf
  refine call_iV (q0 := 0) (ci := 11) hX (c_X11_isHearer l D a t q_t q_w q_isKept t_all t_corners t_hearers t_newAll t_newCorners t_newHearers q_beer q_cold q_stands q_pinched q_says q_text t_textSize t_at t_first t_faultOf t_fault t_spoke t_holds t_undoMany q_seenDecree q_seenAt q_seenSpoke t_seen q_inSets q_book t_written x1 o1 ho1) (cwV 1 hts gX11_move_X11_isHearer rfl rfl rfl hdV_X11_isHearer ⟨by decide, by decide⟩) (Cut.of hA hP hD hS [0] (by decide) rfl rfl (W' := [(q_t, .inr (11, [.ref q_w, .ref q_isKept, .int t_all, .int t_corners, .int t_hearers, .int t_newAll, .int t_newCorners, .int t_newHearers, .ref q_beer, .ref q_cold, .ref q_stands, .ref q_pinched, .ref q_says, .ref q_text, .int t_textSize, .int t_at, .int t_first, .int t_faultOf, .int t_fault, .int t_spoke, .int t_holds, .int t_undoMany, .ref q_seenDecree, .ref q_seenAt, .ref q_seenSpoke, .int t_seen, .ref q_inSets, .ref q_book, .int t_written])), (q_w, .inl (a 0, 578, .inl w))]) rfl) hS rfl rfl rfl hl.1 rfl (Nat.le_of_ble_eq_true rfl) dX11_move_2 (by decide) (fun H locs hP hD hS => ?_)
  replace hP : va_P D vwCl [(q_t, .inr (11, [.ref q_w, .ref q_isKept, .int t_all, .int t_corners, .int t_hearers, .int t_newAll, .int t_newCorners, .int t_newHearers, .ref q_beer, .ref q_cold, .ref q_stands, .ref q_pinched, .ref q_says, .ref q_text, .int t_textSize, .int t_at, .int t_first, .int t_faultOf, .int t_fault, .int t_spoke, .int t_holds, .int t_undoMany, .ref q_seenDecree, .ref q_seenAt, .ref q_seenSpoke, .int t_seen, .ref q_inSets, .ref q_book, .int t_written])), (q_w, .inl (a 0, 578, .inl w))] H := hP
  replace hD : va_D A [(q_t, .inr (11, [.ref q_w, .ref q_isKept, .int t_all, .int t_corners, .int t_hearers, .int t_newAll, .int t_newCorners, .int t_newHearers, .ref q_beer, .ref q_cold, .ref q_stands, .ref q_pinched, .ref q_says, .ref q_text, .int t_textSize, .int t_at, .int t_first, .int t_faultOf, .int t_fault, .int t_spoke, .int t_holds, .int t_undoMany, .ref q_seenDecree, .ref q_seenAt, .ref q_seenSpoke, .int t_seen, .ref q_inSets, .ref q_book, .int t_written])), (q_w, .inl (a 0, 578, .inl w))] := hD
  refine lv_if_eq (tgt := 16) hx hb dX11_move_5 (by decide) (fun c2 => ?_) (fun c2 => ?_)
  · replace hf := o_ifp hf c2
    refine lv_ldc (v := (-1000000001 : Int32)) hx hb hown hk1 dX11_move_16 ?_
    cases hf
    exact hret _ _ _ _ (vp_nar_int _) hP hD hS dX11_move_18
  replace hf := o_ifn hf c2
  refine lv_aload_n hx hb dX11_move_8 rfl (lv_at hl 0 rfl) ?_
  refine lv_iload_n hx hb dX11_move_9 rfl (lv_at hl 2 rfl) ?_
  obtain ⟨o3, ho3, hf⟩ := o_bd hf
  refine call_iV (q0 := 0) (ci := 11) hX (c_X11_isCorner l D a t q_t q_w q_isKept t_all t_corners t_hearers t_newAll t_newCorners t_newHearers q_beer q_cold q_stands q_pinched q_says q_text t_textSize t_at t_first t_faultOf t_fault t_spoke t_holds t_undoMany q_seenDecree q_seenAt q_seenSpoke t_seen q_inSets q_book t_written x2 o3 ho3) (cwV 1 hts gX11_move_X11_isCorner rfl rfl rfl hdV_X11_isCorner ⟨by decide, by decide⟩) (Cut.of hA hP hD hS [0] (by decide) rfl rfl (W' := [(q_t, .inr (11, [.ref q_w, .ref q_isKept, .int t_all, .int t_corners, .int t_hearers, .int t_newAll, .int t_newCorners, .int t_newHearers, .ref q_beer, .ref q_cold, .ref q_stands, .ref q_pinched, .ref q_says, .ref q_text, .int t_textSize, .int t_at, .int t_first, .int t_faultOf, .int t_fault, .int t_spoke, .int t_holds, .int t_undoMany, .ref q_seenDecree, .ref q_seenAt, .ref q_seenSpoke, .int t_seen, .ref q_inSets, .ref q_book, .int t_written])), (q_w, .inl (a 0, 578, .inl w))]) rfl) hS rfl rfl rfl hl.1 rfl (Nat.le_of_ble_eq_true rfl) dX11_move_10 (by decide) (fun H locs hP hD hS => ?_)
  replace hP : va_P D vwCl [(q_t, .inr (11, [.ref q_w, .ref q_isKept, .int t_all, .int t_corners, .int t_hearers, .int t_newAll, .int t_newCorners, .int t_newHearers, .ref q_beer, .ref q_cold, .ref q_stands, .ref q_pinched, .ref q_says, .ref q_text, .int t_textSize, .int t_at, .int t_first, .int t_faultOf, .int t_fault, .int t_spoke, .int t_holds, .int t_undoMany, .ref q_seenDecree, .ref q_seenAt, .ref q_seenSpoke, .int t_seen, .ref q_inSets, .ref q_book, .int t_written])), (q_w, .inl (a 0, 578, .inl w))] H := hP
  replace hD : va_D A [(q_t, .inr (11, [.ref q_w, .ref q_isKept, .int t_all, .int t_corners, .int t_hearers, .int t_newAll, .int t_newCorners, .int t_newHearers, .ref q_beer, .ref q_cold, .ref q_stands, .ref q_pinched, .ref q_says, .ref q_text, .int t_textSize, .int t_at, .int t_first, .int t_faultOf, .int t_fault, .int t_spoke, .int t_holds, .int t_undoMany, .ref q_seenDecree, .ref q_seenAt, .ref q_seenSpoke, .int t_seen, .ref q_inSets, .ref q_book, .int t_written])), (q_w, .inl (a 0, 578, .inl w))] := hD
  refine lv_if_ne (tgt := 19) hx hb dX11_move_13 (by decide) (fun c4 => ?_) (fun c4 => ?_)
  · replace hf := o_ifn hf c4
    refine lv_aload_n hx hb dX11_move_19 rfl (lv_at hl 0 rfl) ?_
    obtain ⟨o5, ho5, hf⟩ := o_bd hf
    refine call_vV (q0 := 0) (ci := 11) hX (c_X11_remember l D a t q_t q_w q_isKept t_all t_corners t_hearers t_newAll t_newCorners t_newHearers q_beer q_cold q_stands q_pinched q_says q_text t_textSize t_at t_first t_faultOf t_fault t_spoke t_holds t_undoMany q_seenDecree q_seenAt q_seenSpoke t_seen q_inSets q_book t_written w o5.1 o5.2 ho5) (cwV 0 hts gX11_move_X11_remember rfl rfl rfl hdV_X11_remember ⟨by decide, by decide⟩) (Cut.of hA hP hD hS [0, 1] (by decide) rfl rfl (W' := [(q_t, .inr (11, [.ref q_w, .ref q_isKept, .int t_all, .int t_corners, .int t_hearers, .int t_newAll, .int t_newCorners, .int t_newHearers, .ref q_beer, .ref q_cold, .ref q_stands, .ref q_pinched, .ref q_says, .ref q_text, .int t_textSize, .int t_at, .int t_first, .int t_faultOf, .int t_fault, .int t_spoke, .int t_holds, .int o5.1, .ref q_seenDecree, .ref q_seenAt, .ref q_seenSpoke, .int t_seen, .ref q_inSets, .ref q_book, .int t_written])), (q_w, .inl (a 0, 578, .inl o5.2))]) rfl) hS rfl rfl rfl hl.1 rfl (Nat.le_of_ble_eq_true rfl) dX11_move_20 (by decide) (fun H locs hP hD hS => ?_)
    replace hP : va_P D vwCl [(q_t, .inr (11, [.ref q_w, .ref q_isKept, .int t_all, .int t_corners, .int t_hearers, .int t_newAll, .int t_newCorners, .int t_newHearers, .ref q_beer, .ref q_cold, .ref q_stands, .ref q_pinched, .ref q_says, .ref q_text, .int t_textSize, .int t_at, .int t_first, .int t_faultOf, .int t_fault, .int t_spoke, .int t_holds, .int o5.1, .ref q_seenDecree, .ref q_seenAt, .ref q_seenSpoke, .int t_seen, .ref q_inSets, .ref q_book, .int t_written])), (q_w, .inl (a 0, 578, .inl o5.2))] H := hP
    replace hD : va_D A [(q_t, .inr (11, [.ref q_w, .ref q_isKept, .int t_all, .int t_corners, .int t_hearers, .int t_newAll, .int t_newCorners, .int t_newHearers, .ref q_beer, .ref q_cold, .ref q_stands, .ref q_pinched, .ref q_says, .ref q_text, .int t_textSize, .int t_at, .int t_first, .int t_faultOf, .int t_fault, .int t_spoke, .int t_holds, .int o5.1, .ref q_seenDecree, .ref q_seenAt, .ref q_seenSpoke, .int t_seen, .ref q_inSets, .ref q_book, .int t_written])), (q_w, .inl (a 0, 578, .inl o5.2))] := hD
    refine lv_aload_n hx hb dX11_move_23 rfl (lv_at hl 0 rfl) ?_
    refine g_get hX hiX11 hP 0 rfl rfl 0 (by decide) hk2 rfl rfl dX11_move_24 ?_
    refine lv_iload_n hx hb dX11_move_27 rfl (lv_at hl 1 rfl) ?_
    obtain ⟨hiv6, hf⟩ := o_ldh hf
    refine g_iald hX hP 1 rfl hiv6 dX11_move_28 (fun v6 ev6 => ?_)
    replace hf := hf v6 ev6
    refine lv_istore_n (lv' := [(3, .int v6), (0, .ref q_t), (1, .int x1), (2, .int x2)]) hx hb dX11_move_29 rfl hl (by decide) rfl (fun ls hl => ?_)
    refine lv_aload_n hx hb dX11_move_30 rfl (lv_at hl 1 rfl) ?_
    refine g_get hX hiX11 hP 0 rfl rfl 0 (by decide) hk2 rfl rfl dX11_move_31 ?_
    refine lv_iload_n hx hb dX11_move_34 rfl (lv_at hl 2 rfl) ?_
    refine lv_iload_n hx hb dX11_move_35 rfl (lv_at hl 3 rfl) ?_
    obtain ⟨hiw7, hf⟩ := o_sth hf
    refine g_iast hX hP hD hS 1 rfl hiw7 dX11_move_36 (fun w7 ew7 H locs hP hD hS => ?_)
    replace hf := hf w7 ew7
    replace hP : va_P D vwCl [(q_t, .inr (11, [.ref q_w, .ref q_isKept, .int t_all, .int t_corners, .int t_hearers, .int t_newAll, .int t_newCorners, .int t_newHearers, .ref q_beer, .ref q_cold, .ref q_stands, .ref q_pinched, .ref q_says, .ref q_text, .int t_textSize, .int t_at, .int t_first, .int t_faultOf, .int t_fault, .int t_spoke, .int t_holds, .int o5.1, .ref q_seenDecree, .ref q_seenAt, .ref q_seenSpoke, .int t_seen, .ref q_inSets, .ref q_book, .int t_written])), (q_w, .inl (a 0, 578, .inl w7))] H := hP
    replace hD : va_D A [(q_t, .inr (11, [.ref q_w, .ref q_isKept, .int t_all, .int t_corners, .int t_hearers, .int t_newAll, .int t_newCorners, .int t_newHearers, .ref q_beer, .ref q_cold, .ref q_stands, .ref q_pinched, .ref q_says, .ref q_text, .int t_textSize, .int t_at, .int t_first, .int t_faultOf, .int t_fault, .int t_spoke, .int t_holds, .int o5.1, .ref q_seenDecree, .ref q_seenAt, .ref q_seenSpoke, .int t_seen, .ref q_inSets, .ref q_book, .int t_written])), (q_w, .inl (a 0, 578, .inl w7))] := hD
    refine lv_iload_n hx hb dX11_move_37 rfl (lv_at hl 0 rfl) ?_
    cases hf
    exact hret _ _ _ _ (vp_nar_int _) hP hD hS dX11_move_38
  replace hf := o_ifp hf c4
  refine lv_ldc (v := (-1000000001 : Int32)) hx hb hown hk1 dX11_move_16 ?_
  cases hf
  exact hret _ _ _ _ (vp_nar_int _) hP hD hS dX11_move_18
def f_X11_cold (t_corners : Int32) (t_undoMany : Int32) (w : Nat → Int32) (x1 : Int32) (x2 : Int32) : Option (Int32 × Int32 × (Nat → Int32)) :=
  (f_X11_isCorner t_corners x1).bind fun o1 =>
  if o1 = 0 then (some ((-1000000001 : Int32), t_undoMany, w))
  else ((f_X11_remember t_undoMany w).bind fun o3 =>
  (o_ld o3.2 578 (11 : Int32)).bind fun v4 =>
  o_nm (((v4 >>> (x1 &&& 31)) &&& (1 : Int32))) fun v5 =>
  (o_ld o3.2 578 (11 : Int32)).bind fun v6 =>
  (f_X11_withOrNot v6 x1 x2).bind fun o7 =>
  (o_st o3.2 578 (11 : Int32) o7).bind fun w8 =>
  some (v5, o3.1, w8))
theorem hdS_X11_cold : yX11_cold.cls ≠ "java/lang/invoke/MethodHandle" ∧ yX11_cold.cls ≠ "java/lang/invoke/VarHandle" ∧ (parseMethodDescriptor yX11_cold.desc).map (fun d => d.parameters.length) = some 2 := by decide +kernel
theorem hdV_X11_cold : yX11_cold.cls = RX11 ∧ yX11_cold.cls ≠ "java/lang/invoke/MethodHandle" ∧ yX11_cold.cls ≠ "java/lang/invoke/VarHandle" ∧ (parseMethodDescriptor yX11_cold.desc).map (fun d => d.parameters.length) = some 2 := ⟨rfl, hdS_X11_cold⟩
set_option maxHeartbeats 4000000 in
set_option maxRecDepth 100000 in
theorem c_X11_cold (l : Launch) (D : va_G) (a : Nat → ClassId) (t : Nat) (q_t : Nat) (q_w : Nat) (q_isKept : Nat) (t_all : Int32) (t_corners : Int32) (t_hearers : Int32) (t_newAll : Int32) (t_newCorners : Int32) (t_newHearers : Int32) (q_beer : Nat) (q_cold : Nat) (q_stands : Nat) (q_pinched : Nat) (q_says : Nat) (q_text : Nat) (t_textSize : Int32) (t_at : Int32) (t_first : Int32) (t_faultOf : Int32) (t_fault : Int32) (t_spoke : Int32) (t_holds : Int32) (t_undoMany : Int32) (q_seenDecree : Nat) (q_seenAt : Nat) (q_seenSpoke : Nat) (t_seen : Int32) (q_inSets : Nat) (q_book : Nat) (t_written : Int32) (w : Nat → Int32) (x1 : Int32) (x2 : Int32) (r : Int32) (o_t_undoMany : Int32) (o_w : Nat → Int32) (hf : f_X11_cold t_corners t_undoMany w x1 x2 = some (r, o_t_undoMany, o_w)) : Ki l yX11_cold wsX11_cold 2 46 D a t [.ref q_t, .int x1, .int x2] [(q_t, .inr (11, [.ref q_w, .ref q_isKept, .int t_all, .int t_corners, .int t_hearers, .int t_newAll, .int t_newCorners, .int t_newHearers, .ref q_beer, .ref q_cold, .ref q_stands, .ref q_pinched, .ref q_says, .ref q_text, .int t_textSize, .int t_at, .int t_first, .int t_faultOf, .int t_fault, .int t_spoke, .int t_holds, .int t_undoMany, .ref q_seenDecree, .ref q_seenAt, .ref q_seenSpoke, .int t_seen, .ref q_inSets, .ref q_book, .int t_written])), (q_w, .inl (a 0, 578, .inl w))] [(q_t, .inr (11, [.ref q_w, .ref q_isKept, .int t_all, .int t_corners, .int t_hearers, .int t_newAll, .int t_newCorners, .int t_newHearers, .ref q_beer, .ref q_cold, .ref q_stands, .ref q_pinched, .ref q_says, .ref q_text, .int t_textSize, .int t_at, .int t_first, .int t_faultOf, .int t_fault, .int t_spoke, .int t_holds, .int o_t_undoMany, .ref q_seenDecree, .ref q_seenAt, .ref q_seenSpoke, .int t_seen, .ref q_inSets, .ref q_book, .int t_written])), (q_w, .inl (a 0, 578, .inl o_w))] r := by
  refine Ki.mk (cc := cX11_cold) (nL := 4) (ty := .int) (own := RX11) (by decide) rfl rfl (Nat.le_of_ble_eq_true rfl) ?_
  intro p e s m args below meth c A Q ls hX hP hD hS hl hret
  have hx := hX.1.1
  have hb := hX.1.2.1
  have hown := hX.1.2.2.2.1
  have hts := hX.1.2.2.2.2
  have hN := hX.2.2.1
  have hA := hX.2.2.2.2
  have hl : lv_has ls 4 [(0, .ref q_t), (1, .int x1), (2, .int x2)] := hl
  have hk1 := hts (.constant RX11 149 (-1000000001)) (List.mem_of_getElem? (i := 1) rfl)
  have hk2 := hts (.fieldLink RX11 7 "GainsaidOnceModel" "w" "[I") (List.mem_of_getElem? (i := 2) rfl)
  have hiX11 : ∀ w ∈ wsX110, w ∈ wsX11_cold := (fun _ h => List.mem_cons_of_mem _ (List.mem_append_right _ h))
  unfold f_X11_cold at hf
  refine lv_aload_n hx hb dX11_cold_0 rfl (lv_at hl 0 rfl) ?_
  refine lv_iload_n hx hb dX11_cold_1 rfl (lv_at hl 1 rfl) ?_
  obtain ⟨o1, ho1, hf⟩ := o_bd hf
  refine call_iV (q0 := 0) (ci := 11) hX (c_X11_isCorner l D a t q_t q_w q_isKept t_all t_corners t_hearers t_newAll t_newCorners t_newHearers q_beer q_cold q_stands q_pinched q_says q_text t_textSize t_at t_first t_faultOf t_fault t_spoke t_holds t_undoMany q_seenDecree q_seenAt q_seenSpoke t_seen q_inSets q_book t_written x1 o1 ho1) (cwV 1 hts gX11_cold_X11_isCorner rfl rfl rfl hdV_X11_isCorner ⟨by decide, by decide⟩) (Cut.of hA hP hD hS [0] (by decide) rfl rfl (W' := [(q_t, .inr (11, [.ref q_w, .ref q_isKept, .int t_all, .int t_corners, .int t_hearers, .int t_newAll, .int t_newCorners, .int t_newHearers, .ref q_beer, .ref q_cold, .ref q_stands, .ref q_pinched, .ref q_says, .ref q_text, .int t_textSize, .int t_at, .int t_first, .int t_faultOf, .int t_fault, .int t_spoke, .int t_holds, .int t_undoMany, .ref q_seenDecree, .ref q_seenAt, .ref q_seenSpoke, .int t_seen, .ref q_inSets, .ref q_book, .int t_written])), (q_w, .inl (a 0, 578, .inl w))]) rfl) hS rfl rfl rfl hl.1 rfl (Nat.le_of_ble_eq_true rfl) dX11_cold_2 (by decide) (fun H locs hP hD hS => ?_)
  replace hP : va_P D vwCl [(q_t, .inr (11, [.ref q_w, .ref q_isKept, .int t_all, .int t_corners, .int t_hearers, .int t_newAll, .int t_newCorners, .int t_newHearers, .ref q_beer, .ref q_cold, .ref q_stands, .ref q_pinched, .ref q_says, .ref q_text, .int t_textSize, .int t_at, .int t_first, .int t_faultOf, .int t_fault, .int t_spoke, .int t_holds, .int t_undoMany, .ref q_seenDecree, .ref q_seenAt, .ref q_seenSpoke, .int t_seen, .ref q_inSets, .ref q_book, .int t_written])), (q_w, .inl (a 0, 578, .inl w))] H := hP
  replace hD : va_D A [(q_t, .inr (11, [.ref q_w, .ref q_isKept, .int t_all, .int t_corners, .int t_hearers, .int t_newAll, .int t_newCorners, .int t_newHearers, .ref q_beer, .ref q_cold, .ref q_stands, .ref q_pinched, .ref q_says, .ref q_text, .int t_textSize, .int t_at, .int t_first, .int t_faultOf, .int t_fault, .int t_spoke, .int t_holds, .int t_undoMany, .ref q_seenDecree, .ref q_seenAt, .ref q_seenSpoke, .int t_seen, .ref q_inSets, .ref q_book, .int t_written])), (q_w, .inl (a 0, 578, .inl w))] := hD
  refine lv_if_ne (tgt := 11) hx hb dX11_cold_5 (by decide) (fun c2 => ?_) (fun c2 => ?_)
  · replace hf := o_ifn hf c2
    refine lv_aload_n hx hb dX11_cold_11 rfl (lv_at hl 0 rfl) ?_
    obtain ⟨o3, ho3, hf⟩ := o_bd hf
    refine call_vV (q0 := 0) (ci := 11) hX (c_X11_remember l D a t q_t q_w q_isKept t_all t_corners t_hearers t_newAll t_newCorners t_newHearers q_beer q_cold q_stands q_pinched q_says q_text t_textSize t_at t_first t_faultOf t_fault t_spoke t_holds t_undoMany q_seenDecree q_seenAt q_seenSpoke t_seen q_inSets q_book t_written w o3.1 o3.2 ho3) (cwV 0 hts gX11_cold_X11_remember rfl rfl rfl hdV_X11_remember ⟨by decide, by decide⟩) (Cut.of hA hP hD hS [0, 1] (by decide) rfl rfl (W' := [(q_t, .inr (11, [.ref q_w, .ref q_isKept, .int t_all, .int t_corners, .int t_hearers, .int t_newAll, .int t_newCorners, .int t_newHearers, .ref q_beer, .ref q_cold, .ref q_stands, .ref q_pinched, .ref q_says, .ref q_text, .int t_textSize, .int t_at, .int t_first, .int t_faultOf, .int t_fault, .int t_spoke, .int t_holds, .int o3.1, .ref q_seenDecree, .ref q_seenAt, .ref q_seenSpoke, .int t_seen, .ref q_inSets, .ref q_book, .int t_written])), (q_w, .inl (a 0, 578, .inl o3.2))]) rfl) hS rfl rfl rfl hl.1 rfl (Nat.le_of_ble_eq_true rfl) dX11_cold_12 (by decide) (fun H locs hP hD hS => ?_)
    replace hP : va_P D vwCl [(q_t, .inr (11, [.ref q_w, .ref q_isKept, .int t_all, .int t_corners, .int t_hearers, .int t_newAll, .int t_newCorners, .int t_newHearers, .ref q_beer, .ref q_cold, .ref q_stands, .ref q_pinched, .ref q_says, .ref q_text, .int t_textSize, .int t_at, .int t_first, .int t_faultOf, .int t_fault, .int t_spoke, .int t_holds, .int o3.1, .ref q_seenDecree, .ref q_seenAt, .ref q_seenSpoke, .int t_seen, .ref q_inSets, .ref q_book, .int t_written])), (q_w, .inl (a 0, 578, .inl o3.2))] H := hP
    replace hD : va_D A [(q_t, .inr (11, [.ref q_w, .ref q_isKept, .int t_all, .int t_corners, .int t_hearers, .int t_newAll, .int t_newCorners, .int t_newHearers, .ref q_beer, .ref q_cold, .ref q_stands, .ref q_pinched, .ref q_says, .ref q_text, .int t_textSize, .int t_at, .int t_first, .int t_faultOf, .int t_fault, .int t_spoke, .int t_holds, .int o3.1, .ref q_seenDecree, .ref q_seenAt, .ref q_seenSpoke, .int t_seen, .ref q_inSets, .ref q_book, .int t_written])), (q_w, .inl (a 0, 578, .inl o3.2))] := hD
    refine lv_aload_n hx hb dX11_cold_15 rfl (lv_at hl 0 rfl) ?_
    refine g_get hX hiX11 hP 0 rfl rfl 0 (by decide) hk2 rfl rfl dX11_cold_16 ?_
    refine lv_bipush (v := (11 : Int32)) hx hb dX11_cold_19 (by decide) ?_
    obtain ⟨hiv4, hf⟩ := o_ldh hf
    refine g_iald hX hP 1 rfl hiv4 dX11_cold_21 (fun v4 ev4 => ?_)
    replace hf := hf v4 ev4
    refine lv_iload_n hx hb dX11_cold_22 rfl (lv_at hl 1 rfl) ?_
    refine lv_ishr hx hb dX11_cold_23 ?_
    refine lv_iconst (v := (1 : Int32)) hx hb dX11_cold_24 (by decide) ?_
    refine lv_iand hx hb dX11_cold_25 ?_
    refine lv_topi (fun v5 ev5 => ?_)
    replace hf := o_nmh hf v5 ev5
    refine lv_istore_n (lv' := [(3, .int v5), (0, .ref q_t), (1, .int x1), (2, .int x2)]) hx hb dX11_cold_26 rfl hl (by decide) rfl (fun ls hl => ?_)
    refine lv_aload_n hx hb dX11_cold_27 rfl (lv_at hl 1 rfl) ?_
    refine g_get hX hiX11 hP 0 rfl rfl 0 (by decide) hk2 rfl rfl dX11_cold_28 ?_
    refine lv_bipush (v := (11 : Int32)) hx hb dX11_cold_31 (by decide) ?_
    refine lv_aload_n hx hb dX11_cold_33 rfl (lv_at hl 1 rfl) ?_
    refine g_get hX hiX11 hP 0 rfl rfl 0 (by decide) hk2 rfl rfl dX11_cold_34 ?_
    refine lv_bipush (v := (11 : Int32)) hx hb dX11_cold_37 (by decide) ?_
    obtain ⟨hiv6, hf⟩ := o_ldh hf
    refine g_iald hX hP 1 rfl hiv6 dX11_cold_39 (fun v6 ev6 => ?_)
    replace hf := hf v6 ev6
    refine lv_iload_n hx hb dX11_cold_40 rfl (lv_at hl 2 rfl) ?_
    refine lv_iload_n hx hb dX11_cold_41 rfl (lv_at hl 3 rfl) ?_
    obtain ⟨o7, ho7, hf⟩ := o_bd hf
    refine call_iS hX (c_X11_withOrNot l D a t v6 x1 x2 o7 ho7) (va_cwS 3 hts gX11_cold_X11_withOrNot rfl rfl rfl hdS_X11_withOrNot ⟨by decide, by decide⟩) (Cut.none hA hP hD hS) hS rfl hl.1 rfl (Nat.le_of_ble_eq_true rfl) dX11_cold_42 (by decide) (fun H locs hP hD hS => ?_)
    obtain ⟨hiw8, hf⟩ := o_sth hf
    refine g_iast hX hP hD hS 1 rfl hiw8 dX11_cold_45 (fun w8 ew8 H locs hP hD hS => ?_)
    replace hf := hf w8 ew8
    replace hP : va_P D vwCl [(q_t, .inr (11, [.ref q_w, .ref q_isKept, .int t_all, .int t_corners, .int t_hearers, .int t_newAll, .int t_newCorners, .int t_newHearers, .ref q_beer, .ref q_cold, .ref q_stands, .ref q_pinched, .ref q_says, .ref q_text, .int t_textSize, .int t_at, .int t_first, .int t_faultOf, .int t_fault, .int t_spoke, .int t_holds, .int o3.1, .ref q_seenDecree, .ref q_seenAt, .ref q_seenSpoke, .int t_seen, .ref q_inSets, .ref q_book, .int t_written])), (q_w, .inl (a 0, 578, .inl w8))] H := hP
    replace hD : va_D A [(q_t, .inr (11, [.ref q_w, .ref q_isKept, .int t_all, .int t_corners, .int t_hearers, .int t_newAll, .int t_newCorners, .int t_newHearers, .ref q_beer, .ref q_cold, .ref q_stands, .ref q_pinched, .ref q_says, .ref q_text, .int t_textSize, .int t_at, .int t_first, .int t_faultOf, .int t_fault, .int t_spoke, .int t_holds, .int o3.1, .ref q_seenDecree, .ref q_seenAt, .ref q_seenSpoke, .int t_seen, .ref q_inSets, .ref q_book, .int t_written])), (q_w, .inl (a 0, 578, .inl w8))] := hD
    refine lv_iload_n hx hb dX11_cold_46 rfl (lv_at hl 0 rfl) ?_
    cases hf
    exact hret _ _ _ _ (vp_nar_int _) hP hD hS dX11_cold_47
  replace hf := o_ifp hf c2
  refine lv_ldc (v := (-1000000001 : Int32)) hx hb hown hk1 dX11_cold_8 ?_
  cases hf
  exact hret _ _ _ _ (vp_nar_int _) hP hD hS dX11_cold_10
def f_X11_draw (w : Nat → Int32) (x1 : Int32) : Option (Int32 × (Nat → Int32)) :=
  (o_ld w 578 (16 : Int32)).bind fun v1 =>
  (o_rmL (((Int32.toInt64 v1) * (1103515245 : Int64)) + (12345 : Int64)) (2147483648 : Int64)).bind fun v2 =>
  (o_st w 578 (16 : Int32) (Int64.toInt32 v2)).bind fun w3 =>
  (o_ld w3 578 (16 : Int32)).bind fun v4 =>
  (o_dv v4 (65536 : Int32)).bind fun v5 =>
  (o_rm v5 x1).bind fun v6 =>
  some (v6, w3)
theorem hdS_X11_draw : yX11_draw.cls ≠ "java/lang/invoke/MethodHandle" ∧ yX11_draw.cls ≠ "java/lang/invoke/VarHandle" ∧ (parseMethodDescriptor yX11_draw.desc).map (fun d => d.parameters.length) = some 1 := by decide +kernel
theorem hdV_X11_draw : yX11_draw.cls = RX11 ∧ yX11_draw.cls ≠ "java/lang/invoke/MethodHandle" ∧ yX11_draw.cls ≠ "java/lang/invoke/VarHandle" ∧ (parseMethodDescriptor yX11_draw.desc).map (fun d => d.parameters.length) = some 1 := ⟨rfl, hdS_X11_draw⟩
set_option maxHeartbeats 4000000 in
set_option maxRecDepth 100000 in
theorem c_X11_draw (l : Launch) (D : va_G) (a : Nat → ClassId) (t : Nat) (q_t : Nat) (q_w : Nat) (q_isKept : Nat) (t_all : Int32) (t_corners : Int32) (t_hearers : Int32) (t_newAll : Int32) (t_newCorners : Int32) (t_newHearers : Int32) (q_beer : Nat) (q_cold : Nat) (q_stands : Nat) (q_pinched : Nat) (q_says : Nat) (q_text : Nat) (t_textSize : Int32) (t_at : Int32) (t_first : Int32) (t_faultOf : Int32) (t_fault : Int32) (t_spoke : Int32) (t_holds : Int32) (t_undoMany : Int32) (q_seenDecree : Nat) (q_seenAt : Nat) (q_seenSpoke : Nat) (t_seen : Int32) (q_inSets : Nat) (q_book : Nat) (t_written : Int32) (w : Nat → Int32) (x1 : Int32) (r : Int32) (o_w : Nat → Int32) (hf : f_X11_draw w x1 = some (r, o_w)) : Ki l yX11_draw wsX11_draw 0 0 D a t [.ref q_t, .int x1] [(q_t, .inr (11, [.ref q_w, .ref q_isKept, .int t_all, .int t_corners, .int t_hearers, .int t_newAll, .int t_newCorners, .int t_newHearers, .ref q_beer, .ref q_cold, .ref q_stands, .ref q_pinched, .ref q_says, .ref q_text, .int t_textSize, .int t_at, .int t_first, .int t_faultOf, .int t_fault, .int t_spoke, .int t_holds, .int t_undoMany, .ref q_seenDecree, .ref q_seenAt, .ref q_seenSpoke, .int t_seen, .ref q_inSets, .ref q_book, .int t_written])), (q_w, .inl (a 0, 578, .inl w))] [(q_t, .inr (11, [.ref q_w, .ref q_isKept, .int t_all, .int t_corners, .int t_hearers, .int t_newAll, .int t_newCorners, .int t_newHearers, .ref q_beer, .ref q_cold, .ref q_stands, .ref q_pinched, .ref q_says, .ref q_text, .int t_textSize, .int t_at, .int t_first, .int t_faultOf, .int t_fault, .int t_spoke, .int t_holds, .int t_undoMany, .ref q_seenDecree, .ref q_seenAt, .ref q_seenSpoke, .int t_seen, .ref q_inSets, .ref q_book, .int t_written])), (q_w, .inl (a 0, 578, .inl o_w))] r := by
  refine Ki.mk (cc := cX11_draw) (nL := 2) (ty := .int) (own := RX11) (by decide) rfl rfl (Nat.le_of_ble_eq_true rfl) ?_
  intro p e s m args below meth c A Q ls hX hP hD hS hl hret
  have hx := hX.1.1
  have hb := hX.1.2.1
  have hown := hX.1.2.2.2.1
  have hts := hX.1.2.2.2.2
  have hN := hX.2.2.1
  have hA := hX.2.2.2.2
  have hl : lv_has ls 2 [(0, .ref q_t), (1, .int x1)] := hl
  have hk1 := hts (.fieldLink RX11 7 "GainsaidOnceModel" "w" "[I") (List.mem_of_getElem? (i := 1) rfl)
  have hk2 := hts (.constantLong RX11 208 (1103515245)) (List.mem_of_getElem? (i := 2) rfl)
  have hk3 := hts (.constantLong RX11 210 (12345)) (List.mem_of_getElem? (i := 3) rfl)
  have hk4 := hts (.constantLong RX11 212 (2147483648)) (List.mem_of_getElem? (i := 4) rfl)
  have hk5 := hts (.constant RX11 214 (65536)) (List.mem_of_getElem? (i := 5) rfl)
  have hiX11 : ∀ w ∈ wsX110, w ∈ wsX11_draw := (fun _ h => List.mem_cons_of_mem _ (List.mem_append_right _ h))
  unfold f_X11_draw at hf
  refine lv_aload_n hx hb dX11_draw_0 rfl (lv_at hl 0 rfl) ?_
  refine g_get hX hiX11 hP 0 rfl rfl 0 (by decide) hk1 rfl rfl dX11_draw_1 ?_
  refine lv_bipush (v := (16 : Int32)) hx hb dX11_draw_4 (by decide) ?_
  refine lv_aload_n hx hb dX11_draw_6 rfl (lv_at hl 0 rfl) ?_
  refine g_get hX hiX11 hP 0 rfl rfl 0 (by decide) hk1 rfl rfl dX11_draw_7 ?_
  refine lv_bipush (v := (16 : Int32)) hx hb dX11_draw_10 (by decide) ?_
  obtain ⟨hiv1, hf⟩ := o_ldh hf
  refine g_iald hX hP 1 rfl hiv1 dX11_draw_12 (fun v1 ev1 => ?_)
  replace hf := hf v1 ev1
  refine lv_i2l (v := Int32.toInt64 v1) hx hb dX11_draw_13 rfl ?_
  refine lv_ldc2 (v := (1103515245 : Int64)) hx hb hown hk2 dX11_draw_14 ?_
  refine lv_lmul hx hb dX11_draw_17 ?_
  refine lv_ldc2 (v := (12345 : Int64)) hx hb hown hk3 dX11_draw_18 ?_
  refine lv_ladd hx hb dX11_draw_21 ?_
  refine lv_ldc2 (v := (2147483648 : Int64)) hx hb hown hk4 dX11_draw_22 ?_
  obtain ⟨hzv2, hf⟩ := o_rmLh hf
  refine lv_lrem hx hb dX11_draw_25 hzv2 ?_
  refine lv_topl (fun v2 ev2 => ?_)
  replace hf := hf v2 ev2
  refine lv_l2i (v := Int64.toInt32 v2) hx hb dX11_draw_26 rfl ?_
  obtain ⟨hiw3, hf⟩ := o_sth hf
  refine g_iast hX hP hD hS 1 rfl hiw3 dX11_draw_27 (fun w3 ew3 H locs hP hD hS => ?_)
  replace hf := hf w3 ew3
  replace hP : va_P D vwCl [(q_t, .inr (11, [.ref q_w, .ref q_isKept, .int t_all, .int t_corners, .int t_hearers, .int t_newAll, .int t_newCorners, .int t_newHearers, .ref q_beer, .ref q_cold, .ref q_stands, .ref q_pinched, .ref q_says, .ref q_text, .int t_textSize, .int t_at, .int t_first, .int t_faultOf, .int t_fault, .int t_spoke, .int t_holds, .int t_undoMany, .ref q_seenDecree, .ref q_seenAt, .ref q_seenSpoke, .int t_seen, .ref q_inSets, .ref q_book, .int t_written])), (q_w, .inl (a 0, 578, .inl w3))] H := hP
  replace hD : va_D A [(q_t, .inr (11, [.ref q_w, .ref q_isKept, .int t_all, .int t_corners, .int t_hearers, .int t_newAll, .int t_newCorners, .int t_newHearers, .ref q_beer, .ref q_cold, .ref q_stands, .ref q_pinched, .ref q_says, .ref q_text, .int t_textSize, .int t_at, .int t_first, .int t_faultOf, .int t_fault, .int t_spoke, .int t_holds, .int t_undoMany, .ref q_seenDecree, .ref q_seenAt, .ref q_seenSpoke, .int t_seen, .ref q_inSets, .ref q_book, .int t_written])), (q_w, .inl (a 0, 578, .inl w3))] := hD
  refine lv_aload_n hx hb dX11_draw_28 rfl (lv_at hl 0 rfl) ?_
  refine g_get hX hiX11 hP 0 rfl rfl 0 (by decide) hk1 rfl rfl dX11_draw_29 ?_
  refine lv_bipush (v := (16 : Int32)) hx hb dX11_draw_32 (by decide) ?_
  obtain ⟨hiv4, hf⟩ := o_ldh hf
  refine g_iald hX hP 1 rfl hiv4 dX11_draw_34 (fun v4 ev4 => ?_)
  replace hf := hf v4 ev4
  refine lv_ldc (v := (65536 : Int32)) hx hb hown hk5 dX11_draw_35 ?_
  obtain ⟨hzv5, hf⟩ := o_dvh hf
  refine lv_idiv hx hb dX11_draw_37 hzv5 ?_
  refine lv_topi (fun v5 ev5 => ?_)
  replace hf := hf v5 ev5
  refine lv_iload_n hx hb dX11_draw_38 rfl (lv_at hl 1 rfl) ?_
  obtain ⟨hzv6, hf⟩ := o_rmh hf
  refine lv_irem hx hb dX11_draw_39 hzv6 ?_
  refine lv_topi (fun v6 ev6 => ?_)
  replace hf := hf v6 ev6
  cases hf
  exact hret _ _ _ _ (vp_nar_int _) hP hD hS dX11_draw_40
def f_X11_drift_107 (t_all : Int32) (t_corners : Int32) (t_hearers : Int32) (pinched : Nat → Int32) (says : Nat → Int32) (k_56 : Int32 → Int32 → Int32 → (Nat → Int32) → Int32 → Int32 → Option (Int32 × Int32 × Int32 × Int32 × (Nat → Int32))) (t_spoke : Int32) (t_holds : Int32) (t_undoMany : Int32) (w : (Nat → Int32)) (x1 : Int32) (x2 : Int32) : Option (Int32 × Int32 × Int32 × Int32 × (Nat → Int32)) :=
  (f_X11_passMonth w).bind fun o1 =>
  o_nm (x2 + (1 : Int32)) fun v2 =>
  k_56 t_spoke t_holds t_undoMany o1 x1 v2
def f_X11_drift_56 (t_all : Int32) (t_corners : Int32) (t_hearers : Int32) (pinched : Nat → Int32) (says : Nat → Int32) : Nat → Int32 → Int32 → Int32 → (Nat → Int32) → Int32 → Int32 → Option (Int32 × Int32 × Int32 × Int32 × (Nat → Int32))
  | 0, _, _, _, _, _, _ => none
  | n_56 + 1, t_spoke, t_holds, t_undoMany, w, x1, x2 =>
    if x1 ≤ x2 then ((o_ld w 578 (14 : Int32)).bind fun v4 =>
    some (v4, t_spoke, t_holds, t_undoMany, w))
    else ((f_X11_remember t_undoMany w).bind fun o5 =>
    if t_corners ≤ 0 then (f_X11_drift_107 t_all t_corners t_hearers pinched says (f_X11_drift_56 t_all t_corners t_hearers pinched says n_56) t_spoke t_holds o5.1 o5.2 x1 x2)
    else ((f_X11_draw o5.2 (256 : Int32)).bind fun o7 =>
    o_nm ((o7.1 &&& t_all)) fun v8 =>
    (f_X11_draw o7.2 t_corners).bind fun o9 =>
    (f_X11_draw o9.2 (2 : Int32)).bind fun o10 =>
    (f_X11_roundNow t_all t_corners t_hearers t_spoke t_holds pinched says o10.2 v8 o9.1 o10.1).bind fun o11 =>
    f_X11_drift_107 t_all t_corners t_hearers pinched says (f_X11_drift_56 t_all t_corners t_hearers pinched says n_56) o11.1 o11.2.1 o5.1 o11.2.2 x1 x2))
def f_X11_drift (t_all : Int32) (t_corners : Int32) (t_hearers : Int32) (t_spoke : Int32) (t_holds : Int32) (t_undoMany : Int32) (pinched : Nat → Int32) (says : Nat → Int32) (w : Nat → Int32) (x1 : Int32) : Option (Int32 × Int32 × Int32 × Int32 × (Nat → Int32)) :=
  (f_X11_in (Int32.toInt64 x1) (1 : Int64) (20 : Int64)).bind fun o12 =>
  if o12 = 0 then (some ((-1000000002 : Int32), t_spoke, t_holds, t_undoMany, w))
  else (if t_all = 0 then (some ((-1000000003 : Int32), t_spoke, t_holds, t_undoMany, w))
  else ((o_ld w 578 (12 : Int32)).bind fun v15 =>
  if (9000 : Int32) < v15 then (some ((-1000000004 : Int32), t_spoke, t_holds, t_undoMany, w))
  else ((o_ld w 578 (13 : Int32)).bind fun v17 =>
  if v17 ≤ (9000 : Int32) then (f_X11_drift_56 t_all t_corners t_hearers pinched says 1000 t_spoke t_holds t_undoMany w x1 (0 : Int32))
  else (some ((-1000000004 : Int32), t_spoke, t_holds, t_undoMany, w)))))
theorem hdS_X11_drift : yX11_drift.cls ≠ "java/lang/invoke/MethodHandle" ∧ yX11_drift.cls ≠ "java/lang/invoke/VarHandle" ∧ (parseMethodDescriptor yX11_drift.desc).map (fun d => d.parameters.length) = some 1 := by decide +kernel
theorem hdV_X11_drift : yX11_drift.cls = RX11 ∧ yX11_drift.cls ≠ "java/lang/invoke/MethodHandle" ∧ yX11_drift.cls ≠ "java/lang/invoke/VarHandle" ∧ (parseMethodDescriptor yX11_drift.desc).map (fun d => d.parameters.length) = some 1 := ⟨rfl, hdS_X11_drift⟩
set_option maxHeartbeats 4000000 in
set_option maxRecDepth 100000 in
theorem c_X11_drift (l : Launch) (D : va_G) (a : Nat → ClassId) (t : Nat) (q_t : Nat) (q_w : Nat) (q_isKept : Nat) (t_all : Int32) (t_corners : Int32) (t_hearers : Int32) (t_newAll : Int32) (t_newCorners : Int32) (t_newHearers : Int32) (q_beer : Nat) (q_cold : Nat) (q_stands : Nat) (q_pinched : Nat) (q_says : Nat) (q_text : Nat) (t_textSize : Int32) (t_at : Int32) (t_first : Int32) (t_faultOf : Int32) (t_fault : Int32) (t_spoke : Int32) (t_holds : Int32) (t_undoMany : Int32) (q_seenDecree : Nat) (q_seenAt : Nat) (q_seenSpoke : Nat) (t_seen : Int32) (q_inSets : Nat) (q_book : Nat) (t_written : Int32) (pinched : Nat → Int32) (says : Nat → Int32) (w : Nat → Int32) (x1 : Int32) (r : Int32) (o_t_spoke : Int32) (o_t_holds : Int32) (o_t_undoMany : Int32) (o_w : Nat → Int32) (hf : f_X11_drift t_all t_corners t_hearers t_spoke t_holds t_undoMany pinched says w x1 = some (r, o_t_spoke, o_t_holds, o_t_undoMany, o_w)) : Ki l yX11_drift wsX11_drift 6 152 D a t [.ref q_t, .int x1] [(q_t, .inr (11, [.ref q_w, .ref q_isKept, .int t_all, .int t_corners, .int t_hearers, .int t_newAll, .int t_newCorners, .int t_newHearers, .ref q_beer, .ref q_cold, .ref q_stands, .ref q_pinched, .ref q_says, .ref q_text, .int t_textSize, .int t_at, .int t_first, .int t_faultOf, .int t_fault, .int t_spoke, .int t_holds, .int t_undoMany, .ref q_seenDecree, .ref q_seenAt, .ref q_seenSpoke, .int t_seen, .ref q_inSets, .ref q_book, .int t_written])), (q_pinched, .inl (a 0, 18, .inl pinched)), (q_says, .inl (a 0, 18, .inl says)), (q_w, .inl (a 0, 578, .inl w))] [(q_t, .inr (11, [.ref q_w, .ref q_isKept, .int t_all, .int t_corners, .int t_hearers, .int t_newAll, .int t_newCorners, .int t_newHearers, .ref q_beer, .ref q_cold, .ref q_stands, .ref q_pinched, .ref q_says, .ref q_text, .int t_textSize, .int t_at, .int t_first, .int t_faultOf, .int t_fault, .int o_t_spoke, .int o_t_holds, .int o_t_undoMany, .ref q_seenDecree, .ref q_seenAt, .ref q_seenSpoke, .int t_seen, .ref q_inSets, .ref q_book, .int t_written])), (q_pinched, .inl (a 0, 18, .inl pinched)), (q_says, .inl (a 0, 18, .inl says)), (q_w, .inl (a 0, 578, .inl o_w))] r := by
  refine Ki.mk (cc := cX11_drift) (nL := 5) (ty := .int) (own := RX11) (by decide) rfl rfl (Nat.le_of_ble_eq_true rfl) ?_
  intro p e s m args below meth c A Q ls hX hP hD hS hl hret
  have hx := hX.1.1
  have hb := hX.1.2.1
  have hown := hX.1.2.2.2.1
  have hts := hX.1.2.2.2.2
  have hN := hX.2.2.1
  have hA := hX.2.2.2.2
  have hl : lv_has ls 5 [(0, .ref q_t), (1, .int x1)] := hl
  have hk1 := hts (.constantLong RX11 215 (20)) (List.mem_of_getElem? (i := 1) rfl)
  have hk2 := hts (.constant RX11 64 (-1000000002)) (List.mem_of_getElem? (i := 2) rfl)
  have hk3 := hts (.fieldLink RX11 126 "GainsaidOnceModel" "all" "I") (List.mem_of_getElem? (i := 3) rfl)
  have hk4 := hts (.constant RX11 200 (-1000000003)) (List.mem_of_getElem? (i := 4) rfl)
  have hk5 := hts (.fieldLink RX11 7 "GainsaidOnceModel" "w" "[I") (List.mem_of_getElem? (i := 5) rfl)
  have hk6 := hts (.constant RX11 68 (-1000000004)) (List.mem_of_getElem? (i := 6) rfl)
  have hk7 := hts (.fieldLink RX11 123 "GainsaidOnceModel" "corners" "I") (List.mem_of_getElem? (i := 7) rfl)
  have hiX11 : ∀ w ∈ wsX110, w ∈ wsX11_drift := (fun _ h => List.mem_cons_of_mem _ (List.mem_append_right _ h))
  have L_56 : ∀ (n_56 : Nat) (t_spoke : Int32) (t_holds : Int32) (t_undoMany : Int32) (w : (Nat → Int32)) (x1 : Int32) (x2 : Int32) (H : Heap) (locs : List Loc) (ls : Array Slot), f_X11_drift_56 t_all t_corners t_hearers pinched says n_56 t_spoke t_holds t_undoMany w x1 x2 = some (r, o_t_spoke, o_t_holds, o_t_undoMany, o_w) → va_P D vwCl [(q_t, .inr (11, [.ref q_w, .ref q_isKept, .int t_all, .int t_corners, .int t_hearers, .int t_newAll, .int t_newCorners, .int t_newHearers, .ref q_beer, .ref q_cold, .ref q_stands, .ref q_pinched, .ref q_says, .ref q_text, .int t_textSize, .int t_at, .int t_first, .int t_faultOf, .int t_fault, .int t_spoke, .int t_holds, .int t_undoMany, .ref q_seenDecree, .ref q_seenAt, .ref q_seenSpoke, .int t_seen, .ref q_inSets, .ref q_book, .int t_written])), (q_pinched, .inl (a 0, 18, .inl pinched)), (q_says, .inl (a 0, 18, .inl says)), (q_w, .inl (a 0, 578, .inl w))] H → va_D A [(q_t, .inr (11, [.ref q_w, .ref q_isKept, .int t_all, .int t_corners, .int t_hearers, .int t_newAll, .int t_newCorners, .int t_newHearers, .ref q_beer, .ref q_cold, .ref q_stands, .ref q_pinched, .ref q_says, .ref q_text, .int t_textSize, .int t_at, .int t_first, .int t_faultOf, .int t_fault, .int t_spoke, .int t_holds, .int t_undoMany, .ref q_seenDecree, .ref q_seenAt, .ref q_seenSpoke, .int t_seen, .ref q_inSets, .ref q_book, .int t_written])), (q_pinched, .inl (a 0, 18, .inl pinched)), (q_says, .inl (a 0, 18, .inl says)), (q_w, .inl (a 0, 578, .inl w))] → va_S A s.heap H locs → lv_has ls 5 [(0, .ref q_t), (1, .int x1), (2, .int x2)] → W p l e { frames := 6, cells := 0, slots := 0, locals := 152 } s m args below meth c H locs 0 0 Q (F0 m 56 ls []) := by
    intro n_56
    induction n_56 with
    | zero => intro t_spoke t_holds t_undoMany w x1 x2 H locs ls hf hP hD hS hl; rw [f_X11_drift_56] at hf; cases hf
    | succ n_56 ih_56 =>
      have L_107 : ∀ (t_spoke : Int32) (t_holds : Int32) (t_undoMany : Int32) (w : (Nat → Int32)) (x1 : Int32) (x2 : Int32) (H : Heap) (locs : List Loc) (ls : Array Slot), f_X11_drift_107 t_all t_corners t_hearers pinched says (f_X11_drift_56 t_all t_corners t_hearers pinched says n_56) t_spoke t_holds t_undoMany w x1 x2 = some (r, o_t_spoke, o_t_holds, o_t_undoMany, o_w) → va_P D vwCl [(q_t, .inr (11, [.ref q_w, .ref q_isKept, .int t_all, .int t_corners, .int t_hearers, .int t_newAll, .int t_newCorners, .int t_newHearers, .ref q_beer, .ref q_cold, .ref q_stands, .ref q_pinched, .ref q_says, .ref q_text, .int t_textSize, .int t_at, .int t_first, .int t_faultOf, .int t_fault, .int t_spoke, .int t_holds, .int t_undoMany, .ref q_seenDecree, .ref q_seenAt, .ref q_seenSpoke, .int t_seen, .ref q_inSets, .ref q_book, .int t_written])), (q_pinched, .inl (a 0, 18, .inl pinched)), (q_says, .inl (a 0, 18, .inl says)), (q_w, .inl (a 0, 578, .inl w))] H → va_D A [(q_t, .inr (11, [.ref q_w, .ref q_isKept, .int t_all, .int t_corners, .int t_hearers, .int t_newAll, .int t_newCorners, .int t_newHearers, .ref q_beer, .ref q_cold, .ref q_stands, .ref q_pinched, .ref q_says, .ref q_text, .int t_textSize, .int t_at, .int t_first, .int t_faultOf, .int t_fault, .int t_spoke, .int t_holds, .int t_undoMany, .ref q_seenDecree, .ref q_seenAt, .ref q_seenSpoke, .int t_seen, .ref q_inSets, .ref q_book, .int t_written])), (q_pinched, .inl (a 0, 18, .inl pinched)), (q_says, .inl (a 0, 18, .inl says)), (q_w, .inl (a 0, 578, .inl w))] → va_S A s.heap H locs → lv_has ls 5 [(0, .ref q_t), (1, .int x1), (2, .int x2)] → W p l e { frames := 6, cells := 0, slots := 0, locals := 152 } s m args below meth c H locs 0 0 Q (F0 m 107 ls []) := by
        intro t_spoke t_holds t_undoMany w x1 x2 H locs ls hf hP hD hS hl
        unfold f_X11_drift_107 at hf
        refine lv_aload_n hx hb dX11_drift_107 rfl (lv_at hl 0 rfl) ?_
        obtain ⟨o1, ho1, hf⟩ := o_bd hf
        refine call_vV (q0 := 0) (ci := 11) hX (c_X11_passMonth l D a t q_t q_w q_isKept t_all t_corners t_hearers t_newAll t_newCorners t_newHearers q_beer q_cold q_stands q_pinched q_says q_text t_textSize t_at t_first t_faultOf t_fault t_spoke t_holds t_undoMany q_seenDecree q_seenAt q_seenSpoke t_seen q_inSets q_book t_written w o1 ho1) (cwV 0 hts gX11_drift_X11_passMonth rfl rfl rfl hdV_X11_passMonth ⟨by decide, by decide⟩) (Cut.of hA hP hD hS [0, 3] (by decide) rfl rfl (W' := [(q_t, .inr (11, [.ref q_w, .ref q_isKept, .int t_all, .int t_corners, .int t_hearers, .int t_newAll, .int t_newCorners, .int t_newHearers, .ref q_beer, .ref q_cold, .ref q_stands, .ref q_pinched, .ref q_says, .ref q_text, .int t_textSize, .int t_at, .int t_first, .int t_faultOf, .int t_fault, .int t_spoke, .int t_holds, .int t_undoMany, .ref q_seenDecree, .ref q_seenAt, .ref q_seenSpoke, .int t_seen, .ref q_inSets, .ref q_book, .int t_written])), (q_pinched, .inl (a 0, 18, .inl pinched)), (q_says, .inl (a 0, 18, .inl says)), (q_w, .inl (a 0, 578, .inl o1))]) rfl) hS rfl rfl rfl hl.1 rfl (Nat.le_of_ble_eq_true rfl) dX11_drift_108 (by decide) (fun H locs hP hD hS => ?_)
        replace hP : va_P D vwCl [(q_t, .inr (11, [.ref q_w, .ref q_isKept, .int t_all, .int t_corners, .int t_hearers, .int t_newAll, .int t_newCorners, .int t_newHearers, .ref q_beer, .ref q_cold, .ref q_stands, .ref q_pinched, .ref q_says, .ref q_text, .int t_textSize, .int t_at, .int t_first, .int t_faultOf, .int t_fault, .int t_spoke, .int t_holds, .int t_undoMany, .ref q_seenDecree, .ref q_seenAt, .ref q_seenSpoke, .int t_seen, .ref q_inSets, .ref q_book, .int t_written])), (q_pinched, .inl (a 0, 18, .inl pinched)), (q_says, .inl (a 0, 18, .inl says)), (q_w, .inl (a 0, 578, .inl o1))] H := hP
        replace hD : va_D A [(q_t, .inr (11, [.ref q_w, .ref q_isKept, .int t_all, .int t_corners, .int t_hearers, .int t_newAll, .int t_newCorners, .int t_newHearers, .ref q_beer, .ref q_cold, .ref q_stands, .ref q_pinched, .ref q_says, .ref q_text, .int t_textSize, .int t_at, .int t_first, .int t_faultOf, .int t_fault, .int t_spoke, .int t_holds, .int t_undoMany, .ref q_seenDecree, .ref q_seenAt, .ref q_seenSpoke, .int t_seen, .ref q_inSets, .ref q_book, .int t_written])), (q_pinched, .inl (a 0, 18, .inl pinched)), (q_says, .inl (a 0, 18, .inl says)), (q_w, .inl (a 0, 578, .inl o1))] := hD
        obtain ⟨v2, ev2⟩ : ∃ y : Int32, y = x2 + (1 : Int32) := ⟨_, rfl⟩
        replace hf := o_nmh hf v2 ev2
        refine lv_iinc (v := v2) (lv' := [(2, .int v2), (0, .ref q_t), (1, .int x1)]) hx hb dX11_drift_111 hl (k := 2) rfl (by rw [ev2]; rfl) (by decide) rfl (fun ls hl => ?_)
        refine lv_goto (tgt := 56) hx hb dX11_drift_114 (by decide) ?_
        exact ih_56 t_spoke t_holds t_undoMany o1 x1 v2 _ _ _ hf hP hD hS (lv_sub hl [1, 2, 0] rfl)
      intro t_spoke t_holds t_undoMany w x1 x2 H locs ls hf hP hD hS hl
      rw [f_X11_drift_56] at hf
      refine lv_iload_n hx hb dX11_drift_56 rfl (lv_at hl 2 rfl) ?_
      refine lv_iload_n hx hb dX11_drift_57 rfl (lv_at hl 1 rfl) ?_
      refine lv_icmp_ge (tgt := 117) hx hb dX11_drift_58 (by decide) (fun c3 => ?_) (fun c3 => ?_)
      · replace hf := o_ifp hf c3
        refine lv_aload_n hx hb dX11_drift_117 rfl (lv_at hl 0 rfl) ?_
        refine g_get hX hiX11 hP 0 rfl rfl 0 (by decide) hk5 rfl rfl dX11_drift_118 ?_
        refine lv_bipush (v := (14 : Int32)) hx hb dX11_drift_121 (by decide) ?_
        obtain ⟨hiv4, hf⟩ := o_ldh hf
        refine g_iald hX hP 3 rfl hiv4 dX11_drift_123 (fun v4 ev4 => ?_)
        replace hf := hf v4 ev4
        cases hf
        exact hret _ _ _ _ (vp_nar_int _) hP hD hS dX11_drift_124
      replace hf := o_ifn hf c3
      refine lv_aload_n hx hb dX11_drift_61 rfl (lv_at hl 0 rfl) ?_
      obtain ⟨o5, ho5, hf⟩ := o_bd hf
      refine call_vV (q0 := 0) (ci := 11) hX (c_X11_remember l D a t q_t q_w q_isKept t_all t_corners t_hearers t_newAll t_newCorners t_newHearers q_beer q_cold q_stands q_pinched q_says q_text t_textSize t_at t_first t_faultOf t_fault t_spoke t_holds t_undoMany q_seenDecree q_seenAt q_seenSpoke t_seen q_inSets q_book t_written w o5.1 o5.2 ho5) (cwV 0 hts gX11_drift_X11_remember rfl rfl rfl hdV_X11_remember ⟨by decide, by decide⟩) (Cut.of hA hP hD hS [0, 3] (by decide) rfl rfl (W' := [(q_t, .inr (11, [.ref q_w, .ref q_isKept, .int t_all, .int t_corners, .int t_hearers, .int t_newAll, .int t_newCorners, .int t_newHearers, .ref q_beer, .ref q_cold, .ref q_stands, .ref q_pinched, .ref q_says, .ref q_text, .int t_textSize, .int t_at, .int t_first, .int t_faultOf, .int t_fault, .int t_spoke, .int t_holds, .int o5.1, .ref q_seenDecree, .ref q_seenAt, .ref q_seenSpoke, .int t_seen, .ref q_inSets, .ref q_book, .int t_written])), (q_pinched, .inl (a 0, 18, .inl pinched)), (q_says, .inl (a 0, 18, .inl says)), (q_w, .inl (a 0, 578, .inl o5.2))]) rfl) hS rfl rfl rfl hl.1 rfl (Nat.le_of_ble_eq_true rfl) dX11_drift_62 (by decide) (fun H locs hP hD hS => ?_)
      replace hP : va_P D vwCl [(q_t, .inr (11, [.ref q_w, .ref q_isKept, .int t_all, .int t_corners, .int t_hearers, .int t_newAll, .int t_newCorners, .int t_newHearers, .ref q_beer, .ref q_cold, .ref q_stands, .ref q_pinched, .ref q_says, .ref q_text, .int t_textSize, .int t_at, .int t_first, .int t_faultOf, .int t_fault, .int t_spoke, .int t_holds, .int o5.1, .ref q_seenDecree, .ref q_seenAt, .ref q_seenSpoke, .int t_seen, .ref q_inSets, .ref q_book, .int t_written])), (q_pinched, .inl (a 0, 18, .inl pinched)), (q_says, .inl (a 0, 18, .inl says)), (q_w, .inl (a 0, 578, .inl o5.2))] H := hP
      replace hD : va_D A [(q_t, .inr (11, [.ref q_w, .ref q_isKept, .int t_all, .int t_corners, .int t_hearers, .int t_newAll, .int t_newCorners, .int t_newHearers, .ref q_beer, .ref q_cold, .ref q_stands, .ref q_pinched, .ref q_says, .ref q_text, .int t_textSize, .int t_at, .int t_first, .int t_faultOf, .int t_fault, .int t_spoke, .int t_holds, .int o5.1, .ref q_seenDecree, .ref q_seenAt, .ref q_seenSpoke, .int t_seen, .ref q_inSets, .ref q_book, .int t_written])), (q_pinched, .inl (a 0, 18, .inl pinched)), (q_says, .inl (a 0, 18, .inl says)), (q_w, .inl (a 0, 578, .inl o5.2))] := hD
      refine lv_aload_n hx hb dX11_drift_65 rfl (lv_at hl 0 rfl) ?_
      refine g_get hX hiX11 hP 0 rfl rfl 3 (by decide) hk7 rfl rfl dX11_drift_66 ?_
      refine lv_if_le (tgt := 107) hx hb dX11_drift_69 (by decide) (fun c6 => ?_) (fun c6 => ?_)
      · replace hf := o_ifp hf c6
        exact L_107 t_spoke t_holds o5.1 o5.2 x1 x2 _ _ _ hf hP hD hS (lv_sub hl [0, 1, 2] rfl)
      replace hf := o_ifn hf c6
      refine lv_aload_n hx hb dX11_drift_72 rfl (lv_at hl 0 rfl) ?_
      refine lv_sipush (v := (256 : Int32)) hx hb dX11_drift_73 (by decide) ?_
      obtain ⟨o7, ho7, hf⟩ := o_bd hf
      refine call_iV (q0 := 0) (ci := 11) hX (c_X11_draw l D a t q_t q_w q_isKept t_all t_corners t_hearers t_newAll t_newCorners t_newHearers q_beer q_cold q_stands q_pinched q_says q_text t_textSize t_at t_first t_faultOf t_fault t_spoke t_holds o5.1 q_seenDecree q_seenAt q_seenSpoke t_seen q_inSets q_book t_written o5.2 (256 : Int32) o7.1 o7.2 ho7) (cwV 1 hts gX11_drift_X11_draw rfl rfl rfl hdV_X11_draw ⟨by decide, by decide⟩) (Cut.of hA hP hD hS [0, 3] (by decide) rfl rfl (W' := [(q_t, .inr (11, [.ref q_w, .ref q_isKept, .int t_all, .int t_corners, .int t_hearers, .int t_newAll, .int t_newCorners, .int t_newHearers, .ref q_beer, .ref q_cold, .ref q_stands, .ref q_pinched, .ref q_says, .ref q_text, .int t_textSize, .int t_at, .int t_first, .int t_faultOf, .int t_fault, .int t_spoke, .int t_holds, .int o5.1, .ref q_seenDecree, .ref q_seenAt, .ref q_seenSpoke, .int t_seen, .ref q_inSets, .ref q_book, .int t_written])), (q_pinched, .inl (a 0, 18, .inl pinched)), (q_says, .inl (a 0, 18, .inl says)), (q_w, .inl (a 0, 578, .inl o7.2))]) rfl) hS rfl rfl rfl hl.1 rfl (Nat.le_of_ble_eq_true rfl) dX11_drift_76 (by decide) (fun H locs hP hD hS => ?_)
      replace hP : va_P D vwCl [(q_t, .inr (11, [.ref q_w, .ref q_isKept, .int t_all, .int t_corners, .int t_hearers, .int t_newAll, .int t_newCorners, .int t_newHearers, .ref q_beer, .ref q_cold, .ref q_stands, .ref q_pinched, .ref q_says, .ref q_text, .int t_textSize, .int t_at, .int t_first, .int t_faultOf, .int t_fault, .int t_spoke, .int t_holds, .int o5.1, .ref q_seenDecree, .ref q_seenAt, .ref q_seenSpoke, .int t_seen, .ref q_inSets, .ref q_book, .int t_written])), (q_pinched, .inl (a 0, 18, .inl pinched)), (q_says, .inl (a 0, 18, .inl says)), (q_w, .inl (a 0, 578, .inl o7.2))] H := hP
      replace hD : va_D A [(q_t, .inr (11, [.ref q_w, .ref q_isKept, .int t_all, .int t_corners, .int t_hearers, .int t_newAll, .int t_newCorners, .int t_newHearers, .ref q_beer, .ref q_cold, .ref q_stands, .ref q_pinched, .ref q_says, .ref q_text, .int t_textSize, .int t_at, .int t_first, .int t_faultOf, .int t_fault, .int t_spoke, .int t_holds, .int o5.1, .ref q_seenDecree, .ref q_seenAt, .ref q_seenSpoke, .int t_seen, .ref q_inSets, .ref q_book, .int t_written])), (q_pinched, .inl (a 0, 18, .inl pinched)), (q_says, .inl (a 0, 18, .inl says)), (q_w, .inl (a 0, 578, .inl o7.2))] := hD
      refine lv_aload_n hx hb dX11_drift_79 rfl (lv_at hl 0 rfl) ?_
      refine g_get hX hiX11 hP 0 rfl rfl 2 (by decide) hk3 rfl rfl dX11_drift_80 ?_
      refine lv_iand hx hb dX11_drift_83 ?_
      refine lv_topi (fun v8 ev8 => ?_)
      replace hf := o_nmh hf v8 ev8
      refine lv_istore_n (lv' := [(3, .int v8), (0, .ref q_t), (1, .int x1), (2, .int x2)]) hx hb dX11_drift_84 rfl hl (by decide) rfl (fun ls hl => ?_)
      refine lv_aload_n hx hb dX11_drift_85 rfl (lv_at hl 1 rfl) ?_
      refine lv_aload_n hx hb dX11_drift_86 rfl (lv_at hl 1 rfl) ?_
      refine g_get hX hiX11 hP 0 rfl rfl 3 (by decide) hk7 rfl rfl dX11_drift_87 ?_
      obtain ⟨o9, ho9, hf⟩ := o_bd hf
      refine call_iV (q0 := 0) (ci := 11) hX (c_X11_draw l D a t q_t q_w q_isKept t_all t_corners t_hearers t_newAll t_newCorners t_newHearers q_beer q_cold q_stands q_pinched q_says q_text t_textSize t_at t_first t_faultOf t_fault t_spoke t_holds o5.1 q_seenDecree q_seenAt q_seenSpoke t_seen q_inSets q_book t_written o7.2 t_corners o9.1 o9.2 ho9) (cwV 1 hts gX11_drift_X11_draw rfl rfl rfl hdV_X11_draw ⟨by decide, by decide⟩) (Cut.of hA hP hD hS [0, 3] (by decide) rfl rfl (W' := [(q_t, .inr (11, [.ref q_w, .ref q_isKept, .int t_all, .int t_corners, .int t_hearers, .int t_newAll, .int t_newCorners, .int t_newHearers, .ref q_beer, .ref q_cold, .ref q_stands, .ref q_pinched, .ref q_says, .ref q_text, .int t_textSize, .int t_at, .int t_first, .int t_faultOf, .int t_fault, .int t_spoke, .int t_holds, .int o5.1, .ref q_seenDecree, .ref q_seenAt, .ref q_seenSpoke, .int t_seen, .ref q_inSets, .ref q_book, .int t_written])), (q_pinched, .inl (a 0, 18, .inl pinched)), (q_says, .inl (a 0, 18, .inl says)), (q_w, .inl (a 0, 578, .inl o9.2))]) rfl) hS rfl rfl rfl hl.1 rfl (Nat.le_of_ble_eq_true rfl) dX11_drift_90 (by decide) (fun H locs hP hD hS => ?_)
      replace hP : va_P D vwCl [(q_t, .inr (11, [.ref q_w, .ref q_isKept, .int t_all, .int t_corners, .int t_hearers, .int t_newAll, .int t_newCorners, .int t_newHearers, .ref q_beer, .ref q_cold, .ref q_stands, .ref q_pinched, .ref q_says, .ref q_text, .int t_textSize, .int t_at, .int t_first, .int t_faultOf, .int t_fault, .int t_spoke, .int t_holds, .int o5.1, .ref q_seenDecree, .ref q_seenAt, .ref q_seenSpoke, .int t_seen, .ref q_inSets, .ref q_book, .int t_written])), (q_pinched, .inl (a 0, 18, .inl pinched)), (q_says, .inl (a 0, 18, .inl says)), (q_w, .inl (a 0, 578, .inl o9.2))] H := hP
      replace hD : va_D A [(q_t, .inr (11, [.ref q_w, .ref q_isKept, .int t_all, .int t_corners, .int t_hearers, .int t_newAll, .int t_newCorners, .int t_newHearers, .ref q_beer, .ref q_cold, .ref q_stands, .ref q_pinched, .ref q_says, .ref q_text, .int t_textSize, .int t_at, .int t_first, .int t_faultOf, .int t_fault, .int t_spoke, .int t_holds, .int o5.1, .ref q_seenDecree, .ref q_seenAt, .ref q_seenSpoke, .int t_seen, .ref q_inSets, .ref q_book, .int t_written])), (q_pinched, .inl (a 0, 18, .inl pinched)), (q_says, .inl (a 0, 18, .inl says)), (q_w, .inl (a 0, 578, .inl o9.2))] := hD
      refine lv_istore (lv' := [(4, .int o9.1), (3, .int v8), (0, .ref q_t), (1, .int x1), (2, .int x2)]) hx hb dX11_drift_93 hl (by decide) rfl (fun ls hl => ?_)
      refine lv_aload_n hx hb dX11_drift_95 rfl (lv_at hl 2 rfl) ?_
      refine lv_iload_n hx hb dX11_drift_96 rfl (lv_at hl 1 rfl) ?_
      refine lv_iload hx hb dX11_drift_97 (lv_at hl 0 rfl) ?_
      refine lv_aload_n hx hb dX11_drift_99 rfl (lv_at hl 2 rfl) ?_
      refine lv_iconst (v := (2 : Int32)) hx hb dX11_drift_100 (by decide) ?_
      obtain ⟨o10, ho10, hf⟩ := o_bd hf
      refine call_iV (q0 := 0) (ci := 11) hX (c_X11_draw l D a t q_t q_w q_isKept t_all t_corners t_hearers t_newAll t_newCorners t_newHearers q_beer q_cold q_stands q_pinched q_says q_text t_textSize t_at t_first t_faultOf t_fault t_spoke t_holds o5.1 q_seenDecree q_seenAt q_seenSpoke t_seen q_inSets q_book t_written o9.2 (2 : Int32) o10.1 o10.2 ho10) (cwV 1 hts gX11_drift_X11_draw rfl rfl rfl hdV_X11_draw ⟨by decide, by decide⟩) (Cut.of hA hP hD hS [0, 3] (by decide) rfl rfl (W' := [(q_t, .inr (11, [.ref q_w, .ref q_isKept, .int t_all, .int t_corners, .int t_hearers, .int t_newAll, .int t_newCorners, .int t_newHearers, .ref q_beer, .ref q_cold, .ref q_stands, .ref q_pinched, .ref q_says, .ref q_text, .int t_textSize, .int t_at, .int t_first, .int t_faultOf, .int t_fault, .int t_spoke, .int t_holds, .int o5.1, .ref q_seenDecree, .ref q_seenAt, .ref q_seenSpoke, .int t_seen, .ref q_inSets, .ref q_book, .int t_written])), (q_pinched, .inl (a 0, 18, .inl pinched)), (q_says, .inl (a 0, 18, .inl says)), (q_w, .inl (a 0, 578, .inl o10.2))]) rfl) hS rfl rfl rfl hl.1 rfl (Nat.le_of_ble_eq_true rfl) dX11_drift_101 (by decide) (fun H locs hP hD hS => ?_)
      replace hP : va_P D vwCl [(q_t, .inr (11, [.ref q_w, .ref q_isKept, .int t_all, .int t_corners, .int t_hearers, .int t_newAll, .int t_newCorners, .int t_newHearers, .ref q_beer, .ref q_cold, .ref q_stands, .ref q_pinched, .ref q_says, .ref q_text, .int t_textSize, .int t_at, .int t_first, .int t_faultOf, .int t_fault, .int t_spoke, .int t_holds, .int o5.1, .ref q_seenDecree, .ref q_seenAt, .ref q_seenSpoke, .int t_seen, .ref q_inSets, .ref q_book, .int t_written])), (q_pinched, .inl (a 0, 18, .inl pinched)), (q_says, .inl (a 0, 18, .inl says)), (q_w, .inl (a 0, 578, .inl o10.2))] H := hP
      replace hD : va_D A [(q_t, .inr (11, [.ref q_w, .ref q_isKept, .int t_all, .int t_corners, .int t_hearers, .int t_newAll, .int t_newCorners, .int t_newHearers, .ref q_beer, .ref q_cold, .ref q_stands, .ref q_pinched, .ref q_says, .ref q_text, .int t_textSize, .int t_at, .int t_first, .int t_faultOf, .int t_fault, .int t_spoke, .int t_holds, .int o5.1, .ref q_seenDecree, .ref q_seenAt, .ref q_seenSpoke, .int t_seen, .ref q_inSets, .ref q_book, .int t_written])), (q_pinched, .inl (a 0, 18, .inl pinched)), (q_says, .inl (a 0, 18, .inl says)), (q_w, .inl (a 0, 578, .inl o10.2))] := hD
      obtain ⟨o11, ho11, hf⟩ := o_bd hf
      refine call_vV (q0 := 0) (ci := 11) hX (c_X11_roundNow l D a t q_t q_w q_isKept t_all t_corners t_hearers t_newAll t_newCorners t_newHearers q_beer q_cold q_stands q_pinched q_says q_text t_textSize t_at t_first t_faultOf t_fault t_spoke t_holds o5.1 q_seenDecree q_seenAt q_seenSpoke t_seen q_inSets q_book t_written pinched says o10.2 v8 o9.1 o10.1 o11.1 o11.2.1 o11.2.2 ho11) (cwV 3 hts gX11_drift_X11_roundNow rfl rfl rfl hdV_X11_roundNow ⟨by decide, by decide⟩) (Cut.of hA hP hD hS [0, 1, 2, 3] (by decide) rfl rfl (W' := [(q_t, .inr (11, [.ref q_w, .ref q_isKept, .int t_all, .int t_corners, .int t_hearers, .int t_newAll, .int t_newCorners, .int t_newHearers, .ref q_beer, .ref q_cold, .ref q_stands, .ref q_pinched, .ref q_says, .ref q_text, .int t_textSize, .int t_at, .int t_first, .int t_faultOf, .int t_fault, .int o11.1, .int o11.2.1, .int o5.1, .ref q_seenDecree, .ref q_seenAt, .ref q_seenSpoke, .int t_seen, .ref q_inSets, .ref q_book, .int t_written])), (q_pinched, .inl (a 0, 18, .inl pinched)), (q_says, .inl (a 0, 18, .inl says)), (q_w, .inl (a 0, 578, .inl o11.2.2))]) rfl) hS rfl rfl rfl hl.1 rfl (Nat.le_of_ble_eq_true rfl) dX11_drift_104 (by decide) (fun H locs hP hD hS => ?_)
      replace hP : va_P D vwCl [(q_t, .inr (11, [.ref q_w, .ref q_isKept, .int t_all, .int t_corners, .int t_hearers, .int t_newAll, .int t_newCorners, .int t_newHearers, .ref q_beer, .ref q_cold, .ref q_stands, .ref q_pinched, .ref q_says, .ref q_text, .int t_textSize, .int t_at, .int t_first, .int t_faultOf, .int t_fault, .int o11.1, .int o11.2.1, .int o5.1, .ref q_seenDecree, .ref q_seenAt, .ref q_seenSpoke, .int t_seen, .ref q_inSets, .ref q_book, .int t_written])), (q_pinched, .inl (a 0, 18, .inl pinched)), (q_says, .inl (a 0, 18, .inl says)), (q_w, .inl (a 0, 578, .inl o11.2.2))] H := hP
      replace hD : va_D A [(q_t, .inr (11, [.ref q_w, .ref q_isKept, .int t_all, .int t_corners, .int t_hearers, .int t_newAll, .int t_newCorners, .int t_newHearers, .ref q_beer, .ref q_cold, .ref q_stands, .ref q_pinched, .ref q_says, .ref q_text, .int t_textSize, .int t_at, .int t_first, .int t_faultOf, .int t_fault, .int o11.1, .int o11.2.1, .int o5.1, .ref q_seenDecree, .ref q_seenAt, .ref q_seenSpoke, .int t_seen, .ref q_inSets, .ref q_book, .int t_written])), (q_pinched, .inl (a 0, 18, .inl pinched)), (q_says, .inl (a 0, 18, .inl says)), (q_w, .inl (a 0, 578, .inl o11.2.2))] := hD
      exact L_107 o11.1 o11.2.1 o5.1 o11.2.2 x1 x2 _ _ _ hf hP hD hS (lv_sub hl [2, 3, 4] rfl)
  unfold f_X11_drift at hf
  refine lv_iload_n hx hb dX11_drift_0 rfl (lv_at hl 1 rfl) ?_
  refine lv_i2l (v := Int32.toInt64 x1) hx hb dX11_drift_1 rfl ?_
  refine lv_lconst (v := (1 : Int64)) hx hb dX11_drift_2 (by decide) ?_
  refine lv_ldc2 (v := (20 : Int64)) hx hb hown hk1 dX11_drift_3 ?_
  obtain ⟨o12, ho12, hf⟩ := o_bd hf
  refine call_iS hX (c_X11_in l D a t (Int32.toInt64 x1) (1 : Int64) (20 : Int64) o12 ho12) (va_cwS 3 hts gX11_drift_X11_in rfl rfl rfl hdS_X11_in ⟨by decide, by decide⟩) (Cut.none hA hP hD hS) hS rfl hl.1 rfl (Nat.le_of_ble_eq_true rfl) dX11_drift_6 (by decide) (fun H locs hP hD hS => ?_)
  refine lv_if_ne (tgt := 15) hx hb dX11_drift_9 (by decide) (fun c13 => ?_) (fun c13 => ?_)
  · replace hf := o_ifn hf c13
    refine lv_aload_n hx hb dX11_drift_15 rfl (lv_at hl 0 rfl) ?_
    refine g_get hX hiX11 hP 0 rfl rfl 2 (by decide) hk3 rfl rfl dX11_drift_16 ?_
    refine lv_if_ne (tgt := 25) hx hb dX11_drift_19 (by decide) (fun c14 => ?_) (fun c14 => ?_)
    · replace hf := o_ifn hf c14
      refine lv_aload_n hx hb dX11_drift_25 rfl (lv_at hl 0 rfl) ?_
      refine g_get hX hiX11 hP 0 rfl rfl 0 (by decide) hk5 rfl rfl dX11_drift_26 ?_
      refine lv_bipush (v := (12 : Int32)) hx hb dX11_drift_29 (by decide) ?_
      obtain ⟨hiv15, hf⟩ := o_ldh hf
      refine g_iald hX hP 3 rfl hiv15 dX11_drift_31 (fun v15 ev15 => ?_)
      replace hf := hf v15 ev15
      refine lv_sipush (v := (9000 : Int32)) hx hb dX11_drift_32 (by decide) ?_
      refine lv_icmp_gt (tgt := 51) hx hb dX11_drift_35 (by decide) (fun c16 => ?_) (fun c16 => ?_)
      · replace hf := o_ifp hf c16
        refine lv_ldc (v := (-1000000004 : Int32)) hx hb hown hk6 dX11_drift_51 ?_
        cases hf
        exact hret _ _ _ _ (vp_nar_int _) hP hD hS dX11_drift_53
      replace hf := o_ifn hf c16
      refine lv_aload_n hx hb dX11_drift_38 rfl (lv_at hl 0 rfl) ?_
      refine g_get hX hiX11 hP 0 rfl rfl 0 (by decide) hk5 rfl rfl dX11_drift_39 ?_
      refine lv_bipush (v := (13 : Int32)) hx hb dX11_drift_42 (by decide) ?_
      obtain ⟨hiv17, hf⟩ := o_ldh hf
      refine g_iald hX hP 3 rfl hiv17 dX11_drift_44 (fun v17 ev17 => ?_)
      replace hf := hf v17 ev17
      refine lv_sipush (v := (9000 : Int32)) hx hb dX11_drift_45 (by decide) ?_
      refine lv_icmp_le (tgt := 54) hx hb dX11_drift_48 (by decide) (fun c18 => ?_) (fun c18 => ?_)
      · replace hf := o_ifp hf c18
        refine lv_iconst (v := (0 : Int32)) hx hb dX11_drift_54 (by decide) ?_
        refine lv_istore_n (lv' := [(2, .int (0 : Int32)), (0, .ref q_t), (1, .int x1)]) hx hb dX11_drift_55 rfl hl (by decide) rfl (fun ls hl => ?_)
        exact L_56 1000 t_spoke t_holds t_undoMany w x1 (0 : Int32) _ _ _ hf hP hD hS (lv_sub hl [1, 2, 0] rfl)
      replace hf := o_ifn hf c18
      refine lv_ldc (v := (-1000000004 : Int32)) hx hb hown hk6 dX11_drift_51 ?_
      cases hf
      exact hret _ _ _ _ (vp_nar_int _) hP hD hS dX11_drift_53
    replace hf := o_ifp hf c14
    refine lv_ldc (v := (-1000000003 : Int32)) hx hb hown hk4 dX11_drift_22 ?_
    cases hf
    exact hret _ _ _ _ (vp_nar_int _) hP hD hS dX11_drift_24
  replace hf := o_ifp hf c13
  refine lv_ldc (v := (-1000000002 : Int32)) hx hb hown hk2 dX11_drift_12 ?_
  cases hf
  exact hret _ _ _ _ (vp_nar_int _) hP hD hS dX11_drift_14
def f_X11_undo (t_undoMany : Int32) (w : Nat → Int32) (x1 : Int32) : Option (Int32 × Int32 × (Nat → Int32)) :=
  (f_X11_in (Int32.toInt64 x1) (1 : Int64) (30 : Int64)).bind fun o1 =>
  if o1 = 0 then (some ((-1000000002 : Int32), t_undoMany, w))
  else (if x1 ≤ t_undoMany then (o_nm ((t_undoMany - x1)) fun v4 =>
  (o_ld w 578 (16 : Int32)).bind fun v5 =>
  (f_X11_copy w ((68 : Int32) + ((17 : Int32) * v4)) (0 : Int32)).bind fun o6 =>
  (o_st o6 578 (16 : Int32) v5).bind fun w7 =>
  (o_ld w7 578 (12 : Int32)).bind fun v8 =>
  some (v8, v4, w7))
  else (some ((-1000000003 : Int32), t_undoMany, w)))
theorem hdS_X11_undo : yX11_undo.cls ≠ "java/lang/invoke/MethodHandle" ∧ yX11_undo.cls ≠ "java/lang/invoke/VarHandle" ∧ (parseMethodDescriptor yX11_undo.desc).map (fun d => d.parameters.length) = some 1 := by decide +kernel
theorem hdV_X11_undo : yX11_undo.cls = RX11 ∧ yX11_undo.cls ≠ "java/lang/invoke/MethodHandle" ∧ yX11_undo.cls ≠ "java/lang/invoke/VarHandle" ∧ (parseMethodDescriptor yX11_undo.desc).map (fun d => d.parameters.length) = some 1 := ⟨rfl, hdS_X11_undo⟩
set_option maxHeartbeats 4000000 in
set_option maxRecDepth 100000 in
theorem c_X11_undo (l : Launch) (D : va_G) (a : Nat → ClassId) (t : Nat) (q_t : Nat) (q_w : Nat) (q_isKept : Nat) (t_all : Int32) (t_corners : Int32) (t_hearers : Int32) (t_newAll : Int32) (t_newCorners : Int32) (t_newHearers : Int32) (q_beer : Nat) (q_cold : Nat) (q_stands : Nat) (q_pinched : Nat) (q_says : Nat) (q_text : Nat) (t_textSize : Int32) (t_at : Int32) (t_first : Int32) (t_faultOf : Int32) (t_fault : Int32) (t_spoke : Int32) (t_holds : Int32) (t_undoMany : Int32) (q_seenDecree : Nat) (q_seenAt : Nat) (q_seenSpoke : Nat) (t_seen : Int32) (q_inSets : Nat) (q_book : Nat) (t_written : Int32) (w : Nat → Int32) (x1 : Int32) (r : Int32) (o_t_undoMany : Int32) (o_w : Nat → Int32) (hf : f_X11_undo t_undoMany w x1 = some (r, o_t_undoMany, o_w)) : Ki l yX11_undo wsX11_undo 1 25 D a t [.ref q_t, .int x1] [(q_t, .inr (11, [.ref q_w, .ref q_isKept, .int t_all, .int t_corners, .int t_hearers, .int t_newAll, .int t_newCorners, .int t_newHearers, .ref q_beer, .ref q_cold, .ref q_stands, .ref q_pinched, .ref q_says, .ref q_text, .int t_textSize, .int t_at, .int t_first, .int t_faultOf, .int t_fault, .int t_spoke, .int t_holds, .int t_undoMany, .ref q_seenDecree, .ref q_seenAt, .ref q_seenSpoke, .int t_seen, .ref q_inSets, .ref q_book, .int t_written])), (q_w, .inl (a 0, 578, .inl w))] [(q_t, .inr (11, [.ref q_w, .ref q_isKept, .int t_all, .int t_corners, .int t_hearers, .int t_newAll, .int t_newCorners, .int t_newHearers, .ref q_beer, .ref q_cold, .ref q_stands, .ref q_pinched, .ref q_says, .ref q_text, .int t_textSize, .int t_at, .int t_first, .int t_faultOf, .int t_fault, .int t_spoke, .int t_holds, .int o_t_undoMany, .ref q_seenDecree, .ref q_seenAt, .ref q_seenSpoke, .int t_seen, .ref q_inSets, .ref q_book, .int t_written])), (q_w, .inl (a 0, 578, .inl o_w))] r := by
  refine Ki.mk (cc := cX11_undo) (nL := 3) (ty := .int) (own := RX11) (by decide) rfl rfl (Nat.le_of_ble_eq_true rfl) ?_
  intro p e s m args below meth c A Q ls hX hP hD hS hl hret
  have hx := hX.1.1
  have hb := hX.1.2.1
  have hown := hX.1.2.2.2.1
  have hts := hX.1.2.2.2.2
  have hN := hX.2.2.1
  have hA := hX.2.2.2.2
  have hl : lv_has ls 3 [(0, .ref q_t), (1, .int x1)] := hl
  have hk1 := hts (.constantLong RX11 220 (30)) (List.mem_of_getElem? (i := 1) rfl)
  have hk2 := hts (.constant RX11 64 (-1000000002)) (List.mem_of_getElem? (i := 2) rfl)
  have hk3 := hts (.fieldLink RX11 142 "GainsaidOnceModel" "undoMany" "I") (List.mem_of_getElem? (i := 3) rfl)
  have hk4 := hts (.constant RX11 200 (-1000000003)) (List.mem_of_getElem? (i := 4) rfl)
  have hk5 := hts (.fieldLink RX11 7 "GainsaidOnceModel" "w" "[I") (List.mem_of_getElem? (i := 5) rfl)
  have hiX11 : ∀ w ∈ wsX110, w ∈ wsX11_undo := (fun _ h => List.mem_cons_of_mem _ (List.mem_append_right _ h))
  unfold f_X11_undo at hf
  refine lv_iload_n hx hb dX11_undo_0 rfl (lv_at hl 1 rfl) ?_
  refine lv_i2l (v := Int32.toInt64 x1) hx hb dX11_undo_1 rfl ?_
  refine lv_lconst (v := (1 : Int64)) hx hb dX11_undo_2 (by decide) ?_
  refine lv_ldc2 (v := (30 : Int64)) hx hb hown hk1 dX11_undo_3 ?_
  obtain ⟨o1, ho1, hf⟩ := o_bd hf
  refine call_iS hX (c_X11_in l D a t (Int32.toInt64 x1) (1 : Int64) (30 : Int64) o1 ho1) (va_cwS 3 hts gX11_undo_X11_in rfl rfl rfl hdS_X11_in ⟨by decide, by decide⟩) (Cut.none hA hP hD hS) hS rfl hl.1 rfl (Nat.le_of_ble_eq_true rfl) dX11_undo_6 (by decide) (fun H locs hP hD hS => ?_)
  refine lv_if_ne (tgt := 15) hx hb dX11_undo_9 (by decide) (fun c2 => ?_) (fun c2 => ?_)
  · replace hf := o_ifn hf c2
    refine lv_iload_n hx hb dX11_undo_15 rfl (lv_at hl 1 rfl) ?_
    refine lv_aload_n hx hb dX11_undo_16 rfl (lv_at hl 0 rfl) ?_
    refine g_get hX hiX11 hP 0 rfl rfl 21 (by decide) hk3 rfl rfl dX11_undo_17 ?_
    refine lv_icmp_le (tgt := 26) hx hb dX11_undo_20 (by decide) (fun c3 => ?_) (fun c3 => ?_)
    · replace hf := o_ifp hf c3
      refine lv_aload_n hx hb dX11_undo_26 rfl (lv_at hl 0 rfl) ?_
      refine lv_dup hx hb dX11_undo_27 rfl ?_
      refine g_get hX hiX11 hP 0 rfl rfl 21 (by decide) hk3 rfl rfl dX11_undo_28 ?_
      refine lv_iload_n hx hb dX11_undo_31 rfl (lv_at hl 1 rfl) ?_
      refine lv_isub hx hb dX11_undo_32 ?_
      refine lv_topi (fun v4 ev4 => ?_)
      replace hf := o_nmh hf v4 ev4
      refine g_put hX hiX11 tyX11 tyX11_ok nmX11 hP hD hS 0 rfl rfl 21 (by decide) hk3 rfl rfl rfl rfl (Nat.le_of_ble_eq_true rfl) dX11_undo_33 (fun H locs hP hD hS => ?_)
      replace hP : va_P D vwCl [(q_t, .inr (11, [.ref q_w, .ref q_isKept, .int t_all, .int t_corners, .int t_hearers, .int t_newAll, .int t_newCorners, .int t_newHearers, .ref q_beer, .ref q_cold, .ref q_stands, .ref q_pinched, .ref q_says, .ref q_text, .int t_textSize, .int t_at, .int t_first, .int t_faultOf, .int t_fault, .int t_spoke, .int t_holds, .int v4, .ref q_seenDecree, .ref q_seenAt, .ref q_seenSpoke, .int t_seen, .ref q_inSets, .ref q_book, .int t_written])), (q_w, .inl (a 0, 578, .inl w))] H := hP
      replace hD : va_D A [(q_t, .inr (11, [.ref q_w, .ref q_isKept, .int t_all, .int t_corners, .int t_hearers, .int t_newAll, .int t_newCorners, .int t_newHearers, .ref q_beer, .ref q_cold, .ref q_stands, .ref q_pinched, .ref q_says, .ref q_text, .int t_textSize, .int t_at, .int t_first, .int t_faultOf, .int t_fault, .int t_spoke, .int t_holds, .int v4, .ref q_seenDecree, .ref q_seenAt, .ref q_seenSpoke, .int t_seen, .ref q_inSets, .ref q_book, .int t_written])), (q_w, .inl (a 0, 578, .inl w))] := hD
      refine lv_aload_n hx hb dX11_undo_36 rfl (lv_at hl 0 rfl) ?_
      refine g_get hX hiX11 hP 0 rfl rfl 0 (by decide) hk5 rfl rfl dX11_undo_37 ?_
      refine lv_bipush (v := (16 : Int32)) hx hb dX11_undo_40 (by decide) ?_
      obtain ⟨hiv5, hf⟩ := o_ldh hf
      refine g_iald hX hP 1 rfl hiv5 dX11_undo_42 (fun v5 ev5 => ?_)
      replace hf := hf v5 ev5
      refine lv_istore_n (lv' := [(2, .int v5), (0, .ref q_t), (1, .int x1)]) hx hb dX11_undo_43 rfl hl (by decide) rfl (fun ls hl => ?_)
      refine lv_aload_n hx hb dX11_undo_44 rfl (lv_at hl 1 rfl) ?_
      refine lv_bipush (v := (68 : Int32)) hx hb dX11_undo_45 (by decide) ?_
      refine lv_bipush (v := (17 : Int32)) hx hb dX11_undo_47 (by decide) ?_
      refine lv_aload_n hx hb dX11_undo_49 rfl (lv_at hl 1 rfl) ?_
      refine g_get hX hiX11 hP 0 rfl rfl 21 (by decide) hk3 rfl rfl dX11_undo_50 ?_
      refine lv_imul hx hb dX11_undo_53 ?_
      refine lv_iadd hx hb dX11_undo_54 ?_
      refine lv_iconst (v := (0 : Int32)) hx hb dX11_undo_55 (by decide) ?_
      obtain ⟨o6, ho6, hf⟩ := o_bd hf
      refine call_vV (q0 := 0) (ci := 11) hX (c_X11_copy l D a t q_t q_w q_isKept t_all t_corners t_hearers t_newAll t_newCorners t_newHearers q_beer q_cold q_stands q_pinched q_says q_text t_textSize t_at t_first t_faultOf t_fault t_spoke t_holds v4 q_seenDecree q_seenAt q_seenSpoke t_seen q_inSets q_book t_written w ((68 : Int32) + ((17 : Int32) * v4)) (0 : Int32) o6 ho6) (cwV 2 hts gX11_undo_X11_copy rfl rfl rfl hdV_X11_copy ⟨by decide, by decide⟩) (Cut.of hA hP hD hS [0, 1] (by decide) rfl rfl (W' := [(q_t, .inr (11, [.ref q_w, .ref q_isKept, .int t_all, .int t_corners, .int t_hearers, .int t_newAll, .int t_newCorners, .int t_newHearers, .ref q_beer, .ref q_cold, .ref q_stands, .ref q_pinched, .ref q_says, .ref q_text, .int t_textSize, .int t_at, .int t_first, .int t_faultOf, .int t_fault, .int t_spoke, .int t_holds, .int v4, .ref q_seenDecree, .ref q_seenAt, .ref q_seenSpoke, .int t_seen, .ref q_inSets, .ref q_book, .int t_written])), (q_w, .inl (a 0, 578, .inl o6))]) rfl) hS rfl rfl rfl hl.1 rfl (Nat.le_of_ble_eq_true rfl) dX11_undo_56 (by decide) (fun H locs hP hD hS => ?_)
      replace hP : va_P D vwCl [(q_t, .inr (11, [.ref q_w, .ref q_isKept, .int t_all, .int t_corners, .int t_hearers, .int t_newAll, .int t_newCorners, .int t_newHearers, .ref q_beer, .ref q_cold, .ref q_stands, .ref q_pinched, .ref q_says, .ref q_text, .int t_textSize, .int t_at, .int t_first, .int t_faultOf, .int t_fault, .int t_spoke, .int t_holds, .int v4, .ref q_seenDecree, .ref q_seenAt, .ref q_seenSpoke, .int t_seen, .ref q_inSets, .ref q_book, .int t_written])), (q_w, .inl (a 0, 578, .inl o6))] H := hP
      replace hD : va_D A [(q_t, .inr (11, [.ref q_w, .ref q_isKept, .int t_all, .int t_corners, .int t_hearers, .int t_newAll, .int t_newCorners, .int t_newHearers, .ref q_beer, .ref q_cold, .ref q_stands, .ref q_pinched, .ref q_says, .ref q_text, .int t_textSize, .int t_at, .int t_first, .int t_faultOf, .int t_fault, .int t_spoke, .int t_holds, .int v4, .ref q_seenDecree, .ref q_seenAt, .ref q_seenSpoke, .int t_seen, .ref q_inSets, .ref q_book, .int t_written])), (q_w, .inl (a 0, 578, .inl o6))] := hD
      refine lv_aload_n hx hb dX11_undo_59 rfl (lv_at hl 1 rfl) ?_
      refine g_get hX hiX11 hP 0 rfl rfl 0 (by decide) hk5 rfl rfl dX11_undo_60 ?_
      refine lv_bipush (v := (16 : Int32)) hx hb dX11_undo_63 (by decide) ?_
      refine lv_iload_n hx hb dX11_undo_65 rfl (lv_at hl 0 rfl) ?_
      obtain ⟨hiw7, hf⟩ := o_sth hf
      refine g_iast hX hP hD hS 1 rfl hiw7 dX11_undo_66 (fun w7 ew7 H locs hP hD hS => ?_)
      replace hf := hf w7 ew7
      replace hP : va_P D vwCl [(q_t, .inr (11, [.ref q_w, .ref q_isKept, .int t_all, .int t_corners, .int t_hearers, .int t_newAll, .int t_newCorners, .int t_newHearers, .ref q_beer, .ref q_cold, .ref q_stands, .ref q_pinched, .ref q_says, .ref q_text, .int t_textSize, .int t_at, .int t_first, .int t_faultOf, .int t_fault, .int t_spoke, .int t_holds, .int v4, .ref q_seenDecree, .ref q_seenAt, .ref q_seenSpoke, .int t_seen, .ref q_inSets, .ref q_book, .int t_written])), (q_w, .inl (a 0, 578, .inl w7))] H := hP
      replace hD : va_D A [(q_t, .inr (11, [.ref q_w, .ref q_isKept, .int t_all, .int t_corners, .int t_hearers, .int t_newAll, .int t_newCorners, .int t_newHearers, .ref q_beer, .ref q_cold, .ref q_stands, .ref q_pinched, .ref q_says, .ref q_text, .int t_textSize, .int t_at, .int t_first, .int t_faultOf, .int t_fault, .int t_spoke, .int t_holds, .int v4, .ref q_seenDecree, .ref q_seenAt, .ref q_seenSpoke, .int t_seen, .ref q_inSets, .ref q_book, .int t_written])), (q_w, .inl (a 0, 578, .inl w7))] := hD
      refine lv_aload_n hx hb dX11_undo_67 rfl (lv_at hl 1 rfl) ?_
      refine g_get hX hiX11 hP 0 rfl rfl 0 (by decide) hk5 rfl rfl dX11_undo_68 ?_
      refine lv_bipush (v := (12 : Int32)) hx hb dX11_undo_71 (by decide) ?_
      obtain ⟨hiv8, hf⟩ := o_ldh hf
      refine g_iald hX hP 1 rfl hiv8 dX11_undo_73 (fun v8 ev8 => ?_)
      replace hf := hf v8 ev8
      cases hf
      exact hret _ _ _ _ (vp_nar_int _) hP hD hS dX11_undo_74
    replace hf := o_ifn hf c3
    refine lv_ldc (v := (-1000000003 : Int32)) hx hb hown hk4 dX11_undo_23 ?_
    cases hf
    exact hret _ _ _ _ (vp_nar_int _) hP hD hS dX11_undo_25
  replace hf := o_ifp hf c2
  refine lv_ldc (v := (-1000000002 : Int32)) hx hb hown hk2 dX11_undo_12 ?_
  cases hf
  exact hret _ _ _ _ (vp_nar_int _) hP hD hS dX11_undo_14
def f_X11_would (t_all : Int32) (t_corners : Int32) (t_hearers : Int32) (t_spoke : Int32) (t_holds : Int32) (pinched : Nat → Int32) (says : Nat → Int32) (w : Nat → Int32) (x1 : Int32) (x2 : Int32) (x3 : Int32) (x4 : Int32) : Option (Int32 × Int32 × Int32 × (Nat → Int32)) :=
  (f_X11_isDecree t_all x1).bind fun o1 =>
  if o1 = 0 then (some ((-1000000001 : Int32), t_spoke, t_holds, w))
  else ((f_X11_isCorner t_corners x2).bind fun o3 =>
  if o3 = 0 then (some ((-1000000001 : Int32), t_spoke, t_holds, w))
  else ((f_X11_isWay x3).bind fun o5 =>
  if o5 = 0 then (some ((-1000000002 : Int32), t_spoke, t_holds, w))
  else ((f_X11_in (Int32.toInt64 x4) (0 : Int64) (2 : Int64)).bind fun o7 =>
  if o7 = 0 then (some ((-1000000002 : Int32), t_spoke, t_holds, w))
  else ((f_X11_tryRound t_all t_corners t_hearers t_spoke t_holds pinched says w x1 x2 x3 (0 : Int32) (0 : Int32)).bind fun o9 =>
  if x4 = 0 then (some (o9.1, o9.2.1, o9.2.2.1, o9.2.2.2))
  else (if x4 = (1 : Int32) then (some (o9.2.2.1, o9.2.1, o9.2.2.1, o9.2.2.2))
  else (some (o9.2.1, o9.2.1, o9.2.2.1, o9.2.2.2)))))))
theorem hdS_X11_would : yX11_would.cls ≠ "java/lang/invoke/MethodHandle" ∧ yX11_would.cls ≠ "java/lang/invoke/VarHandle" ∧ (parseMethodDescriptor yX11_would.desc).map (fun d => d.parameters.length) = some 4 := by decide +kernel
theorem hdV_X11_would : yX11_would.cls = RX11 ∧ yX11_would.cls ≠ "java/lang/invoke/MethodHandle" ∧ yX11_would.cls ≠ "java/lang/invoke/VarHandle" ∧ (parseMethodDescriptor yX11_would.desc).map (fun d => d.parameters.length) = some 4 := ⟨rfl, hdS_X11_would⟩
set_option maxHeartbeats 4000000 in
set_option maxRecDepth 100000 in
theorem c_X11_would (l : Launch) (D : va_G) (a : Nat → ClassId) (t : Nat) (q_t : Nat) (q_w : Nat) (q_isKept : Nat) (t_all : Int32) (t_corners : Int32) (t_hearers : Int32) (t_newAll : Int32) (t_newCorners : Int32) (t_newHearers : Int32) (q_beer : Nat) (q_cold : Nat) (q_stands : Nat) (q_pinched : Nat) (q_says : Nat) (q_text : Nat) (t_textSize : Int32) (t_at : Int32) (t_first : Int32) (t_faultOf : Int32) (t_fault : Int32) (t_spoke : Int32) (t_holds : Int32) (t_undoMany : Int32) (q_seenDecree : Nat) (q_seenAt : Nat) (q_seenSpoke : Nat) (t_seen : Int32) (q_inSets : Nat) (q_book : Nat) (t_written : Int32) (pinched : Nat → Int32) (says : Nat → Int32) (w : Nat → Int32) (x1 : Int32) (x2 : Int32) (x3 : Int32) (x4 : Int32) (r : Int32) (o_t_spoke : Int32) (o_t_holds : Int32) (o_w : Nat → Int32) (hf : f_X11_would t_all t_corners t_hearers t_spoke t_holds pinched says w x1 x2 x3 x4 = some (r, o_t_spoke, o_t_holds, o_w)) : Ki l yX11_would wsX11_would 6 153 D a t [.ref q_t, .int x1, .int x2, .int x3, .int x4] [(q_t, .inr (11, [.ref q_w, .ref q_isKept, .int t_all, .int t_corners, .int t_hearers, .int t_newAll, .int t_newCorners, .int t_newHearers, .ref q_beer, .ref q_cold, .ref q_stands, .ref q_pinched, .ref q_says, .ref q_text, .int t_textSize, .int t_at, .int t_first, .int t_faultOf, .int t_fault, .int t_spoke, .int t_holds, .int t_undoMany, .ref q_seenDecree, .ref q_seenAt, .ref q_seenSpoke, .int t_seen, .ref q_inSets, .ref q_book, .int t_written])), (q_pinched, .inl (a 0, 18, .inl pinched)), (q_says, .inl (a 0, 18, .inl says)), (q_w, .inl (a 0, 578, .inl w))] [(q_t, .inr (11, [.ref q_w, .ref q_isKept, .int t_all, .int t_corners, .int t_hearers, .int t_newAll, .int t_newCorners, .int t_newHearers, .ref q_beer, .ref q_cold, .ref q_stands, .ref q_pinched, .ref q_says, .ref q_text, .int t_textSize, .int t_at, .int t_first, .int t_faultOf, .int t_fault, .int o_t_spoke, .int o_t_holds, .int t_undoMany, .ref q_seenDecree, .ref q_seenAt, .ref q_seenSpoke, .int t_seen, .ref q_inSets, .ref q_book, .int t_written])), (q_pinched, .inl (a 0, 18, .inl pinched)), (q_says, .inl (a 0, 18, .inl says)), (q_w, .inl (a 0, 578, .inl o_w))] r := by
  refine Ki.mk (cc := cX11_would) (nL := 6) (ty := .int) (own := RX11) (by decide) rfl rfl (Nat.le_of_ble_eq_true rfl) ?_
  intro p e s m args below meth c A Q ls hX hP hD hS hl hret
  have hx := hX.1.1
  have hb := hX.1.2.1
  have hown := hX.1.2.2.2.1
  have hts := hX.1.2.2.2.2
  have hN := hX.2.2.1
  have hA := hX.2.2.2.2
  have hl : lv_has ls 6 [(0, .ref q_t), (1, .int x1), (2, .int x2), (3, .int x3), (4, .int x4)] := hl
  have hk1 := hts (.constant RX11 149 (-1000000001)) (List.mem_of_getElem? (i := 1) rfl)
  have hk2 := hts (.constantLong RX11 222 (2)) (List.mem_of_getElem? (i := 2) rfl)
  have hk3 := hts (.constant RX11 64 (-1000000002)) (List.mem_of_getElem? (i := 3) rfl)
  have hk4 := hts (.fieldLink RX11 170 "GainsaidOnceModel" "holds" "I") (List.mem_of_getElem? (i := 4) rfl)
  have hk5 := hts (.fieldLink RX11 167 "GainsaidOnceModel" "spoke" "I") (List.mem_of_getElem? (i := 5) rfl)
  have hiX11 : ∀ w ∈ wsX110, w ∈ wsX11_would := (fun _ h => List.mem_cons_of_mem _ (List.mem_append_right _ h))
  unfold f_X11_would at hf
  refine lv_aload_n hx hb dX11_would_0 rfl (lv_at hl 0 rfl) ?_
  refine lv_iload_n hx hb dX11_would_1 rfl (lv_at hl 1 rfl) ?_
  obtain ⟨o1, ho1, hf⟩ := o_bd hf
  refine call_iV (q0 := 0) (ci := 11) hX (c_X11_isDecree l D a t q_t q_w q_isKept t_all t_corners t_hearers t_newAll t_newCorners t_newHearers q_beer q_cold q_stands q_pinched q_says q_text t_textSize t_at t_first t_faultOf t_fault t_spoke t_holds t_undoMany q_seenDecree q_seenAt q_seenSpoke t_seen q_inSets q_book t_written x1 o1 ho1) (cwV 1 hts gX11_would_X11_isDecree rfl rfl rfl hdV_X11_isDecree ⟨by decide, by decide⟩) (Cut.of hA hP hD hS [0] (by decide) rfl rfl (W' := [(q_t, .inr (11, [.ref q_w, .ref q_isKept, .int t_all, .int t_corners, .int t_hearers, .int t_newAll, .int t_newCorners, .int t_newHearers, .ref q_beer, .ref q_cold, .ref q_stands, .ref q_pinched, .ref q_says, .ref q_text, .int t_textSize, .int t_at, .int t_first, .int t_faultOf, .int t_fault, .int t_spoke, .int t_holds, .int t_undoMany, .ref q_seenDecree, .ref q_seenAt, .ref q_seenSpoke, .int t_seen, .ref q_inSets, .ref q_book, .int t_written])), (q_pinched, .inl (a 0, 18, .inl pinched)), (q_says, .inl (a 0, 18, .inl says)), (q_w, .inl (a 0, 578, .inl w))]) rfl) hS rfl rfl rfl hl.1 rfl (Nat.le_of_ble_eq_true rfl) dX11_would_2 (by decide) (fun H locs hP hD hS => ?_)
  replace hP : va_P D vwCl [(q_t, .inr (11, [.ref q_w, .ref q_isKept, .int t_all, .int t_corners, .int t_hearers, .int t_newAll, .int t_newCorners, .int t_newHearers, .ref q_beer, .ref q_cold, .ref q_stands, .ref q_pinched, .ref q_says, .ref q_text, .int t_textSize, .int t_at, .int t_first, .int t_faultOf, .int t_fault, .int t_spoke, .int t_holds, .int t_undoMany, .ref q_seenDecree, .ref q_seenAt, .ref q_seenSpoke, .int t_seen, .ref q_inSets, .ref q_book, .int t_written])), (q_pinched, .inl (a 0, 18, .inl pinched)), (q_says, .inl (a 0, 18, .inl says)), (q_w, .inl (a 0, 578, .inl w))] H := hP
  replace hD : va_D A [(q_t, .inr (11, [.ref q_w, .ref q_isKept, .int t_all, .int t_corners, .int t_hearers, .int t_newAll, .int t_newCorners, .int t_newHearers, .ref q_beer, .ref q_cold, .ref q_stands, .ref q_pinched, .ref q_says, .ref q_text, .int t_textSize, .int t_at, .int t_first, .int t_faultOf, .int t_fault, .int t_spoke, .int t_holds, .int t_undoMany, .ref q_seenDecree, .ref q_seenAt, .ref q_seenSpoke, .int t_seen, .ref q_inSets, .ref q_book, .int t_written])), (q_pinched, .inl (a 0, 18, .inl pinched)), (q_says, .inl (a 0, 18, .inl says)), (q_w, .inl (a 0, 578, .inl w))] := hD
  refine lv_if_eq (tgt := 16) hx hb dX11_would_5 (by decide) (fun c2 => ?_) (fun c2 => ?_)
  · replace hf := o_ifp hf c2
    refine lv_ldc (v := (-1000000001 : Int32)) hx hb hown hk1 dX11_would_16 ?_
    cases hf
    exact hret _ _ _ _ (vp_nar_int _) hP hD hS dX11_would_18
  replace hf := o_ifn hf c2
  refine lv_aload_n hx hb dX11_would_8 rfl (lv_at hl 0 rfl) ?_
  refine lv_iload_n hx hb dX11_would_9 rfl (lv_at hl 2 rfl) ?_
  obtain ⟨o3, ho3, hf⟩ := o_bd hf
  refine call_iV (q0 := 0) (ci := 11) hX (c_X11_isCorner l D a t q_t q_w q_isKept t_all t_corners t_hearers t_newAll t_newCorners t_newHearers q_beer q_cold q_stands q_pinched q_says q_text t_textSize t_at t_first t_faultOf t_fault t_spoke t_holds t_undoMany q_seenDecree q_seenAt q_seenSpoke t_seen q_inSets q_book t_written x2 o3 ho3) (cwV 1 hts gX11_would_X11_isCorner rfl rfl rfl hdV_X11_isCorner ⟨by decide, by decide⟩) (Cut.of hA hP hD hS [0] (by decide) rfl rfl (W' := [(q_t, .inr (11, [.ref q_w, .ref q_isKept, .int t_all, .int t_corners, .int t_hearers, .int t_newAll, .int t_newCorners, .int t_newHearers, .ref q_beer, .ref q_cold, .ref q_stands, .ref q_pinched, .ref q_says, .ref q_text, .int t_textSize, .int t_at, .int t_first, .int t_faultOf, .int t_fault, .int t_spoke, .int t_holds, .int t_undoMany, .ref q_seenDecree, .ref q_seenAt, .ref q_seenSpoke, .int t_seen, .ref q_inSets, .ref q_book, .int t_written])), (q_pinched, .inl (a 0, 18, .inl pinched)), (q_says, .inl (a 0, 18, .inl says)), (q_w, .inl (a 0, 578, .inl w))]) rfl) hS rfl rfl rfl hl.1 rfl (Nat.le_of_ble_eq_true rfl) dX11_would_10 (by decide) (fun H locs hP hD hS => ?_)
  replace hP : va_P D vwCl [(q_t, .inr (11, [.ref q_w, .ref q_isKept, .int t_all, .int t_corners, .int t_hearers, .int t_newAll, .int t_newCorners, .int t_newHearers, .ref q_beer, .ref q_cold, .ref q_stands, .ref q_pinched, .ref q_says, .ref q_text, .int t_textSize, .int t_at, .int t_first, .int t_faultOf, .int t_fault, .int t_spoke, .int t_holds, .int t_undoMany, .ref q_seenDecree, .ref q_seenAt, .ref q_seenSpoke, .int t_seen, .ref q_inSets, .ref q_book, .int t_written])), (q_pinched, .inl (a 0, 18, .inl pinched)), (q_says, .inl (a 0, 18, .inl says)), (q_w, .inl (a 0, 578, .inl w))] H := hP
  replace hD : va_D A [(q_t, .inr (11, [.ref q_w, .ref q_isKept, .int t_all, .int t_corners, .int t_hearers, .int t_newAll, .int t_newCorners, .int t_newHearers, .ref q_beer, .ref q_cold, .ref q_stands, .ref q_pinched, .ref q_says, .ref q_text, .int t_textSize, .int t_at, .int t_first, .int t_faultOf, .int t_fault, .int t_spoke, .int t_holds, .int t_undoMany, .ref q_seenDecree, .ref q_seenAt, .ref q_seenSpoke, .int t_seen, .ref q_inSets, .ref q_book, .int t_written])), (q_pinched, .inl (a 0, 18, .inl pinched)), (q_says, .inl (a 0, 18, .inl says)), (q_w, .inl (a 0, 578, .inl w))] := hD
  refine lv_if_ne (tgt := 19) hx hb dX11_would_13 (by decide) (fun c4 => ?_) (fun c4 => ?_)
  · replace hf := o_ifn hf c4
    refine lv_iload_n hx hb dX11_would_19 rfl (lv_at hl 3 rfl) ?_
    obtain ⟨o5, ho5, hf⟩ := o_bd hf
    refine call_iS hX (c_X11_isWay l D a t x3 o5 ho5) (va_cwS 1 hts gX11_would_X11_isWay rfl rfl rfl hdS_X11_isWay ⟨by decide, by decide⟩) (Cut.none hA hP hD hS) hS rfl hl.1 rfl (Nat.le_of_ble_eq_true rfl) dX11_would_20 (by decide) (fun H locs hP hD hS => ?_)
    refine lv_if_eq (tgt := 39) hx hb dX11_would_23 (by decide) (fun c6 => ?_) (fun c6 => ?_)
    · replace hf := o_ifp hf c6
      refine lv_ldc (v := (-1000000002 : Int32)) hx hb hown hk3 dX11_would_39 ?_
      cases hf
      exact hret _ _ _ _ (vp_nar_int _) hP hD hS dX11_would_41
    replace hf := o_ifn hf c6
    refine lv_iload hx hb dX11_would_26 (lv_at hl 4 rfl) ?_
    refine lv_i2l (v := Int32.toInt64 x4) hx hb dX11_would_28 rfl ?_
    refine lv_lconst (v := (0 : Int64)) hx hb dX11_would_29 (by decide) ?_
    refine lv_ldc2 (v := (2 : Int64)) hx hb hown hk2 dX11_would_30 ?_
    obtain ⟨o7, ho7, hf⟩ := o_bd hf
    refine call_iS hX (c_X11_in l D a t (Int32.toInt64 x4) (0 : Int64) (2 : Int64) o7 ho7) (va_cwS 3 hts gX11_would_X11_in rfl rfl rfl hdS_X11_in ⟨by decide, by decide⟩) (Cut.none hA hP hD hS) hS rfl hl.1 rfl (Nat.le_of_ble_eq_true rfl) dX11_would_33 (by decide) (fun H locs hP hD hS => ?_)
    refine lv_if_ne (tgt := 42) hx hb dX11_would_36 (by decide) (fun c8 => ?_) (fun c8 => ?_)
    · replace hf := o_ifn hf c8
      refine lv_aload_n hx hb dX11_would_42 rfl (lv_at hl 0 rfl) ?_
      refine lv_iload_n hx hb dX11_would_43 rfl (lv_at hl 1 rfl) ?_
      refine lv_iload_n hx hb dX11_would_44 rfl (lv_at hl 2 rfl) ?_
      refine lv_iload_n hx hb dX11_would_45 rfl (lv_at hl 3 rfl) ?_
      refine lv_iconst (v := (0 : Int32)) hx hb dX11_would_46 (by decide) ?_
      refine lv_iconst (v := (0 : Int32)) hx hb dX11_would_47 (by decide) ?_
      obtain ⟨o9, ho9, hf⟩ := o_bd hf
      refine call_iV (q0 := 0) (ci := 11) hX (c_X11_tryRound l D a t q_t q_w q_isKept t_all t_corners t_hearers t_newAll t_newCorners t_newHearers q_beer q_cold q_stands q_pinched q_says q_text t_textSize t_at t_first t_faultOf t_fault t_spoke t_holds t_undoMany q_seenDecree q_seenAt q_seenSpoke t_seen q_inSets q_book t_written pinched says w x1 x2 x3 (0 : Int32) (0 : Int32) o9.1 o9.2.1 o9.2.2.1 o9.2.2.2 ho9) (cwV 5 hts gX11_would_X11_tryRound rfl rfl rfl hdV_X11_tryRound ⟨by decide, by decide⟩) (Cut.of hA hP hD hS [0, 1, 2, 3] (by decide) rfl rfl (W' := [(q_t, .inr (11, [.ref q_w, .ref q_isKept, .int t_all, .int t_corners, .int t_hearers, .int t_newAll, .int t_newCorners, .int t_newHearers, .ref q_beer, .ref q_cold, .ref q_stands, .ref q_pinched, .ref q_says, .ref q_text, .int t_textSize, .int t_at, .int t_first, .int t_faultOf, .int t_fault, .int o9.2.1, .int o9.2.2.1, .int t_undoMany, .ref q_seenDecree, .ref q_seenAt, .ref q_seenSpoke, .int t_seen, .ref q_inSets, .ref q_book, .int t_written])), (q_pinched, .inl (a 0, 18, .inl pinched)), (q_says, .inl (a 0, 18, .inl says)), (q_w, .inl (a 0, 578, .inl o9.2.2.2))]) rfl) hS rfl rfl rfl hl.1 rfl (Nat.le_of_ble_eq_true rfl) dX11_would_48 (by decide) (fun H locs hP hD hS => ?_)
      replace hP : va_P D vwCl [(q_t, .inr (11, [.ref q_w, .ref q_isKept, .int t_all, .int t_corners, .int t_hearers, .int t_newAll, .int t_newCorners, .int t_newHearers, .ref q_beer, .ref q_cold, .ref q_stands, .ref q_pinched, .ref q_says, .ref q_text, .int t_textSize, .int t_at, .int t_first, .int t_faultOf, .int t_fault, .int o9.2.1, .int o9.2.2.1, .int t_undoMany, .ref q_seenDecree, .ref q_seenAt, .ref q_seenSpoke, .int t_seen, .ref q_inSets, .ref q_book, .int t_written])), (q_pinched, .inl (a 0, 18, .inl pinched)), (q_says, .inl (a 0, 18, .inl says)), (q_w, .inl (a 0, 578, .inl o9.2.2.2))] H := hP
      replace hD : va_D A [(q_t, .inr (11, [.ref q_w, .ref q_isKept, .int t_all, .int t_corners, .int t_hearers, .int t_newAll, .int t_newCorners, .int t_newHearers, .ref q_beer, .ref q_cold, .ref q_stands, .ref q_pinched, .ref q_says, .ref q_text, .int t_textSize, .int t_at, .int t_first, .int t_faultOf, .int t_fault, .int o9.2.1, .int o9.2.2.1, .int t_undoMany, .ref q_seenDecree, .ref q_seenAt, .ref q_seenSpoke, .int t_seen, .ref q_inSets, .ref q_book, .int t_written])), (q_pinched, .inl (a 0, 18, .inl pinched)), (q_says, .inl (a 0, 18, .inl says)), (q_w, .inl (a 0, 578, .inl o9.2.2.2))] := hD
      refine lv_istore (lv' := [(5, .int o9.1), (0, .ref q_t), (1, .int x1), (2, .int x2), (3, .int x3), (4, .int x4)]) hx hb dX11_would_51 hl (by decide) rfl (fun ls hl => ?_)
      refine lv_iload hx hb dX11_would_53 (lv_at hl 5 rfl) ?_
      refine lv_if_ne (tgt := 63) hx hb dX11_would_55 (by decide) (fun c10 => ?_) (fun c10 => ?_)
      · replace hf := o_ifn hf c10
        refine lv_iload hx hb dX11_would_63 (lv_at hl 5 rfl) ?_
        refine lv_iconst (v := (1 : Int32)) hx hb dX11_would_65 (by decide) ?_
        refine lv_icmp_ne (tgt := 76) hx hb dX11_would_66 (by decide) (fun c11 => ?_) (fun c11 => ?_)
        · replace hf := o_ifn hf c11
          refine lv_aload_n hx hb dX11_would_76 rfl (lv_at hl 1 rfl) ?_
          refine g_get hX hiX11 hP 0 rfl rfl 19 (by decide) hk5 rfl rfl dX11_would_77 ?_
          cases hf
          exact hret _ _ _ _ (vp_nar_int _) hP hD hS dX11_would_80
        replace hf := o_ifp hf c11
        refine lv_aload_n hx hb dX11_would_69 rfl (lv_at hl 1 rfl) ?_
        refine g_get hX hiX11 hP 0 rfl rfl 20 (by decide) hk4 rfl rfl dX11_would_70 ?_
        refine lv_goto (tgt := 80) hx hb dX11_would_73 (by decide) ?_
        cases hf
        exact hret _ _ _ _ (vp_nar_int _) hP hD hS dX11_would_80
      replace hf := o_ifp hf c10
      refine lv_iload hx hb dX11_would_58 (lv_at hl 0 rfl) ?_
      refine lv_goto (tgt := 80) hx hb dX11_would_60 (by decide) ?_
      cases hf
      exact hret _ _ _ _ (vp_nar_int _) hP hD hS dX11_would_80
    replace hf := o_ifp hf c8
    refine lv_ldc (v := (-1000000002 : Int32)) hx hb hown hk3 dX11_would_39 ?_
    cases hf
    exact hret _ _ _ _ (vp_nar_int _) hP hD hS dX11_would_41
  replace hf := o_ifp hf c4
  refine lv_ldc (v := (-1000000001 : Int32)) hx hb hown hk1 dX11_would_16 ?_
  cases hf
  exact hret _ _ _ _ (vp_nar_int _) hP hD hS dX11_would_18
def f_X11_isLawAllRound (t_all : Int32) (t_corners : Int32) (t_hearers : Int32) (t_spoke : Int32) (t_holds : Int32) (pinched : Nat → Int32) (says : Nat → Int32) (w : Nat → Int32) (x1 : Int32) (x2 : Int32) (x3 : Int32) (x4 : Int32) (x5 : Int32) : Option (Int32 × Int32 × Int32 × (Nat → Int32)) :=
  (f_X11_tryRound t_all t_corners t_hearers t_spoke t_holds pinched says w x1 x3 x4 (0 : Int32) x5).bind fun o1 =>
  if o1.2.2.1 = (((1 : Int32) <<< (t_corners &&& 31)) - (1 : Int32)) then (if (x2 &&& (o1.1 ^^^ (-1 : Int32))) = 0 then (some ((1 : Int32), o1.2.1, o1.2.2.1, o1.2.2.2))
  else (some ((0 : Int32), o1.2.1, o1.2.2.1, o1.2.2.2)))
  else (some ((0 : Int32), o1.2.1, o1.2.2.1, o1.2.2.2))
theorem hdS_X11_isLawAllRound : yX11_isLawAllRound.cls ≠ "java/lang/invoke/MethodHandle" ∧ yX11_isLawAllRound.cls ≠ "java/lang/invoke/VarHandle" ∧ (parseMethodDescriptor yX11_isLawAllRound.desc).map (fun d => d.parameters.length) = some 5 := by decide +kernel
theorem hdV_X11_isLawAllRound : yX11_isLawAllRound.cls = RX11 ∧ yX11_isLawAllRound.cls ≠ "java/lang/invoke/MethodHandle" ∧ yX11_isLawAllRound.cls ≠ "java/lang/invoke/VarHandle" ∧ (parseMethodDescriptor yX11_isLawAllRound.desc).map (fun d => d.parameters.length) = some 5 := ⟨rfl, hdS_X11_isLawAllRound⟩
set_option maxHeartbeats 4000000 in
set_option maxRecDepth 100000 in
theorem c_X11_isLawAllRound (l : Launch) (D : va_G) (a : Nat → ClassId) (t : Nat) (q_t : Nat) (q_w : Nat) (q_isKept : Nat) (t_all : Int32) (t_corners : Int32) (t_hearers : Int32) (t_newAll : Int32) (t_newCorners : Int32) (t_newHearers : Int32) (q_beer : Nat) (q_cold : Nat) (q_stands : Nat) (q_pinched : Nat) (q_says : Nat) (q_text : Nat) (t_textSize : Int32) (t_at : Int32) (t_first : Int32) (t_faultOf : Int32) (t_fault : Int32) (t_spoke : Int32) (t_holds : Int32) (t_undoMany : Int32) (q_seenDecree : Nat) (q_seenAt : Nat) (q_seenSpoke : Nat) (t_seen : Int32) (q_inSets : Nat) (q_book : Nat) (t_written : Int32) (pinched : Nat → Int32) (says : Nat → Int32) (w : Nat → Int32) (x1 : Int32) (x2 : Int32) (x3 : Int32) (x4 : Int32) (x5 : Int32) (r : Int32) (o_t_spoke : Int32) (o_t_holds : Int32) (o_w : Nat → Int32) (hf : f_X11_isLawAllRound t_all t_corners t_hearers t_spoke t_holds pinched says w x1 x2 x3 x4 x5 = some (r, o_t_spoke, o_t_holds, o_w)) : Ki l yX11_isLawAllRound wsX11_isLawAllRound 6 153 D a t [.ref q_t, .int x1, .int x2, .int x3, .int x4, .int x5] [(q_t, .inr (11, [.ref q_w, .ref q_isKept, .int t_all, .int t_corners, .int t_hearers, .int t_newAll, .int t_newCorners, .int t_newHearers, .ref q_beer, .ref q_cold, .ref q_stands, .ref q_pinched, .ref q_says, .ref q_text, .int t_textSize, .int t_at, .int t_first, .int t_faultOf, .int t_fault, .int t_spoke, .int t_holds, .int t_undoMany, .ref q_seenDecree, .ref q_seenAt, .ref q_seenSpoke, .int t_seen, .ref q_inSets, .ref q_book, .int t_written])), (q_pinched, .inl (a 0, 18, .inl pinched)), (q_says, .inl (a 0, 18, .inl says)), (q_w, .inl (a 0, 578, .inl w))] [(q_t, .inr (11, [.ref q_w, .ref q_isKept, .int t_all, .int t_corners, .int t_hearers, .int t_newAll, .int t_newCorners, .int t_newHearers, .ref q_beer, .ref q_cold, .ref q_stands, .ref q_pinched, .ref q_says, .ref q_text, .int t_textSize, .int t_at, .int t_first, .int t_faultOf, .int t_fault, .int o_t_spoke, .int o_t_holds, .int t_undoMany, .ref q_seenDecree, .ref q_seenAt, .ref q_seenSpoke, .int t_seen, .ref q_inSets, .ref q_book, .int t_written])), (q_pinched, .inl (a 0, 18, .inl pinched)), (q_says, .inl (a 0, 18, .inl says)), (q_w, .inl (a 0, 578, .inl o_w))] r := by
  refine Ki.mk (cc := cX11_isLawAllRound) (nL := 7) (ty := .boolean) (own := RX11) (by decide) rfl rfl (Nat.le_of_ble_eq_true rfl) ?_
  intro p e s m args below meth c A Q ls hX hP hD hS hl hret
  have hx := hX.1.1
  have hb := hX.1.2.1
  have hown := hX.1.2.2.2.1
  have hts := hX.1.2.2.2.2
  have hN := hX.2.2.1
  have hA := hX.2.2.2.2
  have hl : lv_has ls 7 [(0, .ref q_t), (1, .int x1), (2, .int x2), (3, .int x3), (4, .int x4), (5, .int x5)] := hl
  have hk1 := hts (.fieldLink RX11 170 "GainsaidOnceModel" "holds" "I") (List.mem_of_getElem? (i := 1) rfl)
  have hk2 := hts (.fieldLink RX11 123 "GainsaidOnceModel" "corners" "I") (List.mem_of_getElem? (i := 2) rfl)
  have hiX11 : ∀ w ∈ wsX110, w ∈ wsX11_isLawAllRound := (fun _ h => List.mem_cons_of_mem _ (List.mem_append_right _ h))
  unfold f_X11_isLawAllRound at hf
  refine lv_aload_n hx hb dX11_isLawAllRound_0 rfl (lv_at hl 0 rfl) ?_
  refine lv_iload_n hx hb dX11_isLawAllRound_1 rfl (lv_at hl 1 rfl) ?_
  refine lv_iload_n hx hb dX11_isLawAllRound_2 rfl (lv_at hl 3 rfl) ?_
  refine lv_iload hx hb dX11_isLawAllRound_3 (lv_at hl 4 rfl) ?_
  refine lv_iconst (v := (0 : Int32)) hx hb dX11_isLawAllRound_5 (by decide) ?_
  refine lv_iload hx hb dX11_isLawAllRound_6 (lv_at hl 5 rfl) ?_
  obtain ⟨o1, ho1, hf⟩ := o_bd hf
  refine call_iV (q0 := 0) (ci := 11) hX (c_X11_tryRound l D a t q_t q_w q_isKept t_all t_corners t_hearers t_newAll t_newCorners t_newHearers q_beer q_cold q_stands q_pinched q_says q_text t_textSize t_at t_first t_faultOf t_fault t_spoke t_holds t_undoMany q_seenDecree q_seenAt q_seenSpoke t_seen q_inSets q_book t_written pinched says w x1 x3 x4 (0 : Int32) x5 o1.1 o1.2.1 o1.2.2.1 o1.2.2.2 ho1) (cwV 5 hts gX11_isLawAllRound_X11_tryRound rfl rfl rfl hdV_X11_tryRound ⟨by decide, by decide⟩) (Cut.of hA hP hD hS [0, 1, 2, 3] (by decide) rfl rfl (W' := [(q_t, .inr (11, [.ref q_w, .ref q_isKept, .int t_all, .int t_corners, .int t_hearers, .int t_newAll, .int t_newCorners, .int t_newHearers, .ref q_beer, .ref q_cold, .ref q_stands, .ref q_pinched, .ref q_says, .ref q_text, .int t_textSize, .int t_at, .int t_first, .int t_faultOf, .int t_fault, .int o1.2.1, .int o1.2.2.1, .int t_undoMany, .ref q_seenDecree, .ref q_seenAt, .ref q_seenSpoke, .int t_seen, .ref q_inSets, .ref q_book, .int t_written])), (q_pinched, .inl (a 0, 18, .inl pinched)), (q_says, .inl (a 0, 18, .inl says)), (q_w, .inl (a 0, 578, .inl o1.2.2.2))]) rfl) hS rfl rfl rfl hl.1 rfl (Nat.le_of_ble_eq_true rfl) dX11_isLawAllRound_8 (by decide) (fun H locs hP hD hS => ?_)
  replace hP : va_P D vwCl [(q_t, .inr (11, [.ref q_w, .ref q_isKept, .int t_all, .int t_corners, .int t_hearers, .int t_newAll, .int t_newCorners, .int t_newHearers, .ref q_beer, .ref q_cold, .ref q_stands, .ref q_pinched, .ref q_says, .ref q_text, .int t_textSize, .int t_at, .int t_first, .int t_faultOf, .int t_fault, .int o1.2.1, .int o1.2.2.1, .int t_undoMany, .ref q_seenDecree, .ref q_seenAt, .ref q_seenSpoke, .int t_seen, .ref q_inSets, .ref q_book, .int t_written])), (q_pinched, .inl (a 0, 18, .inl pinched)), (q_says, .inl (a 0, 18, .inl says)), (q_w, .inl (a 0, 578, .inl o1.2.2.2))] H := hP
  replace hD : va_D A [(q_t, .inr (11, [.ref q_w, .ref q_isKept, .int t_all, .int t_corners, .int t_hearers, .int t_newAll, .int t_newCorners, .int t_newHearers, .ref q_beer, .ref q_cold, .ref q_stands, .ref q_pinched, .ref q_says, .ref q_text, .int t_textSize, .int t_at, .int t_first, .int t_faultOf, .int t_fault, .int o1.2.1, .int o1.2.2.1, .int t_undoMany, .ref q_seenDecree, .ref q_seenAt, .ref q_seenSpoke, .int t_seen, .ref q_inSets, .ref q_book, .int t_written])), (q_pinched, .inl (a 0, 18, .inl pinched)), (q_says, .inl (a 0, 18, .inl says)), (q_w, .inl (a 0, 578, .inl o1.2.2.2))] := hD
  refine lv_istore (lv' := [(6, .int o1.1), (0, .ref q_t), (1, .int x1), (2, .int x2), (3, .int x3), (4, .int x4), (5, .int x5)]) hx hb dX11_isLawAllRound_11 hl (by decide) rfl (fun ls hl => ?_)
  refine lv_aload_n hx hb dX11_isLawAllRound_13 rfl (lv_at hl 1 rfl) ?_
  refine g_get hX hiX11 hP 0 rfl rfl 20 (by decide) hk1 rfl rfl dX11_isLawAllRound_14 ?_
  refine lv_iconst (v := (1 : Int32)) hx hb dX11_isLawAllRound_17 (by decide) ?_
  refine lv_aload_n hx hb dX11_isLawAllRound_18 rfl (lv_at hl 1 rfl) ?_
  refine g_get hX hiX11 hP 0 rfl rfl 3 (by decide) hk2 rfl rfl dX11_isLawAllRound_19 ?_
  refine lv_ishl hx hb dX11_isLawAllRound_22 ?_
  refine lv_iconst (v := (1 : Int32)) hx hb dX11_isLawAllRound_23 (by decide) ?_
  refine lv_isub hx hb dX11_isLawAllRound_24 ?_
  refine lv_icmp_ne (tgt := 41) hx hb dX11_isLawAllRound_25 (by decide) (fun c2 => ?_) (fun c2 => ?_)
  · replace hf := o_ifn hf c2
    refine lv_iconst (v := (0 : Int32)) hx hb dX11_isLawAllRound_41 (by decide) ?_
    cases hf
    exact hret _ _ _ _ narrow_b0 hP hD hS dX11_isLawAllRound_42
  replace hf := o_ifp hf c2
  refine lv_iload_n hx hb dX11_isLawAllRound_28 rfl (lv_at hl 3 rfl) ?_
  refine lv_iload hx hb dX11_isLawAllRound_29 (lv_at hl 0 rfl) ?_
  refine lv_iconst (v := (-1 : Int32)) hx hb dX11_isLawAllRound_31 (by decide) ?_
  refine lv_ixor hx hb dX11_isLawAllRound_32 ?_
  refine lv_iand hx hb dX11_isLawAllRound_33 ?_
  refine lv_if_ne (tgt := 41) hx hb dX11_isLawAllRound_34 (by decide) (fun c3 => ?_) (fun c3 => ?_)
  · replace hf := o_ifn hf c3
    refine lv_iconst (v := (0 : Int32)) hx hb dX11_isLawAllRound_41 (by decide) ?_
    cases hf
    exact hret _ _ _ _ narrow_b0 hP hD hS dX11_isLawAllRound_42
  replace hf := o_ifp hf c3
  refine lv_iconst (v := (1 : Int32)) hx hb dX11_isLawAllRound_37 (by decide) ?_
  refine lv_goto (tgt := 42) hx hb dX11_isLawAllRound_38 (by decide) ?_
  cases hf
  exact hret _ _ _ _ narrow_b1 hP hD hS dX11_isLawAllRound_42
def f_X11_mayKeep (w : Nat → Int32) (x1 : Int32) (x2 : Int32) : Option (Int32) :=
  (f_X11_ones x1).bind fun o1 =>
  if o1 = x2 then ((o_ld w 578 (10 : Int32)).bind fun v3 =>
  if (x1 &&& v3) = 0 then (some (1 : Int32))
  else (some (0 : Int32)))
  else (some (0 : Int32))
theorem hdS_X11_mayKeep : yX11_mayKeep.cls ≠ "java/lang/invoke/MethodHandle" ∧ yX11_mayKeep.cls ≠ "java/lang/invoke/VarHandle" ∧ (parseMethodDescriptor yX11_mayKeep.desc).map (fun d => d.parameters.length) = some 2 := by decide +kernel
theorem hdV_X11_mayKeep : yX11_mayKeep.cls = RX11 ∧ yX11_mayKeep.cls ≠ "java/lang/invoke/MethodHandle" ∧ yX11_mayKeep.cls ≠ "java/lang/invoke/VarHandle" ∧ (parseMethodDescriptor yX11_mayKeep.desc).map (fun d => d.parameters.length) = some 2 := ⟨rfl, hdS_X11_mayKeep⟩
set_option maxHeartbeats 4000000 in
set_option maxRecDepth 100000 in
theorem c_X11_mayKeep (l : Launch) (D : va_G) (a : Nat → ClassId) (t : Nat) (q_t : Nat) (q_w : Nat) (q_isKept : Nat) (t_all : Int32) (t_corners : Int32) (t_hearers : Int32) (t_newAll : Int32) (t_newCorners : Int32) (t_newHearers : Int32) (q_beer : Nat) (q_cold : Nat) (q_stands : Nat) (q_pinched : Nat) (q_says : Nat) (q_text : Nat) (t_textSize : Int32) (t_at : Int32) (t_first : Int32) (t_faultOf : Int32) (t_fault : Int32) (t_spoke : Int32) (t_holds : Int32) (t_undoMany : Int32) (q_seenDecree : Nat) (q_seenAt : Nat) (q_seenSpoke : Nat) (t_seen : Int32) (q_inSets : Nat) (q_book : Nat) (t_written : Int32) (w : Nat → Int32) (x1 : Int32) (x2 : Int32) (r : Int32) (hf : f_X11_mayKeep w x1 x2 = some r) : Ki l yX11_mayKeep wsX11_mayKeep 1 22 D a t [.ref q_t, .int x1, .int x2] [(q_t, .inr (11, [.ref q_w, .ref q_isKept, .int t_all, .int t_corners, .int t_hearers, .int t_newAll, .int t_newCorners, .int t_newHearers, .ref q_beer, .ref q_cold, .ref q_stands, .ref q_pinched, .ref q_says, .ref q_text, .int t_textSize, .int t_at, .int t_first, .int t_faultOf, .int t_fault, .int t_spoke, .int t_holds, .int t_undoMany, .ref q_seenDecree, .ref q_seenAt, .ref q_seenSpoke, .int t_seen, .ref q_inSets, .ref q_book, .int t_written])), (q_w, .inl (a 0, 578, .inl w))] [(q_t, .inr (11, [.ref q_w, .ref q_isKept, .int t_all, .int t_corners, .int t_hearers, .int t_newAll, .int t_newCorners, .int t_newHearers, .ref q_beer, .ref q_cold, .ref q_stands, .ref q_pinched, .ref q_says, .ref q_text, .int t_textSize, .int t_at, .int t_first, .int t_faultOf, .int t_fault, .int t_spoke, .int t_holds, .int t_undoMany, .ref q_seenDecree, .ref q_seenAt, .ref q_seenSpoke, .int t_seen, .ref q_inSets, .ref q_book, .int t_written])), (q_w, .inl (a 0, 578, .inl w))] r := by
  refine Ki.mk (cc := cX11_mayKeep) (nL := 3) (ty := .boolean) (own := RX11) (by decide) rfl rfl (Nat.le_of_ble_eq_true rfl) ?_
  intro p e s m args below meth c A Q ls hX hP hD hS hl hret
  have hx := hX.1.1
  have hb := hX.1.2.1
  have hown := hX.1.2.2.2.1
  have hts := hX.1.2.2.2.2
  have hN := hX.2.2.1
  have hA := hX.2.2.2.2
  have hl : lv_has ls 3 [(0, .ref q_t), (1, .int x1), (2, .int x2)] := hl
  have hk1 := hts (.fieldLink RX11 7 "GainsaidOnceModel" "w" "[I") (List.mem_of_getElem? (i := 1) rfl)
  have hiX11 : ∀ w ∈ wsX110, w ∈ wsX11_mayKeep := (fun _ h => List.mem_cons_of_mem _ (List.mem_append_right _ h))
  unfold f_X11_mayKeep at hf
  refine lv_iload_n hx hb dX11_mayKeep_0 rfl (lv_at hl 1 rfl) ?_
  obtain ⟨o1, ho1, hf⟩ := o_bd hf
  refine call_iS hX (c_X11_ones l D a t x1 o1 ho1) (va_cwS 1 hts gX11_mayKeep_X11_ones rfl rfl rfl hdS_X11_ones ⟨by decide, by decide⟩) (Cut.none hA hP hD hS) hS rfl hl.1 rfl (Nat.le_of_ble_eq_true rfl) dX11_mayKeep_1 (by decide) (fun H locs hP hD hS => ?_)
  refine lv_iload_n hx hb dX11_mayKeep_4 rfl (lv_at hl 2 rfl) ?_
  refine lv_icmp_ne (tgt := 24) hx hb dX11_mayKeep_5 (by decide) (fun c2 => ?_) (fun c2 => ?_)
  · replace hf := o_ifn hf c2
    refine lv_iconst (v := (0 : Int32)) hx hb dX11_mayKeep_24 (by decide) ?_
    cases hf
    exact hret _ _ _ _ narrow_b0 hP hD hS dX11_mayKeep_25
  replace hf := o_ifp hf c2
  refine lv_iload_n hx hb dX11_mayKeep_8 rfl (lv_at hl 1 rfl) ?_
  refine lv_aload_n hx hb dX11_mayKeep_9 rfl (lv_at hl 0 rfl) ?_
  refine g_get hX hiX11 hP 0 rfl rfl 0 (by decide) hk1 rfl rfl dX11_mayKeep_10 ?_
  refine lv_bipush (v := (10 : Int32)) hx hb dX11_mayKeep_13 (by decide) ?_
  obtain ⟨hiv3, hf⟩ := o_ldh hf
  refine g_iald hX hP 1 rfl hiv3 dX11_mayKeep_15 (fun v3 ev3 => ?_)
  replace hf := hf v3 ev3
  refine lv_iand hx hb dX11_mayKeep_16 ?_
  refine lv_if_ne (tgt := 24) hx hb dX11_mayKeep_17 (by decide) (fun c4 => ?_) (fun c4 => ?_)
  · replace hf := o_ifn hf c4
    refine lv_iconst (v := (0 : Int32)) hx hb dX11_mayKeep_24 (by decide) ?_
    cases hf
    exact hret _ _ _ _ narrow_b0 hP hD hS dX11_mayKeep_25
  replace hf := o_ifp hf c4
  refine lv_iconst (v := (1 : Int32)) hx hb dX11_mayKeep_20 (by decide) ?_
  refine lv_goto (tgt := 25) hx hb dX11_mayKeep_21 (by decide) ?_
  cases hf
  exact hret _ _ _ _ narrow_b1 hP hD hS dX11_mayKeep_25
def f_X11_bestRound_58 (t_all : Int32) (t_corners : Int32) (t_hearers : Int32) (pinched : Nat → Int32) (says : Nat → Int32) (k_35 : Int32 → Int32 → (Nat → Int32) → Int32 → Int32 → Int32 → Int32 → Option (Int32 × Int32 × Int32 × (Nat → Int32))) (k_44 : Int32 → Int32 → (Nat → Int32) → Int32 → Int32 → Int32 → Int32 → Int32 → Option (Int32 × Int32 × Int32 × (Nat → Int32))) : Nat → Int32 → Int32 → (Nat → Int32) → Int32 → Int32 → Int32 → Int32 → Int32 → Int32 → Option (Int32 × Int32 × Int32 × (Nat → Int32))
  | 0, _, _, _, _, _, _, _, _, _ => none
  | n_58 + 1, t_spoke, t_holds, w, x1, x2, x3, x4, x5, x6 =>
    if ((2 : Int32) * t_corners) ≤ x6 then (o_nm (x5 + (1 : Int32)) fun v2 =>
    k_44 t_spoke t_holds w x1 x2 x3 x4 v2)
    else ((f_X11_mayKeep w x5 x4).bind fun o3 =>
    if o3 = 0 then (o_nm (x6 + (1 : Int32)) fun v5 =>
    f_X11_bestRound_58 t_all t_corners t_hearers pinched says k_35 k_44 n_58 t_spoke t_holds w x1 x2 x3 x4 x5 v5)
    else ((o_dv x6 (2 : Int32)).bind fun v6 =>
    (o_rm x6 (2 : Int32)).bind fun v7 =>
    (f_X11_isLawAllRound t_all t_corners t_hearers t_spoke t_holds pinched says w x1 x2 v6 v7 x5).bind fun o8 =>
    if o8.1 = 0 then (o_nm (x6 + (1 : Int32)) fun v10 =>
    f_X11_bestRound_58 t_all t_corners t_hearers pinched says k_35 k_44 n_58 o8.2.1 o8.2.2.1 o8.2.2.2 x1 x2 x3 x4 x5 v10)
    else (if x3 = 0 then (some (x6, o8.2.1, o8.2.2.1, o8.2.2.2))
    else (some (x5, o8.2.1, o8.2.2.1, o8.2.2.2)))))
def f_X11_bestRound_44 (t_all : Int32) (t_corners : Int32) (t_hearers : Int32) (pinched : Nat → Int32) (says : Nat → Int32) (k_35 : Int32 → Int32 → (Nat → Int32) → Int32 → Int32 → Int32 → Int32 → Option (Int32 × Int32 × Int32 × (Nat → Int32))) : Nat → Int32 → Int32 → (Nat → Int32) → Int32 → Int32 → Int32 → Int32 → Int32 → Option (Int32 × Int32 × Int32 × (Nat → Int32))
  | 0, _, _, _, _, _, _, _, _ => none
  | n_44 + 1, t_spoke, t_holds, w, x1, x2, x3, x4, x5 =>
    if ((1 : Int32) <<< (t_hearers &&& 31)) ≤ x5 then (o_nm (x4 + (1 : Int32)) fun v13 =>
    k_35 t_spoke t_holds w x1 x2 x3 v13)
    else (f_X11_bestRound_58 t_all t_corners t_hearers pinched says k_35 (f_X11_bestRound_44 t_all t_corners t_hearers pinched says k_35 n_44) 1000 t_spoke t_holds w x1 x2 x3 x4 x5 (0 : Int32))
def f_X11_bestRound_35 (t_all : Int32) (t_corners : Int32) (t_hearers : Int32) (pinched : Nat → Int32) (says : Nat → Int32) : Nat → Int32 → Int32 → (Nat → Int32) → Int32 → Int32 → Int32 → Int32 → Option (Int32 × Int32 × Int32 × (Nat → Int32))
  | 0, _, _, _, _, _, _, _ => none
  | n_35 + 1, t_spoke, t_holds, w, x1, x2, x3, x4 =>
    if (3 : Int32) ≤ x4 then (some ((-1 : Int32), t_spoke, t_holds, w))
    else (f_X11_bestRound_44 t_all t_corners t_hearers pinched says (f_X11_bestRound_35 t_all t_corners t_hearers pinched says n_35) 1000 t_spoke t_holds w x1 x2 x3 x4 (0 : Int32))
def f_X11_bestRound (t_all : Int32) (t_corners : Int32) (t_hearers : Int32) (t_spoke : Int32) (t_holds : Int32) (pinched : Nat → Int32) (says : Nat → Int32) (w : Nat → Int32) (x1 : Int32) (x2 : Int32) (x3 : Int32) : Option (Int32 × Int32 × Int32 × (Nat → Int32)) :=
  (f_X11_isDecree t_all x1).bind fun o15 =>
  if o15 = 0 then (some ((-1000000001 : Int32), t_spoke, t_holds, w))
  else ((f_X11_isDecree t_all x2).bind fun o17 =>
  if o17 = 0 then (some ((-1000000001 : Int32), t_spoke, t_holds, w))
  else ((f_X11_in (Int32.toInt64 x3) (0 : Int64) (1 : Int64)).bind fun o19 =>
  if o19 = 0 then (some ((-1000000002 : Int32), t_spoke, t_holds, w))
  else (f_X11_bestRound_35 t_all t_corners t_hearers pinched says 1000 t_spoke t_holds w x1 x2 x3 (0 : Int32))))
theorem hdS_X11_bestRound : yX11_bestRound.cls ≠ "java/lang/invoke/MethodHandle" ∧ yX11_bestRound.cls ≠ "java/lang/invoke/VarHandle" ∧ (parseMethodDescriptor yX11_bestRound.desc).map (fun d => d.parameters.length) = some 3 := by decide +kernel
theorem hdV_X11_bestRound : yX11_bestRound.cls = RX11 ∧ yX11_bestRound.cls ≠ "java/lang/invoke/MethodHandle" ∧ yX11_bestRound.cls ≠ "java/lang/invoke/VarHandle" ∧ (parseMethodDescriptor yX11_bestRound.desc).map (fun d => d.parameters.length) = some 3 := ⟨rfl, hdS_X11_bestRound⟩
set_option maxHeartbeats 4000000 in
set_option maxRecDepth 100000 in
theorem c_X11_bestRound (l : Launch) (D : va_G) (a : Nat → ClassId) (t : Nat) (q_t : Nat) (q_w : Nat) (q_isKept : Nat) (t_all : Int32) (t_corners : Int32) (t_hearers : Int32) (t_newAll : Int32) (t_newCorners : Int32) (t_newHearers : Int32) (q_beer : Nat) (q_cold : Nat) (q_stands : Nat) (q_pinched : Nat) (q_says : Nat) (q_text : Nat) (t_textSize : Int32) (t_at : Int32) (t_first : Int32) (t_faultOf : Int32) (t_fault : Int32) (t_spoke : Int32) (t_holds : Int32) (t_undoMany : Int32) (q_seenDecree : Nat) (q_seenAt : Nat) (q_seenSpoke : Nat) (t_seen : Int32) (q_inSets : Nat) (q_book : Nat) (t_written : Int32) (pinched : Nat → Int32) (says : Nat → Int32) (w : Nat → Int32) (x1 : Int32) (x2 : Int32) (x3 : Int32) (r : Int32) (o_t_spoke : Int32) (o_t_holds : Int32) (o_w : Nat → Int32) (hf : f_X11_bestRound t_all t_corners t_hearers t_spoke t_holds pinched says w x1 x2 x3 = some (r, o_t_spoke, o_t_holds, o_w)) : Ki l yX11_bestRound wsX11_bestRound 7 179 D a t [.ref q_t, .int x1, .int x2, .int x3] [(q_t, .inr (11, [.ref q_w, .ref q_isKept, .int t_all, .int t_corners, .int t_hearers, .int t_newAll, .int t_newCorners, .int t_newHearers, .ref q_beer, .ref q_cold, .ref q_stands, .ref q_pinched, .ref q_says, .ref q_text, .int t_textSize, .int t_at, .int t_first, .int t_faultOf, .int t_fault, .int t_spoke, .int t_holds, .int t_undoMany, .ref q_seenDecree, .ref q_seenAt, .ref q_seenSpoke, .int t_seen, .ref q_inSets, .ref q_book, .int t_written])), (q_pinched, .inl (a 0, 18, .inl pinched)), (q_says, .inl (a 0, 18, .inl says)), (q_w, .inl (a 0, 578, .inl w))] [(q_t, .inr (11, [.ref q_w, .ref q_isKept, .int t_all, .int t_corners, .int t_hearers, .int t_newAll, .int t_newCorners, .int t_newHearers, .ref q_beer, .ref q_cold, .ref q_stands, .ref q_pinched, .ref q_says, .ref q_text, .int t_textSize, .int t_at, .int t_first, .int t_faultOf, .int t_fault, .int o_t_spoke, .int o_t_holds, .int t_undoMany, .ref q_seenDecree, .ref q_seenAt, .ref q_seenSpoke, .int t_seen, .ref q_inSets, .ref q_book, .int t_written])), (q_pinched, .inl (a 0, 18, .inl pinched)), (q_says, .inl (a 0, 18, .inl says)), (q_w, .inl (a 0, 578, .inl o_w))] r := by
  refine Ki.mk (cc := cX11_bestRound) (nL := 7) (ty := .int) (own := RX11) (by decide) rfl rfl (Nat.le_of_ble_eq_true rfl) ?_
  intro p e s m args below meth c A Q ls hX hP hD hS hl hret
  have hx := hX.1.1
  have hb := hX.1.2.1
  have hown := hX.1.2.2.2.1
  have hts := hX.1.2.2.2.2
  have hN := hX.2.2.1
  have hA := hX.2.2.2.2
  have hl : lv_has ls 7 [(0, .ref q_t), (1, .int x1), (2, .int x2), (3, .int x3)] := hl
  have hk1 := hts (.constant RX11 149 (-1000000001)) (List.mem_of_getElem? (i := 1) rfl)
  have hk2 := hts (.constant RX11 64 (-1000000002)) (List.mem_of_getElem? (i := 2) rfl)
  have hk3 := hts (.fieldLink RX11 129 "GainsaidOnceModel" "hearers" "I") (List.mem_of_getElem? (i := 3) rfl)
  have hk4 := hts (.fieldLink RX11 123 "GainsaidOnceModel" "corners" "I") (List.mem_of_getElem? (i := 4) rfl)
  have hiX11 : ∀ w ∈ wsX110, w ∈ wsX11_bestRound := (fun _ h => List.mem_cons_of_mem _ (List.mem_append_right _ h))
  have L_35 : ∀ (n_35 : Nat) (t_spoke : Int32) (t_holds : Int32) (w : (Nat → Int32)) (x1 : Int32) (x2 : Int32) (x3 : Int32) (x4 : Int32) (H : Heap) (locs : List Loc) (ls : Array Slot), f_X11_bestRound_35 t_all t_corners t_hearers pinched says n_35 t_spoke t_holds w x1 x2 x3 x4 = some (r, o_t_spoke, o_t_holds, o_w) → va_P D vwCl [(q_t, .inr (11, [.ref q_w, .ref q_isKept, .int t_all, .int t_corners, .int t_hearers, .int t_newAll, .int t_newCorners, .int t_newHearers, .ref q_beer, .ref q_cold, .ref q_stands, .ref q_pinched, .ref q_says, .ref q_text, .int t_textSize, .int t_at, .int t_first, .int t_faultOf, .int t_fault, .int t_spoke, .int t_holds, .int t_undoMany, .ref q_seenDecree, .ref q_seenAt, .ref q_seenSpoke, .int t_seen, .ref q_inSets, .ref q_book, .int t_written])), (q_pinched, .inl (a 0, 18, .inl pinched)), (q_says, .inl (a 0, 18, .inl says)), (q_w, .inl (a 0, 578, .inl w))] H → va_D A [(q_t, .inr (11, [.ref q_w, .ref q_isKept, .int t_all, .int t_corners, .int t_hearers, .int t_newAll, .int t_newCorners, .int t_newHearers, .ref q_beer, .ref q_cold, .ref q_stands, .ref q_pinched, .ref q_says, .ref q_text, .int t_textSize, .int t_at, .int t_first, .int t_faultOf, .int t_fault, .int t_spoke, .int t_holds, .int t_undoMany, .ref q_seenDecree, .ref q_seenAt, .ref q_seenSpoke, .int t_seen, .ref q_inSets, .ref q_book, .int t_written])), (q_pinched, .inl (a 0, 18, .inl pinched)), (q_says, .inl (a 0, 18, .inl says)), (q_w, .inl (a 0, 578, .inl w))] → va_S A s.heap H locs → lv_has ls 7 [(0, .ref q_t), (1, .int x1), (2, .int x2), (3, .int x3), (4, .int x4)] → W p l e { frames := 7, cells := 0, slots := 0, locals := 179 } s m args below meth c H locs 0 0 Q (F0 m 35 ls []) := by
    intro n_35
    induction n_35 with
    | zero => intro t_spoke t_holds w x1 x2 x3 x4 H locs ls hf hP hD hS hl; rw [f_X11_bestRound_35] at hf; cases hf
    | succ n_35 ih_35 =>
      have L_44 : ∀ (n_44 : Nat) (t_spoke : Int32) (t_holds : Int32) (w : (Nat → Int32)) (x1 : Int32) (x2 : Int32) (x3 : Int32) (x4 : Int32) (x5 : Int32) (H : Heap) (locs : List Loc) (ls : Array Slot), f_X11_bestRound_44 t_all t_corners t_hearers pinched says (f_X11_bestRound_35 t_all t_corners t_hearers pinched says n_35) n_44 t_spoke t_holds w x1 x2 x3 x4 x5 = some (r, o_t_spoke, o_t_holds, o_w) → va_P D vwCl [(q_t, .inr (11, [.ref q_w, .ref q_isKept, .int t_all, .int t_corners, .int t_hearers, .int t_newAll, .int t_newCorners, .int t_newHearers, .ref q_beer, .ref q_cold, .ref q_stands, .ref q_pinched, .ref q_says, .ref q_text, .int t_textSize, .int t_at, .int t_first, .int t_faultOf, .int t_fault, .int t_spoke, .int t_holds, .int t_undoMany, .ref q_seenDecree, .ref q_seenAt, .ref q_seenSpoke, .int t_seen, .ref q_inSets, .ref q_book, .int t_written])), (q_pinched, .inl (a 0, 18, .inl pinched)), (q_says, .inl (a 0, 18, .inl says)), (q_w, .inl (a 0, 578, .inl w))] H → va_D A [(q_t, .inr (11, [.ref q_w, .ref q_isKept, .int t_all, .int t_corners, .int t_hearers, .int t_newAll, .int t_newCorners, .int t_newHearers, .ref q_beer, .ref q_cold, .ref q_stands, .ref q_pinched, .ref q_says, .ref q_text, .int t_textSize, .int t_at, .int t_first, .int t_faultOf, .int t_fault, .int t_spoke, .int t_holds, .int t_undoMany, .ref q_seenDecree, .ref q_seenAt, .ref q_seenSpoke, .int t_seen, .ref q_inSets, .ref q_book, .int t_written])), (q_pinched, .inl (a 0, 18, .inl pinched)), (q_says, .inl (a 0, 18, .inl says)), (q_w, .inl (a 0, 578, .inl w))] → va_S A s.heap H locs → lv_has ls 7 [(0, .ref q_t), (1, .int x1), (2, .int x2), (3, .int x3), (4, .int x4), (5, .int x5)] → W p l e { frames := 7, cells := 0, slots := 0, locals := 179 } s m args below meth c H locs 0 0 Q (F0 m 44 ls []) := by
        intro n_44
        induction n_44 with
        | zero => intro t_spoke t_holds w x1 x2 x3 x4 x5 H locs ls hf hP hD hS hl; rw [f_X11_bestRound_44] at hf; cases hf
        | succ n_44 ih_44 =>
          have L_58 : ∀ (n_58 : Nat) (t_spoke : Int32) (t_holds : Int32) (w : (Nat → Int32)) (x1 : Int32) (x2 : Int32) (x3 : Int32) (x4 : Int32) (x5 : Int32) (x6 : Int32) (H : Heap) (locs : List Loc) (ls : Array Slot), f_X11_bestRound_58 t_all t_corners t_hearers pinched says (f_X11_bestRound_35 t_all t_corners t_hearers pinched says n_35) (f_X11_bestRound_44 t_all t_corners t_hearers pinched says (f_X11_bestRound_35 t_all t_corners t_hearers pinched says n_35) n_44) n_58 t_spoke t_holds w x1 x2 x3 x4 x5 x6 = some (r, o_t_spoke, o_t_holds, o_w) → va_P D vwCl [(q_t, .inr (11, [.ref q_w, .ref q_isKept, .int t_all, .int t_corners, .int t_hearers, .int t_newAll, .int t_newCorners, .int t_newHearers, .ref q_beer, .ref q_cold, .ref q_stands, .ref q_pinched, .ref q_says, .ref q_text, .int t_textSize, .int t_at, .int t_first, .int t_faultOf, .int t_fault, .int t_spoke, .int t_holds, .int t_undoMany, .ref q_seenDecree, .ref q_seenAt, .ref q_seenSpoke, .int t_seen, .ref q_inSets, .ref q_book, .int t_written])), (q_pinched, .inl (a 0, 18, .inl pinched)), (q_says, .inl (a 0, 18, .inl says)), (q_w, .inl (a 0, 578, .inl w))] H → va_D A [(q_t, .inr (11, [.ref q_w, .ref q_isKept, .int t_all, .int t_corners, .int t_hearers, .int t_newAll, .int t_newCorners, .int t_newHearers, .ref q_beer, .ref q_cold, .ref q_stands, .ref q_pinched, .ref q_says, .ref q_text, .int t_textSize, .int t_at, .int t_first, .int t_faultOf, .int t_fault, .int t_spoke, .int t_holds, .int t_undoMany, .ref q_seenDecree, .ref q_seenAt, .ref q_seenSpoke, .int t_seen, .ref q_inSets, .ref q_book, .int t_written])), (q_pinched, .inl (a 0, 18, .inl pinched)), (q_says, .inl (a 0, 18, .inl says)), (q_w, .inl (a 0, 578, .inl w))] → va_S A s.heap H locs → lv_has ls 7 [(0, .ref q_t), (1, .int x1), (2, .int x2), (3, .int x3), (4, .int x4), (5, .int x5), (6, .int x6)] → W p l e { frames := 7, cells := 0, slots := 0, locals := 179 } s m args below meth c H locs 0 0 Q (F0 m 58 ls []) := by
            intro n_58
            induction n_58 with
            | zero => intro t_spoke t_holds w x1 x2 x3 x4 x5 x6 H locs ls hf hP hD hS hl; rw [f_X11_bestRound_58] at hf; cases hf
            | succ n_58 ih_58 =>
              intro t_spoke t_holds w x1 x2 x3 x4 x5 x6 H locs ls hf hP hD hS hl
              rw [f_X11_bestRound_58] at hf
              refine lv_iload hx hb dX11_bestRound_58 (lv_at hl 6 rfl) ?_
              refine lv_iconst (v := (2 : Int32)) hx hb dX11_bestRound_60 (by decide) ?_
              refine lv_aload_n hx hb dX11_bestRound_61 rfl (lv_at hl 0 rfl) ?_
              refine g_get hX hiX11 hP 0 rfl rfl 3 (by decide) hk4 rfl rfl dX11_bestRound_62 ?_
              refine lv_imul hx hb dX11_bestRound_65 ?_
              refine lv_icmp_ge (tgt := 117) hx hb dX11_bestRound_66 (by decide) (fun c1 => ?_) (fun c1 => ?_)
              · replace hf := o_ifp hf c1
                obtain ⟨v2, ev2⟩ : ∃ y : Int32, y = x5 + (1 : Int32) := ⟨_, rfl⟩
                replace hf := o_nmh hf v2 ev2
                refine lv_iinc (v := v2) (lv' := [(5, .int v2), (0, .ref q_t), (1, .int x1), (2, .int x2), (3, .int x3), (4, .int x4), (6, .int x6)]) hx hb dX11_bestRound_117 hl (k := 5) rfl (by rw [ev2]; rfl) (by decide) rfl (fun ls hl => ?_)
                refine lv_goto (tgt := 44) hx hb dX11_bestRound_120 (by decide) ?_
                exact ih_44 t_spoke t_holds w x1 x2 x3 x4 v2 _ _ _ hf hP hD hS (lv_sub hl [1, 2, 3, 4, 5, 0] rfl)
              replace hf := o_ifn hf c1
              refine lv_aload_n hx hb dX11_bestRound_69 rfl (lv_at hl 0 rfl) ?_
              refine lv_iload hx hb dX11_bestRound_70 (lv_at hl 5 rfl) ?_
              refine lv_iload hx hb dX11_bestRound_72 (lv_at hl 4 rfl) ?_
              obtain ⟨o3, ho3, hf⟩ := o_bd hf
              refine call_iV (q0 := 0) (ci := 11) hX (c_X11_mayKeep l D a t q_t q_w q_isKept t_all t_corners t_hearers t_newAll t_newCorners t_newHearers q_beer q_cold q_stands q_pinched q_says q_text t_textSize t_at t_first t_faultOf t_fault t_spoke t_holds t_undoMany q_seenDecree q_seenAt q_seenSpoke t_seen q_inSets q_book t_written w x5 x4 o3 ho3) (cwV 2 hts gX11_bestRound_X11_mayKeep rfl rfl rfl hdV_X11_mayKeep ⟨by decide, by decide⟩) (Cut.of hA hP hD hS [0, 3] (by decide) rfl rfl (W' := [(q_t, .inr (11, [.ref q_w, .ref q_isKept, .int t_all, .int t_corners, .int t_hearers, .int t_newAll, .int t_newCorners, .int t_newHearers, .ref q_beer, .ref q_cold, .ref q_stands, .ref q_pinched, .ref q_says, .ref q_text, .int t_textSize, .int t_at, .int t_first, .int t_faultOf, .int t_fault, .int t_spoke, .int t_holds, .int t_undoMany, .ref q_seenDecree, .ref q_seenAt, .ref q_seenSpoke, .int t_seen, .ref q_inSets, .ref q_book, .int t_written])), (q_pinched, .inl (a 0, 18, .inl pinched)), (q_says, .inl (a 0, 18, .inl says)), (q_w, .inl (a 0, 578, .inl w))]) rfl) hS rfl rfl rfl hl.1 rfl (Nat.le_of_ble_eq_true rfl) dX11_bestRound_74 (by decide) (fun H locs hP hD hS => ?_)
              replace hP : va_P D vwCl [(q_t, .inr (11, [.ref q_w, .ref q_isKept, .int t_all, .int t_corners, .int t_hearers, .int t_newAll, .int t_newCorners, .int t_newHearers, .ref q_beer, .ref q_cold, .ref q_stands, .ref q_pinched, .ref q_says, .ref q_text, .int t_textSize, .int t_at, .int t_first, .int t_faultOf, .int t_fault, .int t_spoke, .int t_holds, .int t_undoMany, .ref q_seenDecree, .ref q_seenAt, .ref q_seenSpoke, .int t_seen, .ref q_inSets, .ref q_book, .int t_written])), (q_pinched, .inl (a 0, 18, .inl pinched)), (q_says, .inl (a 0, 18, .inl says)), (q_w, .inl (a 0, 578, .inl w))] H := hP
              replace hD : va_D A [(q_t, .inr (11, [.ref q_w, .ref q_isKept, .int t_all, .int t_corners, .int t_hearers, .int t_newAll, .int t_newCorners, .int t_newHearers, .ref q_beer, .ref q_cold, .ref q_stands, .ref q_pinched, .ref q_says, .ref q_text, .int t_textSize, .int t_at, .int t_first, .int t_faultOf, .int t_fault, .int t_spoke, .int t_holds, .int t_undoMany, .ref q_seenDecree, .ref q_seenAt, .ref q_seenSpoke, .int t_seen, .ref q_inSets, .ref q_book, .int t_written])), (q_pinched, .inl (a 0, 18, .inl pinched)), (q_says, .inl (a 0, 18, .inl says)), (q_w, .inl (a 0, 578, .inl w))] := hD
              refine lv_if_eq (tgt := 111) hx hb dX11_bestRound_77 (by decide) (fun c4 => ?_) (fun c4 => ?_)
              · replace hf := o_ifp hf c4
                obtain ⟨v5, ev5⟩ : ∃ y : Int32, y = x6 + (1 : Int32) := ⟨_, rfl⟩
                replace hf := o_nmh hf v5 ev5
                refine lv_iinc (v := v5) (lv' := [(6, .int v5), (0, .ref q_t), (1, .int x1), (2, .int x2), (3, .int x3), (4, .int x4), (5, .int x5)]) hx hb dX11_bestRound_111 hl (k := 6) rfl (by rw [ev5]; rfl) (by decide) rfl (fun ls hl => ?_)
                refine lv_goto (tgt := 58) hx hb dX11_bestRound_114 (by decide) ?_
                exact ih_58 t_spoke t_holds w x1 x2 x3 x4 x5 v5 _ _ _ hf hP hD hS (lv_sub hl [1, 2, 3, 4, 5, 6, 0] rfl)
              replace hf := o_ifn hf c4
              refine lv_aload_n hx hb dX11_bestRound_80 rfl (lv_at hl 0 rfl) ?_
              refine lv_iload_n hx hb dX11_bestRound_81 rfl (lv_at hl 1 rfl) ?_
              refine lv_iload_n hx hb dX11_bestRound_82 rfl (lv_at hl 2 rfl) ?_
              refine lv_iload hx hb dX11_bestRound_83 (lv_at hl 6 rfl) ?_
              refine lv_iconst (v := (2 : Int32)) hx hb dX11_bestRound_85 (by decide) ?_
              obtain ⟨hzv6, hf⟩ := o_dvh hf
              refine lv_idiv hx hb dX11_bestRound_86 hzv6 ?_
              refine lv_topi (fun v6 ev6 => ?_)
              replace hf := hf v6 ev6
              refine lv_iload hx hb dX11_bestRound_87 (lv_at hl 6 rfl) ?_
              refine lv_iconst (v := (2 : Int32)) hx hb dX11_bestRound_89 (by decide) ?_
              obtain ⟨hzv7, hf⟩ := o_rmh hf
              refine lv_irem hx hb dX11_bestRound_90 hzv7 ?_
              refine lv_topi (fun v7 ev7 => ?_)
              replace hf := hf v7 ev7
              refine lv_iload hx hb dX11_bestRound_91 (lv_at hl 5 rfl) ?_
              obtain ⟨o8, ho8, hf⟩ := o_bd hf
              refine call_iV (q0 := 0) (ci := 11) hX (c_X11_isLawAllRound l D a t q_t q_w q_isKept t_all t_corners t_hearers t_newAll t_newCorners t_newHearers q_beer q_cold q_stands q_pinched q_says q_text t_textSize t_at t_first t_faultOf t_fault t_spoke t_holds t_undoMany q_seenDecree q_seenAt q_seenSpoke t_seen q_inSets q_book t_written pinched says w x1 x2 v6 v7 x5 o8.1 o8.2.1 o8.2.2.1 o8.2.2.2 ho8) (cwV 5 hts gX11_bestRound_X11_isLawAllRound rfl rfl rfl hdV_X11_isLawAllRound ⟨by decide, by decide⟩) (Cut.of hA hP hD hS [0, 1, 2, 3] (by decide) rfl rfl (W' := [(q_t, .inr (11, [.ref q_w, .ref q_isKept, .int t_all, .int t_corners, .int t_hearers, .int t_newAll, .int t_newCorners, .int t_newHearers, .ref q_beer, .ref q_cold, .ref q_stands, .ref q_pinched, .ref q_says, .ref q_text, .int t_textSize, .int t_at, .int t_first, .int t_faultOf, .int t_fault, .int o8.2.1, .int o8.2.2.1, .int t_undoMany, .ref q_seenDecree, .ref q_seenAt, .ref q_seenSpoke, .int t_seen, .ref q_inSets, .ref q_book, .int t_written])), (q_pinched, .inl (a 0, 18, .inl pinched)), (q_says, .inl (a 0, 18, .inl says)), (q_w, .inl (a 0, 578, .inl o8.2.2.2))]) rfl) hS rfl rfl rfl hl.1 rfl (Nat.le_of_ble_eq_true rfl) dX11_bestRound_93 (by decide) (fun H locs hP hD hS => ?_)
              replace hP : va_P D vwCl [(q_t, .inr (11, [.ref q_w, .ref q_isKept, .int t_all, .int t_corners, .int t_hearers, .int t_newAll, .int t_newCorners, .int t_newHearers, .ref q_beer, .ref q_cold, .ref q_stands, .ref q_pinched, .ref q_says, .ref q_text, .int t_textSize, .int t_at, .int t_first, .int t_faultOf, .int t_fault, .int o8.2.1, .int o8.2.2.1, .int t_undoMany, .ref q_seenDecree, .ref q_seenAt, .ref q_seenSpoke, .int t_seen, .ref q_inSets, .ref q_book, .int t_written])), (q_pinched, .inl (a 0, 18, .inl pinched)), (q_says, .inl (a 0, 18, .inl says)), (q_w, .inl (a 0, 578, .inl o8.2.2.2))] H := hP
              replace hD : va_D A [(q_t, .inr (11, [.ref q_w, .ref q_isKept, .int t_all, .int t_corners, .int t_hearers, .int t_newAll, .int t_newCorners, .int t_newHearers, .ref q_beer, .ref q_cold, .ref q_stands, .ref q_pinched, .ref q_says, .ref q_text, .int t_textSize, .int t_at, .int t_first, .int t_faultOf, .int t_fault, .int o8.2.1, .int o8.2.2.1, .int t_undoMany, .ref q_seenDecree, .ref q_seenAt, .ref q_seenSpoke, .int t_seen, .ref q_inSets, .ref q_book, .int t_written])), (q_pinched, .inl (a 0, 18, .inl pinched)), (q_says, .inl (a 0, 18, .inl says)), (q_w, .inl (a 0, 578, .inl o8.2.2.2))] := hD
              refine lv_if_eq (tgt := 111) hx hb dX11_bestRound_96 (by decide) (fun c9 => ?_) (fun c9 => ?_)
              · replace hf := o_ifp hf c9
                obtain ⟨v10, ev10⟩ : ∃ y : Int32, y = x6 + (1 : Int32) := ⟨_, rfl⟩
                replace hf := o_nmh hf v10 ev10
                refine lv_iinc (v := v10) (lv' := [(6, .int v10), (0, .ref q_t), (1, .int x1), (2, .int x2), (3, .int x3), (4, .int x4), (5, .int x5)]) hx hb dX11_bestRound_111 hl (k := 6) rfl (by rw [ev10]; rfl) (by decide) rfl (fun ls hl => ?_)
                refine lv_goto (tgt := 58) hx hb dX11_bestRound_114 (by decide) ?_
                exact ih_58 o8.2.1 o8.2.2.1 o8.2.2.2 x1 x2 x3 x4 x5 v10 _ _ _ hf hP hD hS (lv_sub hl [1, 2, 3, 4, 5, 6, 0] rfl)
              replace hf := o_ifn hf c9
              refine lv_iload_n hx hb dX11_bestRound_99 rfl (lv_at hl 3 rfl) ?_
              refine lv_if_ne (tgt := 108) hx hb dX11_bestRound_100 (by decide) (fun c11 => ?_) (fun c11 => ?_)
              · replace hf := o_ifn hf c11
                refine lv_iload hx hb dX11_bestRound_108 (lv_at hl 5 rfl) ?_
                cases hf
                exact hret _ _ _ _ (vp_nar_int _) hP hD hS dX11_bestRound_110
              replace hf := o_ifp hf c11
              refine lv_iload hx hb dX11_bestRound_103 (lv_at hl 6 rfl) ?_
              refine lv_goto (tgt := 110) hx hb dX11_bestRound_105 (by decide) ?_
              cases hf
              exact hret _ _ _ _ (vp_nar_int _) hP hD hS dX11_bestRound_110
          intro t_spoke t_holds w x1 x2 x3 x4 x5 H locs ls hf hP hD hS hl
          rw [f_X11_bestRound_44] at hf
          refine lv_iload hx hb dX11_bestRound_44 (lv_at hl 5 rfl) ?_
          refine lv_iconst (v := (1 : Int32)) hx hb dX11_bestRound_46 (by decide) ?_
          refine lv_aload_n hx hb dX11_bestRound_47 rfl (lv_at hl 0 rfl) ?_
          refine g_get hX hiX11 hP 0 rfl rfl 4 (by decide) hk3 rfl rfl dX11_bestRound_48 ?_
          refine lv_ishl hx hb dX11_bestRound_51 ?_
          refine lv_icmp_ge (tgt := 123) hx hb dX11_bestRound_52 (by decide) (fun c12 => ?_) (fun c12 => ?_)
          · replace hf := o_ifp hf c12
            obtain ⟨v13, ev13⟩ : ∃ y : Int32, y = x4 + (1 : Int32) := ⟨_, rfl⟩
            replace hf := o_nmh hf v13 ev13
            refine lv_iinc (v := v13) (lv' := [(4, .int v13), (0, .ref q_t), (1, .int x1), (2, .int x2), (3, .int x3), (5, .int x5)]) hx hb dX11_bestRound_123 hl (k := 4) rfl (by rw [ev13]; rfl) (by decide) rfl (fun ls hl => ?_)
            refine lv_goto (tgt := 35) hx hb dX11_bestRound_126 (by decide) ?_
            exact ih_35 t_spoke t_holds w x1 x2 x3 v13 _ _ _ hf hP hD hS (lv_sub hl [1, 2, 3, 4, 0] rfl)
          replace hf := o_ifn hf c12
          refine lv_iconst (v := (0 : Int32)) hx hb dX11_bestRound_55 (by decide) ?_
          refine lv_istore (lv' := [(6, .int (0 : Int32)), (0, .ref q_t), (1, .int x1), (2, .int x2), (3, .int x3), (4, .int x4), (5, .int x5)]) hx hb dX11_bestRound_56 hl (by decide) rfl (fun ls hl => ?_)
          exact L_58 1000 t_spoke t_holds w x1 x2 x3 x4 x5 (0 : Int32) _ _ _ hf hP hD hS (lv_sub hl [1, 2, 3, 4, 5, 6, 0] rfl)
      intro t_spoke t_holds w x1 x2 x3 x4 H locs ls hf hP hD hS hl
      rw [f_X11_bestRound_35] at hf
      refine lv_iload hx hb dX11_bestRound_35 (lv_at hl 4 rfl) ?_
      refine lv_iconst (v := (3 : Int32)) hx hb dX11_bestRound_37 (by decide) ?_
      refine lv_icmp_ge (tgt := 129) hx hb dX11_bestRound_38 (by decide) (fun c14 => ?_) (fun c14 => ?_)
      · replace hf := o_ifp hf c14
        refine lv_iconst (v := (-1 : Int32)) hx hb dX11_bestRound_129 (by decide) ?_
        cases hf
        exact hret _ _ _ _ (vp_nar_int _) hP hD hS dX11_bestRound_130
      replace hf := o_ifn hf c14
      refine lv_iconst (v := (0 : Int32)) hx hb dX11_bestRound_41 (by decide) ?_
      refine lv_istore (lv' := [(5, .int (0 : Int32)), (0, .ref q_t), (1, .int x1), (2, .int x2), (3, .int x3), (4, .int x4)]) hx hb dX11_bestRound_42 hl (by decide) rfl (fun ls hl => ?_)
      exact L_44 1000 t_spoke t_holds w x1 x2 x3 x4 (0 : Int32) _ _ _ hf hP hD hS (lv_sub hl [1, 2, 3, 4, 5, 0] rfl)
  unfold f_X11_bestRound at hf
  refine lv_aload_n hx hb dX11_bestRound_0 rfl (lv_at hl 0 rfl) ?_
  refine lv_iload_n hx hb dX11_bestRound_1 rfl (lv_at hl 1 rfl) ?_
  obtain ⟨o15, ho15, hf⟩ := o_bd hf
  refine call_iV (q0 := 0) (ci := 11) hX (c_X11_isDecree l D a t q_t q_w q_isKept t_all t_corners t_hearers t_newAll t_newCorners t_newHearers q_beer q_cold q_stands q_pinched q_says q_text t_textSize t_at t_first t_faultOf t_fault t_spoke t_holds t_undoMany q_seenDecree q_seenAt q_seenSpoke t_seen q_inSets q_book t_written x1 o15 ho15) (cwV 1 hts gX11_bestRound_X11_isDecree rfl rfl rfl hdV_X11_isDecree ⟨by decide, by decide⟩) (Cut.of hA hP hD hS [0] (by decide) rfl rfl (W' := [(q_t, .inr (11, [.ref q_w, .ref q_isKept, .int t_all, .int t_corners, .int t_hearers, .int t_newAll, .int t_newCorners, .int t_newHearers, .ref q_beer, .ref q_cold, .ref q_stands, .ref q_pinched, .ref q_says, .ref q_text, .int t_textSize, .int t_at, .int t_first, .int t_faultOf, .int t_fault, .int t_spoke, .int t_holds, .int t_undoMany, .ref q_seenDecree, .ref q_seenAt, .ref q_seenSpoke, .int t_seen, .ref q_inSets, .ref q_book, .int t_written])), (q_pinched, .inl (a 0, 18, .inl pinched)), (q_says, .inl (a 0, 18, .inl says)), (q_w, .inl (a 0, 578, .inl w))]) rfl) hS rfl rfl rfl hl.1 rfl (Nat.le_of_ble_eq_true rfl) dX11_bestRound_2 (by decide) (fun H locs hP hD hS => ?_)
  replace hP : va_P D vwCl [(q_t, .inr (11, [.ref q_w, .ref q_isKept, .int t_all, .int t_corners, .int t_hearers, .int t_newAll, .int t_newCorners, .int t_newHearers, .ref q_beer, .ref q_cold, .ref q_stands, .ref q_pinched, .ref q_says, .ref q_text, .int t_textSize, .int t_at, .int t_first, .int t_faultOf, .int t_fault, .int t_spoke, .int t_holds, .int t_undoMany, .ref q_seenDecree, .ref q_seenAt, .ref q_seenSpoke, .int t_seen, .ref q_inSets, .ref q_book, .int t_written])), (q_pinched, .inl (a 0, 18, .inl pinched)), (q_says, .inl (a 0, 18, .inl says)), (q_w, .inl (a 0, 578, .inl w))] H := hP
  replace hD : va_D A [(q_t, .inr (11, [.ref q_w, .ref q_isKept, .int t_all, .int t_corners, .int t_hearers, .int t_newAll, .int t_newCorners, .int t_newHearers, .ref q_beer, .ref q_cold, .ref q_stands, .ref q_pinched, .ref q_says, .ref q_text, .int t_textSize, .int t_at, .int t_first, .int t_faultOf, .int t_fault, .int t_spoke, .int t_holds, .int t_undoMany, .ref q_seenDecree, .ref q_seenAt, .ref q_seenSpoke, .int t_seen, .ref q_inSets, .ref q_book, .int t_written])), (q_pinched, .inl (a 0, 18, .inl pinched)), (q_says, .inl (a 0, 18, .inl says)), (q_w, .inl (a 0, 578, .inl w))] := hD
  refine lv_if_eq (tgt := 16) hx hb dX11_bestRound_5 (by decide) (fun c16 => ?_) (fun c16 => ?_)
  · replace hf := o_ifp hf c16
    refine lv_ldc (v := (-1000000001 : Int32)) hx hb hown hk1 dX11_bestRound_16 ?_
    cases hf
    exact hret _ _ _ _ (vp_nar_int _) hP hD hS dX11_bestRound_18
  replace hf := o_ifn hf c16
  refine lv_aload_n hx hb dX11_bestRound_8 rfl (lv_at hl 0 rfl) ?_
  refine lv_iload_n hx hb dX11_bestRound_9 rfl (lv_at hl 2 rfl) ?_
  obtain ⟨o17, ho17, hf⟩ := o_bd hf
  refine call_iV (q0 := 0) (ci := 11) hX (c_X11_isDecree l D a t q_t q_w q_isKept t_all t_corners t_hearers t_newAll t_newCorners t_newHearers q_beer q_cold q_stands q_pinched q_says q_text t_textSize t_at t_first t_faultOf t_fault t_spoke t_holds t_undoMany q_seenDecree q_seenAt q_seenSpoke t_seen q_inSets q_book t_written x2 o17 ho17) (cwV 1 hts gX11_bestRound_X11_isDecree rfl rfl rfl hdV_X11_isDecree ⟨by decide, by decide⟩) (Cut.of hA hP hD hS [0] (by decide) rfl rfl (W' := [(q_t, .inr (11, [.ref q_w, .ref q_isKept, .int t_all, .int t_corners, .int t_hearers, .int t_newAll, .int t_newCorners, .int t_newHearers, .ref q_beer, .ref q_cold, .ref q_stands, .ref q_pinched, .ref q_says, .ref q_text, .int t_textSize, .int t_at, .int t_first, .int t_faultOf, .int t_fault, .int t_spoke, .int t_holds, .int t_undoMany, .ref q_seenDecree, .ref q_seenAt, .ref q_seenSpoke, .int t_seen, .ref q_inSets, .ref q_book, .int t_written])), (q_pinched, .inl (a 0, 18, .inl pinched)), (q_says, .inl (a 0, 18, .inl says)), (q_w, .inl (a 0, 578, .inl w))]) rfl) hS rfl rfl rfl hl.1 rfl (Nat.le_of_ble_eq_true rfl) dX11_bestRound_10 (by decide) (fun H locs hP hD hS => ?_)
  replace hP : va_P D vwCl [(q_t, .inr (11, [.ref q_w, .ref q_isKept, .int t_all, .int t_corners, .int t_hearers, .int t_newAll, .int t_newCorners, .int t_newHearers, .ref q_beer, .ref q_cold, .ref q_stands, .ref q_pinched, .ref q_says, .ref q_text, .int t_textSize, .int t_at, .int t_first, .int t_faultOf, .int t_fault, .int t_spoke, .int t_holds, .int t_undoMany, .ref q_seenDecree, .ref q_seenAt, .ref q_seenSpoke, .int t_seen, .ref q_inSets, .ref q_book, .int t_written])), (q_pinched, .inl (a 0, 18, .inl pinched)), (q_says, .inl (a 0, 18, .inl says)), (q_w, .inl (a 0, 578, .inl w))] H := hP
  replace hD : va_D A [(q_t, .inr (11, [.ref q_w, .ref q_isKept, .int t_all, .int t_corners, .int t_hearers, .int t_newAll, .int t_newCorners, .int t_newHearers, .ref q_beer, .ref q_cold, .ref q_stands, .ref q_pinched, .ref q_says, .ref q_text, .int t_textSize, .int t_at, .int t_first, .int t_faultOf, .int t_fault, .int t_spoke, .int t_holds, .int t_undoMany, .ref q_seenDecree, .ref q_seenAt, .ref q_seenSpoke, .int t_seen, .ref q_inSets, .ref q_book, .int t_written])), (q_pinched, .inl (a 0, 18, .inl pinched)), (q_says, .inl (a 0, 18, .inl says)), (q_w, .inl (a 0, 578, .inl w))] := hD
  refine lv_if_ne (tgt := 19) hx hb dX11_bestRound_13 (by decide) (fun c18 => ?_) (fun c18 => ?_)
  · replace hf := o_ifn hf c18
    refine lv_iload_n hx hb dX11_bestRound_19 rfl (lv_at hl 3 rfl) ?_
    refine lv_i2l (v := Int32.toInt64 x3) hx hb dX11_bestRound_20 rfl ?_
    refine lv_lconst (v := (0 : Int64)) hx hb dX11_bestRound_21 (by decide) ?_
    refine lv_lconst (v := (1 : Int64)) hx hb dX11_bestRound_22 (by decide) ?_
    obtain ⟨o19, ho19, hf⟩ := o_bd hf
    refine call_iS hX (c_X11_in l D a t (Int32.toInt64 x3) (0 : Int64) (1 : Int64) o19 ho19) (va_cwS 3 hts gX11_bestRound_X11_in rfl rfl rfl hdS_X11_in ⟨by decide, by decide⟩) (Cut.none hA hP hD hS) hS rfl hl.1 rfl (Nat.le_of_ble_eq_true rfl) dX11_bestRound_23 (by decide) (fun H locs hP hD hS => ?_)
    refine lv_if_ne (tgt := 32) hx hb dX11_bestRound_26 (by decide) (fun c20 => ?_) (fun c20 => ?_)
    · replace hf := o_ifn hf c20
      refine lv_iconst (v := (0 : Int32)) hx hb dX11_bestRound_32 (by decide) ?_
      refine lv_istore (lv' := [(4, .int (0 : Int32)), (0, .ref q_t), (1, .int x1), (2, .int x2), (3, .int x3)]) hx hb dX11_bestRound_33 hl (by decide) rfl (fun ls hl => ?_)
      exact L_35 1000 t_spoke t_holds w x1 x2 x3 (0 : Int32) _ _ _ hf hP hD hS (lv_sub hl [1, 2, 3, 4, 0] rfl)
    replace hf := o_ifp hf c20
    refine lv_ldc (v := (-1000000002 : Int32)) hx hb hown hk2 dX11_bestRound_29 ?_
    cases hf
    exact hret _ _ _ _ (vp_nar_int _) hP hD hS dX11_bestRound_31
  replace hf := o_ifp hf c18
  refine lv_ldc (v := (-1000000001 : Int32)) hx hb hown hk1 dX11_bestRound_16 ?_
  cases hf
  exact hret _ _ _ _ (vp_nar_int _) hP hD hS dX11_bestRound_18
def f_X11_began_44 (t_all : Int32) (t_corners : Int32) (t_hearers : Int32) (pinched : Nat → Int32) (says : Nat → Int32) : Nat → Int32 → Int32 → (Nat → Int32) → Int32 → Int32 → Int32 → Int32 → Int32 → Int32 → Int32 → Int32 → Option (Int32 × Int32 × Int32 × (Nat → Int32))
  | 0, _, _, _, _, _, _, _, _, _, _, _ => none
  | n_44 + 1, t_spoke, t_holds, w, x1, x2, x3, x4, x5, x6, x7, x8 =>
    if t_all < x8 then (if x4 = (-1 : Int32) then (some (x5, t_spoke, t_holds, w))
    else (if x4 = (-2 : Int32) then (if x5 = 0 then (some ((0 : Int32), t_spoke, t_holds, w))
    else (some (x7, t_spoke, t_holds, w)))
    else (some (x6, t_spoke, t_holds, w))))
    else ((f_X11_isDecree t_all x8).bind fun o5 =>
    if o5 = 0 then (o_nm (x8 + (1 : Int32)) fun v7 =>
    f_X11_began_44 t_all t_corners t_hearers pinched says n_44 t_spoke t_holds w x1 x2 x3 x4 x5 x6 x7 v7)
    else ((f_X11_tryRound t_all t_corners t_hearers t_spoke t_holds pinched says w x8 x2 x3 (0 : Int32) (0 : Int32)).bind fun o8 =>
    if o8.1 = x1 then (if x5 = x4 then (o_nm ((x7 &&& x8)) fun v15 =>
    o_nm (x5 + (1 : Int32)) fun v16 =>
    o_nm (x8 + (1 : Int32)) fun v17 =>
    f_X11_began_44 t_all t_corners t_hearers pinched says n_44 o8.2.1 o8.2.2.1 o8.2.2.2 x1 x2 x3 x4 v16 x8 v15 v17)
    else (o_nm ((x7 &&& x8)) fun v12 =>
    o_nm (x5 + (1 : Int32)) fun v13 =>
    o_nm (x8 + (1 : Int32)) fun v14 =>
    f_X11_began_44 t_all t_corners t_hearers pinched says n_44 o8.2.1 o8.2.2.1 o8.2.2.2 x1 x2 x3 x4 v13 x6 v12 v14))
    else (o_nm (x8 + (1 : Int32)) fun v10 =>
    f_X11_began_44 t_all t_corners t_hearers pinched says n_44 o8.2.1 o8.2.2.1 o8.2.2.2 x1 x2 x3 x4 x5 x6 x7 v10)))
def f_X11_began (t_all : Int32) (t_corners : Int32) (t_hearers : Int32) (t_spoke : Int32) (t_holds : Int32) (pinched : Nat → Int32) (says : Nat → Int32) (w : Nat → Int32) (x1 : Int32) (x2 : Int32) (x3 : Int32) (x4 : Int32) : Option (Int32 × Int32 × Int32 × (Nat → Int32)) :=
  (f_X11_isDecree t_all x1).bind fun o18 =>
  if o18 = 0 then (some ((-1000000001 : Int32), t_spoke, t_holds, w))
  else ((f_X11_isCorner t_corners x2).bind fun o20 =>
  if o20 = 0 then (some ((-1000000001 : Int32), t_spoke, t_holds, w))
  else ((f_X11_isWay x3).bind fun o22 =>
  if o22 = 0 then (some ((-1000000002 : Int32), t_spoke, t_holds, w))
  else (f_X11_began_44 t_all t_corners t_hearers pinched says 1000 t_spoke t_holds w x1 x2 x3 x4 (0 : Int32) (-1 : Int32) t_all (0 : Int32))))
theorem hdS_X11_began : yX11_began.cls ≠ "java/lang/invoke/MethodHandle" ∧ yX11_began.cls ≠ "java/lang/invoke/VarHandle" ∧ (parseMethodDescriptor yX11_began.desc).map (fun d => d.parameters.length) = some 4 := by decide +kernel
theorem hdV_X11_began : yX11_began.cls = RX11 ∧ yX11_began.cls ≠ "java/lang/invoke/MethodHandle" ∧ yX11_began.cls ≠ "java/lang/invoke/VarHandle" ∧ (parseMethodDescriptor yX11_began.desc).map (fun d => d.parameters.length) = some 4 := ⟨rfl, hdS_X11_began⟩
set_option maxHeartbeats 4000000 in
set_option maxRecDepth 100000 in
theorem c_X11_began (l : Launch) (D : va_G) (a : Nat → ClassId) (t : Nat) (q_t : Nat) (q_w : Nat) (q_isKept : Nat) (t_all : Int32) (t_corners : Int32) (t_hearers : Int32) (t_newAll : Int32) (t_newCorners : Int32) (t_newHearers : Int32) (q_beer : Nat) (q_cold : Nat) (q_stands : Nat) (q_pinched : Nat) (q_says : Nat) (q_text : Nat) (t_textSize : Int32) (t_at : Int32) (t_first : Int32) (t_faultOf : Int32) (t_fault : Int32) (t_spoke : Int32) (t_holds : Int32) (t_undoMany : Int32) (q_seenDecree : Nat) (q_seenAt : Nat) (q_seenSpoke : Nat) (t_seen : Int32) (q_inSets : Nat) (q_book : Nat) (t_written : Int32) (pinched : Nat → Int32) (says : Nat → Int32) (w : Nat → Int32) (x1 : Int32) (x2 : Int32) (x3 : Int32) (x4 : Int32) (r : Int32) (o_t_spoke : Int32) (o_t_holds : Int32) (o_w : Nat → Int32) (hf : f_X11_began t_all t_corners t_hearers t_spoke t_holds pinched says w x1 x2 x3 x4 = some (r, o_t_spoke, o_t_holds, o_w)) : Ki l yX11_began wsX11_began 6 153 D a t [.ref q_t, .int x1, .int x2, .int x3, .int x4] [(q_t, .inr (11, [.ref q_w, .ref q_isKept, .int t_all, .int t_corners, .int t_hearers, .int t_newAll, .int t_newCorners, .int t_newHearers, .ref q_beer, .ref q_cold, .ref q_stands, .ref q_pinched, .ref q_says, .ref q_text, .int t_textSize, .int t_at, .int t_first, .int t_faultOf, .int t_fault, .int t_spoke, .int t_holds, .int t_undoMany, .ref q_seenDecree, .ref q_seenAt, .ref q_seenSpoke, .int t_seen, .ref q_inSets, .ref q_book, .int t_written])), (q_pinched, .inl (a 0, 18, .inl pinched)), (q_says, .inl (a 0, 18, .inl says)), (q_w, .inl (a 0, 578, .inl w))] [(q_t, .inr (11, [.ref q_w, .ref q_isKept, .int t_all, .int t_corners, .int t_hearers, .int t_newAll, .int t_newCorners, .int t_newHearers, .ref q_beer, .ref q_cold, .ref q_stands, .ref q_pinched, .ref q_says, .ref q_text, .int t_textSize, .int t_at, .int t_first, .int t_faultOf, .int t_fault, .int o_t_spoke, .int o_t_holds, .int t_undoMany, .ref q_seenDecree, .ref q_seenAt, .ref q_seenSpoke, .int t_seen, .ref q_inSets, .ref q_book, .int t_written])), (q_pinched, .inl (a 0, 18, .inl pinched)), (q_says, .inl (a 0, 18, .inl says)), (q_w, .inl (a 0, 578, .inl o_w))] r := by
  refine Ki.mk (cc := cX11_began) (nL := 9) (ty := .int) (own := RX11) (by decide) rfl rfl (Nat.le_of_ble_eq_true rfl) ?_
  intro p e s m args below meth c A Q ls hX hP hD hS hl hret
  have hx := hX.1.1
  have hb := hX.1.2.1
  have hown := hX.1.2.2.2.1
  have hts := hX.1.2.2.2.2
  have hN := hX.2.2.1
  have hA := hX.2.2.2.2
  have hl : lv_has ls 9 [(0, .ref q_t), (1, .int x1), (2, .int x2), (3, .int x3), (4, .int x4)] := hl
  have hk1 := hts (.constant RX11 149 (-1000000001)) (List.mem_of_getElem? (i := 1) rfl)
  have hk2 := hts (.constant RX11 64 (-1000000002)) (List.mem_of_getElem? (i := 2) rfl)
  have hk3 := hts (.fieldLink RX11 126 "GainsaidOnceModel" "all" "I") (List.mem_of_getElem? (i := 3) rfl)
  have hiX11 : ∀ w ∈ wsX110, w ∈ wsX11_began := (fun _ h => List.mem_cons_of_mem _ (List.mem_append_right _ h))
  have L_44 : ∀ (n_44 : Nat) (t_spoke : Int32) (t_holds : Int32) (w : (Nat → Int32)) (x1 : Int32) (x2 : Int32) (x3 : Int32) (x4 : Int32) (x5 : Int32) (x6 : Int32) (x7 : Int32) (x8 : Int32) (H : Heap) (locs : List Loc) (ls : Array Slot), f_X11_began_44 t_all t_corners t_hearers pinched says n_44 t_spoke t_holds w x1 x2 x3 x4 x5 x6 x7 x8 = some (r, o_t_spoke, o_t_holds, o_w) → va_P D vwCl [(q_t, .inr (11, [.ref q_w, .ref q_isKept, .int t_all, .int t_corners, .int t_hearers, .int t_newAll, .int t_newCorners, .int t_newHearers, .ref q_beer, .ref q_cold, .ref q_stands, .ref q_pinched, .ref q_says, .ref q_text, .int t_textSize, .int t_at, .int t_first, .int t_faultOf, .int t_fault, .int t_spoke, .int t_holds, .int t_undoMany, .ref q_seenDecree, .ref q_seenAt, .ref q_seenSpoke, .int t_seen, .ref q_inSets, .ref q_book, .int t_written])), (q_pinched, .inl (a 0, 18, .inl pinched)), (q_says, .inl (a 0, 18, .inl says)), (q_w, .inl (a 0, 578, .inl w))] H → va_D A [(q_t, .inr (11, [.ref q_w, .ref q_isKept, .int t_all, .int t_corners, .int t_hearers, .int t_newAll, .int t_newCorners, .int t_newHearers, .ref q_beer, .ref q_cold, .ref q_stands, .ref q_pinched, .ref q_says, .ref q_text, .int t_textSize, .int t_at, .int t_first, .int t_faultOf, .int t_fault, .int t_spoke, .int t_holds, .int t_undoMany, .ref q_seenDecree, .ref q_seenAt, .ref q_seenSpoke, .int t_seen, .ref q_inSets, .ref q_book, .int t_written])), (q_pinched, .inl (a 0, 18, .inl pinched)), (q_says, .inl (a 0, 18, .inl says)), (q_w, .inl (a 0, 578, .inl w))] → va_S A s.heap H locs → lv_has ls 9 [(0, .ref q_t), (1, .int x1), (2, .int x2), (3, .int x3), (4, .int x4), (5, .int x5), (6, .int x6), (7, .int x7), (8, .int x8)] → W p l e { frames := 6, cells := 0, slots := 0, locals := 153 } s m args below meth c H locs 0 0 Q (F0 m 44 ls []) := by
    intro n_44
    induction n_44 with
    | zero => intro t_spoke t_holds w x1 x2 x3 x4 x5 x6 x7 x8 H locs ls hf hP hD hS hl; rw [f_X11_began_44] at hf; cases hf
    | succ n_44 ih_44 =>
      intro t_spoke t_holds w x1 x2 x3 x4 x5 x6 x7 x8 H locs ls hf hP hD hS hl
      rw [f_X11_began_44] at hf
      refine lv_iload hx hb dX11_began_44 (lv_at hl 8 rfl) ?_
      refine lv_aload_n hx hb dX11_began_46 rfl (lv_at hl 0 rfl) ?_
      refine g_get hX hiX11 hP 0 rfl rfl 2 (by decide) hk3 rfl rfl dX11_began_47 ?_
      refine lv_icmp_gt (tgt := 108) hx hb dX11_began_50 (by decide) (fun c1 => ?_) (fun c1 => ?_)
      · replace hf := o_ifp hf c1
        refine lv_iload hx hb dX11_began_108 (lv_at hl 4 rfl) ?_
        refine lv_iconst (v := (-1 : Int32)) hx hb dX11_began_110 (by decide) ?_
        refine lv_icmp_ne (tgt := 119) hx hb dX11_began_111 (by decide) (fun c2 => ?_) (fun c2 => ?_)
        · replace hf := o_ifn hf c2
          refine lv_iload hx hb dX11_began_119 (lv_at hl 4 rfl) ?_
          refine lv_bipush (v := (-2 : Int32)) hx hb dX11_began_121 (by decide) ?_
          refine lv_icmp_ne (tgt := 140) hx hb dX11_began_123 (by decide) (fun c3 => ?_) (fun c3 => ?_)
          · replace hf := o_ifn hf c3
            refine lv_iload hx hb dX11_began_140 (lv_at hl 6 rfl) ?_
            cases hf
            exact hret _ _ _ _ (vp_nar_int _) hP hD hS dX11_began_142
          replace hf := o_ifp hf c3
          refine lv_iload hx hb dX11_began_126 (lv_at hl 5 rfl) ?_
          refine lv_if_ne (tgt := 135) hx hb dX11_began_128 (by decide) (fun c4 => ?_) (fun c4 => ?_)
          · replace hf := o_ifn hf c4
            refine lv_iload hx hb dX11_began_135 (lv_at hl 7 rfl) ?_
            refine lv_goto (tgt := 142) hx hb dX11_began_137 (by decide) ?_
            cases hf
            exact hret _ _ _ _ (vp_nar_int _) hP hD hS dX11_began_142
          replace hf := o_ifp hf c4
          refine lv_iconst (v := (0 : Int32)) hx hb dX11_began_131 (by decide) ?_
          refine lv_goto (tgt := 142) hx hb dX11_began_132 (by decide) ?_
          cases hf
          exact hret _ _ _ _ (vp_nar_int _) hP hD hS dX11_began_142
        replace hf := o_ifp hf c2
        refine lv_iload hx hb dX11_began_114 (lv_at hl 5 rfl) ?_
        refine lv_goto (tgt := 142) hx hb dX11_began_116 (by decide) ?_
        cases hf
        exact hret _ _ _ _ (vp_nar_int _) hP hD hS dX11_began_142
      replace hf := o_ifn hf c1
      refine lv_aload_n hx hb dX11_began_53 rfl (lv_at hl 0 rfl) ?_
      refine lv_iload hx hb dX11_began_54 (lv_at hl 8 rfl) ?_
      obtain ⟨o5, ho5, hf⟩ := o_bd hf
      refine call_iV (q0 := 0) (ci := 11) hX (c_X11_isDecree l D a t q_t q_w q_isKept t_all t_corners t_hearers t_newAll t_newCorners t_newHearers q_beer q_cold q_stands q_pinched q_says q_text t_textSize t_at t_first t_faultOf t_fault t_spoke t_holds t_undoMany q_seenDecree q_seenAt q_seenSpoke t_seen q_inSets q_book t_written x8 o5 ho5) (cwV 1 hts gX11_began_X11_isDecree rfl rfl rfl hdV_X11_isDecree ⟨by decide, by decide⟩) (Cut.of hA hP hD hS [0] (by decide) rfl rfl (W' := [(q_t, .inr (11, [.ref q_w, .ref q_isKept, .int t_all, .int t_corners, .int t_hearers, .int t_newAll, .int t_newCorners, .int t_newHearers, .ref q_beer, .ref q_cold, .ref q_stands, .ref q_pinched, .ref q_says, .ref q_text, .int t_textSize, .int t_at, .int t_first, .int t_faultOf, .int t_fault, .int t_spoke, .int t_holds, .int t_undoMany, .ref q_seenDecree, .ref q_seenAt, .ref q_seenSpoke, .int t_seen, .ref q_inSets, .ref q_book, .int t_written])), (q_pinched, .inl (a 0, 18, .inl pinched)), (q_says, .inl (a 0, 18, .inl says)), (q_w, .inl (a 0, 578, .inl w))]) rfl) hS rfl rfl rfl hl.1 rfl (Nat.le_of_ble_eq_true rfl) dX11_began_56 (by decide) (fun H locs hP hD hS => ?_)
      replace hP : va_P D vwCl [(q_t, .inr (11, [.ref q_w, .ref q_isKept, .int t_all, .int t_corners, .int t_hearers, .int t_newAll, .int t_newCorners, .int t_newHearers, .ref q_beer, .ref q_cold, .ref q_stands, .ref q_pinched, .ref q_says, .ref q_text, .int t_textSize, .int t_at, .int t_first, .int t_faultOf, .int t_fault, .int t_spoke, .int t_holds, .int t_undoMany, .ref q_seenDecree, .ref q_seenAt, .ref q_seenSpoke, .int t_seen, .ref q_inSets, .ref q_book, .int t_written])), (q_pinched, .inl (a 0, 18, .inl pinched)), (q_says, .inl (a 0, 18, .inl says)), (q_w, .inl (a 0, 578, .inl w))] H := hP
      replace hD : va_D A [(q_t, .inr (11, [.ref q_w, .ref q_isKept, .int t_all, .int t_corners, .int t_hearers, .int t_newAll, .int t_newCorners, .int t_newHearers, .ref q_beer, .ref q_cold, .ref q_stands, .ref q_pinched, .ref q_says, .ref q_text, .int t_textSize, .int t_at, .int t_first, .int t_faultOf, .int t_fault, .int t_spoke, .int t_holds, .int t_undoMany, .ref q_seenDecree, .ref q_seenAt, .ref q_seenSpoke, .int t_seen, .ref q_inSets, .ref q_book, .int t_written])), (q_pinched, .inl (a 0, 18, .inl pinched)), (q_says, .inl (a 0, 18, .inl says)), (q_w, .inl (a 0, 578, .inl w))] := hD
      refine lv_if_eq (tgt := 102) hx hb dX11_began_59 (by decide) (fun c6 => ?_) (fun c6 => ?_)
      · replace hf := o_ifp hf c6
        obtain ⟨v7, ev7⟩ : ∃ y : Int32, y = x8 + (1 : Int32) := ⟨_, rfl⟩
        replace hf := o_nmh hf v7 ev7
        refine lv_iinc (v := v7) (lv' := [(8, .int v7), (0, .ref q_t), (1, .int x1), (2, .int x2), (3, .int x3), (4, .int x4), (5, .int x5), (6, .int x6), (7, .int x7)]) hx hb dX11_began_102 hl (k := 8) rfl (by rw [ev7]; rfl) (by decide) rfl (fun ls hl => ?_)
        refine lv_goto (tgt := 44) hx hb dX11_began_105 (by decide) ?_
        exact ih_44 t_spoke t_holds w x1 x2 x3 x4 x5 x6 x7 v7 _ _ _ hf hP hD hS (lv_sub hl [1, 2, 3, 4, 5, 6, 7, 8, 0] rfl)
      replace hf := o_ifn hf c6
      refine lv_aload_n hx hb dX11_began_62 rfl (lv_at hl 0 rfl) ?_
      refine lv_iload hx hb dX11_began_63 (lv_at hl 8 rfl) ?_
      refine lv_iload_n hx hb dX11_began_65 rfl (lv_at hl 2 rfl) ?_
      refine lv_iload_n hx hb dX11_began_66 rfl (lv_at hl 3 rfl) ?_
      refine lv_iconst (v := (0 : Int32)) hx hb dX11_began_67 (by decide) ?_
      refine lv_iconst (v := (0 : Int32)) hx hb dX11_began_68 (by decide) ?_
      obtain ⟨o8, ho8, hf⟩ := o_bd hf
      refine call_iV (q0 := 0) (ci := 11) hX (c_X11_tryRound l D a t q_t q_w q_isKept t_all t_corners t_hearers t_newAll t_newCorners t_newHearers q_beer q_cold q_stands q_pinched q_says q_text t_textSize t_at t_first t_faultOf t_fault t_spoke t_holds t_undoMany q_seenDecree q_seenAt q_seenSpoke t_seen q_inSets q_book t_written pinched says w x8 x2 x3 (0 : Int32) (0 : Int32) o8.1 o8.2.1 o8.2.2.1 o8.2.2.2 ho8) (cwV 5 hts gX11_began_X11_tryRound rfl rfl rfl hdV_X11_tryRound ⟨by decide, by decide⟩) (Cut.of hA hP hD hS [0, 1, 2, 3] (by decide) rfl rfl (W' := [(q_t, .inr (11, [.ref q_w, .ref q_isKept, .int t_all, .int t_corners, .int t_hearers, .int t_newAll, .int t_newCorners, .int t_newHearers, .ref q_beer, .ref q_cold, .ref q_stands, .ref q_pinched, .ref q_says, .ref q_text, .int t_textSize, .int t_at, .int t_first, .int t_faultOf, .int t_fault, .int o8.2.1, .int o8.2.2.1, .int t_undoMany, .ref q_seenDecree, .ref q_seenAt, .ref q_seenSpoke, .int t_seen, .ref q_inSets, .ref q_book, .int t_written])), (q_pinched, .inl (a 0, 18, .inl pinched)), (q_says, .inl (a 0, 18, .inl says)), (q_w, .inl (a 0, 578, .inl o8.2.2.2))]) rfl) hS rfl rfl rfl hl.1 rfl (Nat.le_of_ble_eq_true rfl) dX11_began_69 (by decide) (fun H locs hP hD hS => ?_)
      replace hP : va_P D vwCl [(q_t, .inr (11, [.ref q_w, .ref q_isKept, .int t_all, .int t_corners, .int t_hearers, .int t_newAll, .int t_newCorners, .int t_newHearers, .ref q_beer, .ref q_cold, .ref q_stands, .ref q_pinched, .ref q_says, .ref q_text, .int t_textSize, .int t_at, .int t_first, .int t_faultOf, .int t_fault, .int o8.2.1, .int o8.2.2.1, .int t_undoMany, .ref q_seenDecree, .ref q_seenAt, .ref q_seenSpoke, .int t_seen, .ref q_inSets, .ref q_book, .int t_written])), (q_pinched, .inl (a 0, 18, .inl pinched)), (q_says, .inl (a 0, 18, .inl says)), (q_w, .inl (a 0, 578, .inl o8.2.2.2))] H := hP
      replace hD : va_D A [(q_t, .inr (11, [.ref q_w, .ref q_isKept, .int t_all, .int t_corners, .int t_hearers, .int t_newAll, .int t_newCorners, .int t_newHearers, .ref q_beer, .ref q_cold, .ref q_stands, .ref q_pinched, .ref q_says, .ref q_text, .int t_textSize, .int t_at, .int t_first, .int t_faultOf, .int t_fault, .int o8.2.1, .int o8.2.2.1, .int t_undoMany, .ref q_seenDecree, .ref q_seenAt, .ref q_seenSpoke, .int t_seen, .ref q_inSets, .ref q_book, .int t_written])), (q_pinched, .inl (a 0, 18, .inl pinched)), (q_says, .inl (a 0, 18, .inl says)), (q_w, .inl (a 0, 578, .inl o8.2.2.2))] := hD
      refine lv_iload_n hx hb dX11_began_72 rfl (lv_at hl 1 rfl) ?_
      refine lv_icmp_ne (tgt := 102) hx hb dX11_began_73 (by decide) (fun c9 => ?_) (fun c9 => ?_)
      · replace hf := o_ifn hf c9
        obtain ⟨v10, ev10⟩ : ∃ y : Int32, y = x8 + (1 : Int32) := ⟨_, rfl⟩
        replace hf := o_nmh hf v10 ev10
        refine lv_iinc (v := v10) (lv' := [(8, .int v10), (0, .ref q_t), (1, .int x1), (2, .int x2), (3, .int x3), (4, .int x4), (5, .int x5), (6, .int x6), (7, .int x7)]) hx hb dX11_began_102 hl (k := 8) rfl (by rw [ev10]; rfl) (by decide) rfl (fun ls hl => ?_)
        refine lv_goto (tgt := 44) hx hb dX11_began_105 (by decide) ?_
        exact ih_44 o8.2.1 o8.2.2.1 o8.2.2.2 x1 x2 x3 x4 x5 x6 x7 v10 _ _ _ hf hP hD hS (lv_sub hl [1, 2, 3, 4, 5, 6, 7, 8, 0] rfl)
      replace hf := o_ifp hf c9
      refine lv_iload hx hb dX11_began_76 (lv_at hl 5 rfl) ?_
      refine lv_iload hx hb dX11_began_78 (lv_at hl 4 rfl) ?_
      refine lv_icmp_ne (tgt := 88) hx hb dX11_began_80 (by decide) (fun c11 => ?_) (fun c11 => ?_)
      · replace hf := o_ifn hf c11
        refine lv_iload hx hb dX11_began_88 (lv_at hl 6 rfl) ?_
        refine lv_istore (lv' := [(6, .int x6), (0, .ref q_t), (1, .int x1), (2, .int x2), (3, .int x3), (4, .int x4), (5, .int x5), (7, .int x7), (8, .int x8)]) hx hb dX11_began_90 hl (by decide) rfl (fun ls hl => ?_)
        refine lv_iload hx hb dX11_began_92 (lv_at hl 7 rfl) ?_
        refine lv_iload hx hb dX11_began_94 (lv_at hl 8 rfl) ?_
        refine lv_iand hx hb dX11_began_96 ?_
        refine lv_topi (fun v12 ev12 => ?_)
        replace hf := o_nmh hf v12 ev12
        refine lv_istore (lv' := [(7, .int v12), (6, .int x6), (0, .ref q_t), (1, .int x1), (2, .int x2), (3, .int x3), (4, .int x4), (5, .int x5), (8, .int x8)]) hx hb dX11_began_97 hl (by decide) rfl (fun ls hl => ?_)
        obtain ⟨v13, ev13⟩ : ∃ y : Int32, y = x5 + (1 : Int32) := ⟨_, rfl⟩
        replace hf := o_nmh hf v13 ev13
        refine lv_iinc (v := v13) (lv' := [(5, .int v13), (7, .int v12), (6, .int x6), (0, .ref q_t), (1, .int x1), (2, .int x2), (3, .int x3), (4, .int x4), (8, .int x8)]) hx hb dX11_began_99 hl (k := 7) rfl (by rw [ev13]; rfl) (by decide) rfl (fun ls hl => ?_)
        obtain ⟨v14, ev14⟩ : ∃ y : Int32, y = x8 + (1 : Int32) := ⟨_, rfl⟩
        replace hf := o_nmh hf v14 ev14
        refine lv_iinc (v := v14) (lv' := [(8, .int v14), (5, .int v13), (7, .int v12), (6, .int x6), (0, .ref q_t), (1, .int x1), (2, .int x2), (3, .int x3), (4, .int x4)]) hx hb dX11_began_102 hl (k := 8) rfl (by rw [ev14]; rfl) (by decide) rfl (fun ls hl => ?_)
        refine lv_goto (tgt := 44) hx hb dX11_began_105 (by decide) ?_
        exact ih_44 o8.2.1 o8.2.2.1 o8.2.2.2 x1 x2 x3 x4 v13 x6 v12 v14 _ _ _ hf hP hD hS (lv_sub hl [4, 5, 6, 7, 8, 1, 3, 2, 0] rfl)
      replace hf := o_ifp hf c11
      refine lv_iload hx hb dX11_began_83 (lv_at hl 8 rfl) ?_
      refine lv_goto (tgt := 90) hx hb dX11_began_85 (by decide) ?_
      refine lv_istore (lv' := [(6, .int x8), (0, .ref q_t), (1, .int x1), (2, .int x2), (3, .int x3), (4, .int x4), (5, .int x5), (7, .int x7), (8, .int x8)]) hx hb dX11_began_90 hl (by decide) rfl (fun ls hl => ?_)
      refine lv_iload hx hb dX11_began_92 (lv_at hl 7 rfl) ?_
      refine lv_iload hx hb dX11_began_94 (lv_at hl 8 rfl) ?_
      refine lv_iand hx hb dX11_began_96 ?_
      refine lv_topi (fun v15 ev15 => ?_)
      replace hf := o_nmh hf v15 ev15
      refine lv_istore (lv' := [(7, .int v15), (6, .int x8), (0, .ref q_t), (1, .int x1), (2, .int x2), (3, .int x3), (4, .int x4), (5, .int x5), (8, .int x8)]) hx hb dX11_began_97 hl (by decide) rfl (fun ls hl => ?_)
      obtain ⟨v16, ev16⟩ : ∃ y : Int32, y = x5 + (1 : Int32) := ⟨_, rfl⟩
      replace hf := o_nmh hf v16 ev16
      refine lv_iinc (v := v16) (lv' := [(5, .int v16), (7, .int v15), (6, .int x8), (0, .ref q_t), (1, .int x1), (2, .int x2), (3, .int x3), (4, .int x4), (8, .int x8)]) hx hb dX11_began_99 hl (k := 7) rfl (by rw [ev16]; rfl) (by decide) rfl (fun ls hl => ?_)
      obtain ⟨v17, ev17⟩ : ∃ y : Int32, y = x8 + (1 : Int32) := ⟨_, rfl⟩
      replace hf := o_nmh hf v17 ev17
      refine lv_iinc (v := v17) (lv' := [(8, .int v17), (5, .int v16), (7, .int v15), (6, .int x8), (0, .ref q_t), (1, .int x1), (2, .int x2), (3, .int x3), (4, .int x4)]) hx hb dX11_began_102 hl (k := 8) rfl (by rw [ev17]; rfl) (by decide) rfl (fun ls hl => ?_)
      refine lv_goto (tgt := 44) hx hb dX11_began_105 (by decide) ?_
      exact ih_44 o8.2.1 o8.2.2.1 o8.2.2.2 x1 x2 x3 x4 v16 x8 v15 v17 _ _ _ hf hP hD hS (lv_sub hl [4, 5, 6, 7, 8, 1, 3, 2, 0] rfl)
  unfold f_X11_began at hf
  refine lv_aload_n hx hb dX11_began_0 rfl (lv_at hl 0 rfl) ?_
  refine lv_iload_n hx hb dX11_began_1 rfl (lv_at hl 1 rfl) ?_
  obtain ⟨o18, ho18, hf⟩ := o_bd hf
  refine call_iV (q0 := 0) (ci := 11) hX (c_X11_isDecree l D a t q_t q_w q_isKept t_all t_corners t_hearers t_newAll t_newCorners t_newHearers q_beer q_cold q_stands q_pinched q_says q_text t_textSize t_at t_first t_faultOf t_fault t_spoke t_holds t_undoMany q_seenDecree q_seenAt q_seenSpoke t_seen q_inSets q_book t_written x1 o18 ho18) (cwV 1 hts gX11_began_X11_isDecree rfl rfl rfl hdV_X11_isDecree ⟨by decide, by decide⟩) (Cut.of hA hP hD hS [0] (by decide) rfl rfl (W' := [(q_t, .inr (11, [.ref q_w, .ref q_isKept, .int t_all, .int t_corners, .int t_hearers, .int t_newAll, .int t_newCorners, .int t_newHearers, .ref q_beer, .ref q_cold, .ref q_stands, .ref q_pinched, .ref q_says, .ref q_text, .int t_textSize, .int t_at, .int t_first, .int t_faultOf, .int t_fault, .int t_spoke, .int t_holds, .int t_undoMany, .ref q_seenDecree, .ref q_seenAt, .ref q_seenSpoke, .int t_seen, .ref q_inSets, .ref q_book, .int t_written])), (q_pinched, .inl (a 0, 18, .inl pinched)), (q_says, .inl (a 0, 18, .inl says)), (q_w, .inl (a 0, 578, .inl w))]) rfl) hS rfl rfl rfl hl.1 rfl (Nat.le_of_ble_eq_true rfl) dX11_began_2 (by decide) (fun H locs hP hD hS => ?_)
  replace hP : va_P D vwCl [(q_t, .inr (11, [.ref q_w, .ref q_isKept, .int t_all, .int t_corners, .int t_hearers, .int t_newAll, .int t_newCorners, .int t_newHearers, .ref q_beer, .ref q_cold, .ref q_stands, .ref q_pinched, .ref q_says, .ref q_text, .int t_textSize, .int t_at, .int t_first, .int t_faultOf, .int t_fault, .int t_spoke, .int t_holds, .int t_undoMany, .ref q_seenDecree, .ref q_seenAt, .ref q_seenSpoke, .int t_seen, .ref q_inSets, .ref q_book, .int t_written])), (q_pinched, .inl (a 0, 18, .inl pinched)), (q_says, .inl (a 0, 18, .inl says)), (q_w, .inl (a 0, 578, .inl w))] H := hP
  replace hD : va_D A [(q_t, .inr (11, [.ref q_w, .ref q_isKept, .int t_all, .int t_corners, .int t_hearers, .int t_newAll, .int t_newCorners, .int t_newHearers, .ref q_beer, .ref q_cold, .ref q_stands, .ref q_pinched, .ref q_says, .ref q_text, .int t_textSize, .int t_at, .int t_first, .int t_faultOf, .int t_fault, .int t_spoke, .int t_holds, .int t_undoMany, .ref q_seenDecree, .ref q_seenAt, .ref q_seenSpoke, .int t_seen, .ref q_inSets, .ref q_book, .int t_written])), (q_pinched, .inl (a 0, 18, .inl pinched)), (q_says, .inl (a 0, 18, .inl says)), (q_w, .inl (a 0, 578, .inl w))] := hD
  refine lv_if_eq (tgt := 16) hx hb dX11_began_5 (by decide) (fun c19 => ?_) (fun c19 => ?_)
  · replace hf := o_ifp hf c19
    refine lv_ldc (v := (-1000000001 : Int32)) hx hb hown hk1 dX11_began_16 ?_
    cases hf
    exact hret _ _ _ _ (vp_nar_int _) hP hD hS dX11_began_18
  replace hf := o_ifn hf c19
  refine lv_aload_n hx hb dX11_began_8 rfl (lv_at hl 0 rfl) ?_
  refine lv_iload_n hx hb dX11_began_9 rfl (lv_at hl 2 rfl) ?_
  obtain ⟨o20, ho20, hf⟩ := o_bd hf
  refine call_iV (q0 := 0) (ci := 11) hX (c_X11_isCorner l D a t q_t q_w q_isKept t_all t_corners t_hearers t_newAll t_newCorners t_newHearers q_beer q_cold q_stands q_pinched q_says q_text t_textSize t_at t_first t_faultOf t_fault t_spoke t_holds t_undoMany q_seenDecree q_seenAt q_seenSpoke t_seen q_inSets q_book t_written x2 o20 ho20) (cwV 1 hts gX11_began_X11_isCorner rfl rfl rfl hdV_X11_isCorner ⟨by decide, by decide⟩) (Cut.of hA hP hD hS [0] (by decide) rfl rfl (W' := [(q_t, .inr (11, [.ref q_w, .ref q_isKept, .int t_all, .int t_corners, .int t_hearers, .int t_newAll, .int t_newCorners, .int t_newHearers, .ref q_beer, .ref q_cold, .ref q_stands, .ref q_pinched, .ref q_says, .ref q_text, .int t_textSize, .int t_at, .int t_first, .int t_faultOf, .int t_fault, .int t_spoke, .int t_holds, .int t_undoMany, .ref q_seenDecree, .ref q_seenAt, .ref q_seenSpoke, .int t_seen, .ref q_inSets, .ref q_book, .int t_written])), (q_pinched, .inl (a 0, 18, .inl pinched)), (q_says, .inl (a 0, 18, .inl says)), (q_w, .inl (a 0, 578, .inl w))]) rfl) hS rfl rfl rfl hl.1 rfl (Nat.le_of_ble_eq_true rfl) dX11_began_10 (by decide) (fun H locs hP hD hS => ?_)
  replace hP : va_P D vwCl [(q_t, .inr (11, [.ref q_w, .ref q_isKept, .int t_all, .int t_corners, .int t_hearers, .int t_newAll, .int t_newCorners, .int t_newHearers, .ref q_beer, .ref q_cold, .ref q_stands, .ref q_pinched, .ref q_says, .ref q_text, .int t_textSize, .int t_at, .int t_first, .int t_faultOf, .int t_fault, .int t_spoke, .int t_holds, .int t_undoMany, .ref q_seenDecree, .ref q_seenAt, .ref q_seenSpoke, .int t_seen, .ref q_inSets, .ref q_book, .int t_written])), (q_pinched, .inl (a 0, 18, .inl pinched)), (q_says, .inl (a 0, 18, .inl says)), (q_w, .inl (a 0, 578, .inl w))] H := hP
  replace hD : va_D A [(q_t, .inr (11, [.ref q_w, .ref q_isKept, .int t_all, .int t_corners, .int t_hearers, .int t_newAll, .int t_newCorners, .int t_newHearers, .ref q_beer, .ref q_cold, .ref q_stands, .ref q_pinched, .ref q_says, .ref q_text, .int t_textSize, .int t_at, .int t_first, .int t_faultOf, .int t_fault, .int t_spoke, .int t_holds, .int t_undoMany, .ref q_seenDecree, .ref q_seenAt, .ref q_seenSpoke, .int t_seen, .ref q_inSets, .ref q_book, .int t_written])), (q_pinched, .inl (a 0, 18, .inl pinched)), (q_says, .inl (a 0, 18, .inl says)), (q_w, .inl (a 0, 578, .inl w))] := hD
  refine lv_if_ne (tgt := 19) hx hb dX11_began_13 (by decide) (fun c21 => ?_) (fun c21 => ?_)
  · replace hf := o_ifn hf c21
    refine lv_iload_n hx hb dX11_began_19 rfl (lv_at hl 3 rfl) ?_
    obtain ⟨o22, ho22, hf⟩ := o_bd hf
    refine call_iS hX (c_X11_isWay l D a t x3 o22 ho22) (va_cwS 1 hts gX11_began_X11_isWay rfl rfl rfl hdS_X11_isWay ⟨by decide, by decide⟩) (Cut.none hA hP hD hS) hS rfl hl.1 rfl (Nat.le_of_ble_eq_true rfl) dX11_began_20 (by decide) (fun H locs hP hD hS => ?_)
    refine lv_if_ne (tgt := 29) hx hb dX11_began_23 (by decide) (fun c23 => ?_) (fun c23 => ?_)
    · replace hf := o_ifn hf c23
      refine lv_iconst (v := (0 : Int32)) hx hb dX11_began_29 (by decide) ?_
      refine lv_istore (lv' := [(5, .int (0 : Int32)), (0, .ref q_t), (1, .int x1), (2, .int x2), (3, .int x3), (4, .int x4)]) hx hb dX11_began_30 hl (by decide) rfl (fun ls hl => ?_)
      refine lv_iconst (v := (-1 : Int32)) hx hb dX11_began_32 (by decide) ?_
      refine lv_istore (lv' := [(6, .int (-1 : Int32)), (5, .int (0 : Int32)), (0, .ref q_t), (1, .int x1), (2, .int x2), (3, .int x3), (4, .int x4)]) hx hb dX11_began_33 hl (by decide) rfl (fun ls hl => ?_)
      refine lv_aload_n hx hb dX11_began_35 rfl (lv_at hl 2 rfl) ?_
      refine g_get hX hiX11 hP 0 rfl rfl 2 (by decide) hk3 rfl rfl dX11_began_36 ?_
      refine lv_istore (lv' := [(7, .int t_all), (6, .int (-1 : Int32)), (5, .int (0 : Int32)), (0, .ref q_t), (1, .int x1), (2, .int x2), (3, .int x3), (4, .int x4)]) hx hb dX11_began_39 hl (by decide) rfl (fun ls hl => ?_)
      refine lv_iconst (v := (0 : Int32)) hx hb dX11_began_41 (by decide) ?_
      refine lv_istore (lv' := [(8, .int (0 : Int32)), (7, .int t_all), (6, .int (-1 : Int32)), (5, .int (0 : Int32)), (0, .ref q_t), (1, .int x1), (2, .int x2), (3, .int x3), (4, .int x4)]) hx hb dX11_began_42 hl (by decide) rfl (fun ls hl => ?_)
      exact L_44 1000 t_spoke t_holds w x1 x2 x3 x4 (0 : Int32) (-1 : Int32) t_all (0 : Int32) _ _ _ hf hP hD hS (lv_sub hl [4, 5, 6, 7, 8, 3, 2, 1, 0] rfl)
    replace hf := o_ifp hf c23
    refine lv_ldc (v := (-1000000002 : Int32)) hx hb hown hk2 dX11_began_26 ?_
    cases hf
    exact hret _ _ _ _ (vp_nar_int _) hP hD hS dX11_began_28
  replace hf := o_ifp hf c21
  refine lv_ldc (v := (-1000000001 : Int32)) hx hb hown hk1 dX11_began_16 ?_
  cases hf
  exact hret _ _ _ _ (vp_nar_int _) hP hD hS dX11_began_18
def f_X11_canPass_4 (t_all : Int32) (t_hearers : Int32) (pinched : Nat → Int32) (w : Nat → Int32) : Nat → Int32 → Int32 → Int32 → Option (Int32)
  | 0, _, _, _ => none
  | n_4 + 1, x1, x2, x3 =>
    if t_all < x3 then ((o_zb x2).bind fun _ =>
    some x2)
    else (if x2 = 0 then ((f_X11_isDecree t_all x3).bind fun o3 =>
    if o3 = 0 then (o_nm (x3 + (1 : Int32)) fun v5 =>
    f_X11_canPass_4 t_all t_hearers pinched w n_4 x1 (0 : Int32) v5)
    else ((f_X11_speakers t_hearers pinched w (0 : Int32) x1 x3 (0 : Int32)).bind fun o6 =>
    (f_X11_ones o6).bind fun o7 =>
    (o_rm o7 (2 : Int32)).bind fun v8 =>
    if v8 = (1 : Int32) then (o_nm (x3 + (1 : Int32)) fun v11 =>
    f_X11_canPass_4 t_all t_hearers pinched w n_4 x1 (1 : Int32) v11)
    else (o_nm (x3 + (1 : Int32)) fun v10 =>
    f_X11_canPass_4 t_all t_hearers pinched w n_4 x1 (0 : Int32) v10)))
    else ((o_zb x2).bind fun _ =>
    some x2))
def f_X11_canPass (t_all : Int32) (t_hearers : Int32) (pinched : Nat → Int32) (w : Nat → Int32) (x1 : Int32) : Option (Int32) :=
  f_X11_canPass_4 t_all t_hearers pinched w 1000 x1 (0 : Int32) (0 : Int32)
theorem hdS_X11_canPass : yX11_canPass.cls ≠ "java/lang/invoke/MethodHandle" ∧ yX11_canPass.cls ≠ "java/lang/invoke/VarHandle" ∧ (parseMethodDescriptor yX11_canPass.desc).map (fun d => d.parameters.length) = some 1 := by decide +kernel
theorem hdV_X11_canPass : yX11_canPass.cls = RX11 ∧ yX11_canPass.cls ≠ "java/lang/invoke/MethodHandle" ∧ yX11_canPass.cls ≠ "java/lang/invoke/VarHandle" ∧ (parseMethodDescriptor yX11_canPass.desc).map (fun d => d.parameters.length) = some 1 := ⟨rfl, hdS_X11_canPass⟩
set_option maxHeartbeats 4000000 in
set_option maxRecDepth 100000 in
theorem c_X11_canPass (l : Launch) (D : va_G) (a : Nat → ClassId) (t : Nat) (q_t : Nat) (q_w : Nat) (q_isKept : Nat) (t_all : Int32) (t_corners : Int32) (t_hearers : Int32) (t_newAll : Int32) (t_newCorners : Int32) (t_newHearers : Int32) (q_beer : Nat) (q_cold : Nat) (q_stands : Nat) (q_pinched : Nat) (q_says : Nat) (q_text : Nat) (t_textSize : Int32) (t_at : Int32) (t_first : Int32) (t_faultOf : Int32) (t_fault : Int32) (t_spoke : Int32) (t_holds : Int32) (t_undoMany : Int32) (q_seenDecree : Nat) (q_seenAt : Nat) (q_seenSpoke : Nat) (t_seen : Int32) (q_inSets : Nat) (q_book : Nat) (t_written : Int32) (pinched : Nat → Int32) (w : Nat → Int32) (x1 : Int32) (r : Int32) (hf : f_X11_canPass t_all t_hearers pinched w x1 = some r) : Ki l yX11_canPass wsX11_canPass 3 72 D a t [.ref q_t, .int x1] [(q_t, .inr (11, [.ref q_w, .ref q_isKept, .int t_all, .int t_corners, .int t_hearers, .int t_newAll, .int t_newCorners, .int t_newHearers, .ref q_beer, .ref q_cold, .ref q_stands, .ref q_pinched, .ref q_says, .ref q_text, .int t_textSize, .int t_at, .int t_first, .int t_faultOf, .int t_fault, .int t_spoke, .int t_holds, .int t_undoMany, .ref q_seenDecree, .ref q_seenAt, .ref q_seenSpoke, .int t_seen, .ref q_inSets, .ref q_book, .int t_written])), (q_pinched, .inl (a 0, 18, .inl pinched)), (q_w, .inl (a 0, 578, .inl w))] [(q_t, .inr (11, [.ref q_w, .ref q_isKept, .int t_all, .int t_corners, .int t_hearers, .int t_newAll, .int t_newCorners, .int t_newHearers, .ref q_beer, .ref q_cold, .ref q_stands, .ref q_pinched, .ref q_says, .ref q_text, .int t_textSize, .int t_at, .int t_first, .int t_faultOf, .int t_fault, .int t_spoke, .int t_holds, .int t_undoMany, .ref q_seenDecree, .ref q_seenAt, .ref q_seenSpoke, .int t_seen, .ref q_inSets, .ref q_book, .int t_written])), (q_pinched, .inl (a 0, 18, .inl pinched)), (q_w, .inl (a 0, 578, .inl w))] r := by
  refine Ki.mk (cc := cX11_canPass) (nL := 4) (ty := .boolean) (own := RX11) (by decide) rfl rfl (Nat.le_of_ble_eq_true rfl) ?_
  intro p e s m args below meth c A Q ls hX hP hD hS hl hret
  have hx := hX.1.1
  have hb := hX.1.2.1
  have hown := hX.1.2.2.2.1
  have hts := hX.1.2.2.2.2
  have hN := hX.2.2.1
  have hA := hX.2.2.2.2
  have hl : lv_has ls 4 [(0, .ref q_t), (1, .int x1)] := hl
  have hk1 := hts (.fieldLink RX11 126 "GainsaidOnceModel" "all" "I") (List.mem_of_getElem? (i := 1) rfl)
  have hiX11 : ∀ w ∈ wsX110, w ∈ wsX11_canPass := (fun _ h => List.mem_cons_of_mem _ (List.mem_append_right _ h))
  have L_4 : ∀ (n_4 : Nat) (x1 : Int32) (x2 : Int32) (x3 : Int32) (H : Heap) (locs : List Loc) (ls : Array Slot), f_X11_canPass_4 t_all t_hearers pinched w n_4 x1 x2 x3 = some r → va_P D vwCl [(q_t, .inr (11, [.ref q_w, .ref q_isKept, .int t_all, .int t_corners, .int t_hearers, .int t_newAll, .int t_newCorners, .int t_newHearers, .ref q_beer, .ref q_cold, .ref q_stands, .ref q_pinched, .ref q_says, .ref q_text, .int t_textSize, .int t_at, .int t_first, .int t_faultOf, .int t_fault, .int t_spoke, .int t_holds, .int t_undoMany, .ref q_seenDecree, .ref q_seenAt, .ref q_seenSpoke, .int t_seen, .ref q_inSets, .ref q_book, .int t_written])), (q_pinched, .inl (a 0, 18, .inl pinched)), (q_w, .inl (a 0, 578, .inl w))] H → va_D A [(q_t, .inr (11, [.ref q_w, .ref q_isKept, .int t_all, .int t_corners, .int t_hearers, .int t_newAll, .int t_newCorners, .int t_newHearers, .ref q_beer, .ref q_cold, .ref q_stands, .ref q_pinched, .ref q_says, .ref q_text, .int t_textSize, .int t_at, .int t_first, .int t_faultOf, .int t_fault, .int t_spoke, .int t_holds, .int t_undoMany, .ref q_seenDecree, .ref q_seenAt, .ref q_seenSpoke, .int t_seen, .ref q_inSets, .ref q_book, .int t_written])), (q_pinched, .inl (a 0, 18, .inl pinched)), (q_w, .inl (a 0, 578, .inl w))] → va_S A s.heap H locs → lv_has ls 4 [(0, .ref q_t), (1, .int x1), (2, .int x2), (3, .int x3)] → W p l e { frames := 3, cells := 0, slots := 0, locals := 72 } s m args below meth c H locs 0 0 Q (F0 m 4 ls []) := by
    intro n_4
    induction n_4 with
    | zero => intro x1 x2 x3 H locs ls hf hP hD hS hl; rw [f_X11_canPass_4] at hf; cases hf
    | succ n_4 ih_4 =>
      intro x1 x2 x3 H locs ls hf hP hD hS hl
      rw [f_X11_canPass_4] at hf
      refine lv_iload_n hx hb dX11_canPass_4 rfl (lv_at hl 3 rfl) ?_
      refine lv_aload_n hx hb dX11_canPass_5 rfl (lv_at hl 0 rfl) ?_
      refine g_get hX hiX11 hP 0 rfl rfl 2 (by decide) hk1 rfl rfl dX11_canPass_6 ?_
      refine lv_icmp_gt (tgt := 53) hx hb dX11_canPass_9 (by decide) (fun c1 => ?_) (fun c1 => ?_)
      · replace hf := o_ifp hf c1
        refine lv_iload_n hx hb dX11_canPass_53 rfl (lv_at hl 2 rfl) ?_
        obtain ⟨hzb, hf⟩ := o_zbh hf
        cases hf
        exact hret _ _ _ _ hzb hP hD hS dX11_canPass_54
      replace hf := o_ifn hf c1
      refine lv_iload_n hx hb dX11_canPass_12 rfl (lv_at hl 2 rfl) ?_
      refine lv_if_ne (tgt := 53) hx hb dX11_canPass_13 (by decide) (fun c2 => ?_) (fun c2 => ?_)
      · replace hf := o_ifn hf c2
        refine lv_iload_n hx hb dX11_canPass_53 rfl (lv_at hl 2 rfl) ?_
        obtain ⟨hzb, hf⟩ := o_zbh hf
        cases hf
        exact hret _ _ _ _ hzb hP hD hS dX11_canPass_54
      replace hf := o_ifp hf c2
      refine lv_aload_n hx hb dX11_canPass_16 rfl (lv_at hl 0 rfl) ?_
      refine lv_iload_n hx hb dX11_canPass_17 rfl (lv_at hl 3 rfl) ?_
      obtain ⟨o3, ho3, hf⟩ := o_bd hf
      refine call_iV (q0 := 0) (ci := 11) hX (c_X11_isDecree l D a t q_t q_w q_isKept t_all t_corners t_hearers t_newAll t_newCorners t_newHearers q_beer q_cold q_stands q_pinched q_says q_text t_textSize t_at t_first t_faultOf t_fault t_spoke t_holds t_undoMany q_seenDecree q_seenAt q_seenSpoke t_seen q_inSets q_book t_written x3 o3 ho3) (cwV 1 hts gX11_canPass_X11_isDecree rfl rfl rfl hdV_X11_isDecree ⟨by decide, by decide⟩) (Cut.of hA hP hD hS [0] (by decide) rfl rfl (W' := [(q_t, .inr (11, [.ref q_w, .ref q_isKept, .int t_all, .int t_corners, .int t_hearers, .int t_newAll, .int t_newCorners, .int t_newHearers, .ref q_beer, .ref q_cold, .ref q_stands, .ref q_pinched, .ref q_says, .ref q_text, .int t_textSize, .int t_at, .int t_first, .int t_faultOf, .int t_fault, .int t_spoke, .int t_holds, .int t_undoMany, .ref q_seenDecree, .ref q_seenAt, .ref q_seenSpoke, .int t_seen, .ref q_inSets, .ref q_book, .int t_written])), (q_pinched, .inl (a 0, 18, .inl pinched)), (q_w, .inl (a 0, 578, .inl w))]) rfl) hS rfl rfl rfl hl.1 rfl (Nat.le_of_ble_eq_true rfl) dX11_canPass_18 (by decide) (fun H locs hP hD hS => ?_)
      replace hP : va_P D vwCl [(q_t, .inr (11, [.ref q_w, .ref q_isKept, .int t_all, .int t_corners, .int t_hearers, .int t_newAll, .int t_newCorners, .int t_newHearers, .ref q_beer, .ref q_cold, .ref q_stands, .ref q_pinched, .ref q_says, .ref q_text, .int t_textSize, .int t_at, .int t_first, .int t_faultOf, .int t_fault, .int t_spoke, .int t_holds, .int t_undoMany, .ref q_seenDecree, .ref q_seenAt, .ref q_seenSpoke, .int t_seen, .ref q_inSets, .ref q_book, .int t_written])), (q_pinched, .inl (a 0, 18, .inl pinched)), (q_w, .inl (a 0, 578, .inl w))] H := hP
      replace hD : va_D A [(q_t, .inr (11, [.ref q_w, .ref q_isKept, .int t_all, .int t_corners, .int t_hearers, .int t_newAll, .int t_newCorners, .int t_newHearers, .ref q_beer, .ref q_cold, .ref q_stands, .ref q_pinched, .ref q_says, .ref q_text, .int t_textSize, .int t_at, .int t_first, .int t_faultOf, .int t_fault, .int t_spoke, .int t_holds, .int t_undoMany, .ref q_seenDecree, .ref q_seenAt, .ref q_seenSpoke, .int t_seen, .ref q_inSets, .ref q_book, .int t_written])), (q_pinched, .inl (a 0, 18, .inl pinched)), (q_w, .inl (a 0, 578, .inl w))] := hD
      refine lv_if_eq (tgt := 45) hx hb dX11_canPass_21 (by decide) (fun c4 => ?_) (fun c4 => ?_)
      · replace hf := o_ifp hf c4
        refine lv_iconst (v := (0 : Int32)) hx hb dX11_canPass_45 (by decide) ?_
        refine lv_istore_n (lv' := [(2, .int (0 : Int32)), (0, .ref q_t), (1, .int x1), (3, .int x3)]) hx hb dX11_canPass_46 rfl hl (by decide) rfl (fun ls hl => ?_)
        obtain ⟨v5, ev5⟩ : ∃ y : Int32, y = x3 + (1 : Int32) := ⟨_, rfl⟩
        replace hf := o_nmh hf v5 ev5
        refine lv_iinc (v := v5) (lv' := [(3, .int v5), (2, .int (0 : Int32)), (0, .ref q_t), (1, .int x1)]) hx hb dX11_canPass_47 hl (k := 3) rfl (by rw [ev5]; rfl) (by decide) rfl (fun ls hl => ?_)
        refine lv_goto (tgt := 4) hx hb dX11_canPass_50 (by decide) ?_
        exact ih_4 x1 (0 : Int32) v5 _ _ _ hf hP hD hS (lv_sub hl [2, 3, 1, 0] rfl)
      replace hf := o_ifn hf c4
      refine lv_aload_n hx hb dX11_canPass_24 rfl (lv_at hl 0 rfl) ?_
      refine lv_iconst (v := (0 : Int32)) hx hb dX11_canPass_25 (by decide) ?_
      refine lv_iload_n hx hb dX11_canPass_26 rfl (lv_at hl 1 rfl) ?_
      refine lv_iload_n hx hb dX11_canPass_27 rfl (lv_at hl 3 rfl) ?_
      refine lv_iconst (v := (0 : Int32)) hx hb dX11_canPass_28 (by decide) ?_
      obtain ⟨o6, ho6, hf⟩ := o_bd hf
      refine call_iV (q0 := 0) (ci := 11) hX (c_X11_speakers l D a t q_t q_w q_isKept t_all t_corners t_hearers t_newAll t_newCorners t_newHearers q_beer q_cold q_stands q_pinched q_says q_text t_textSize t_at t_first t_faultOf t_fault t_spoke t_holds t_undoMany q_seenDecree q_seenAt q_seenSpoke t_seen q_inSets q_book t_written pinched w (0 : Int32) x1 x3 (0 : Int32) o6 ho6) (cwV 4 hts gX11_canPass_X11_speakers rfl rfl rfl hdV_X11_speakers ⟨by decide, by decide⟩) (Cut.of hA hP hD hS [0, 1, 2] (by decide) rfl rfl (W' := [(q_t, .inr (11, [.ref q_w, .ref q_isKept, .int t_all, .int t_corners, .int t_hearers, .int t_newAll, .int t_newCorners, .int t_newHearers, .ref q_beer, .ref q_cold, .ref q_stands, .ref q_pinched, .ref q_says, .ref q_text, .int t_textSize, .int t_at, .int t_first, .int t_faultOf, .int t_fault, .int t_spoke, .int t_holds, .int t_undoMany, .ref q_seenDecree, .ref q_seenAt, .ref q_seenSpoke, .int t_seen, .ref q_inSets, .ref q_book, .int t_written])), (q_pinched, .inl (a 0, 18, .inl pinched)), (q_w, .inl (a 0, 578, .inl w))]) rfl) hS rfl rfl rfl hl.1 rfl (Nat.le_of_ble_eq_true rfl) dX11_canPass_29 (by decide) (fun H locs hP hD hS => ?_)
      replace hP : va_P D vwCl [(q_t, .inr (11, [.ref q_w, .ref q_isKept, .int t_all, .int t_corners, .int t_hearers, .int t_newAll, .int t_newCorners, .int t_newHearers, .ref q_beer, .ref q_cold, .ref q_stands, .ref q_pinched, .ref q_says, .ref q_text, .int t_textSize, .int t_at, .int t_first, .int t_faultOf, .int t_fault, .int t_spoke, .int t_holds, .int t_undoMany, .ref q_seenDecree, .ref q_seenAt, .ref q_seenSpoke, .int t_seen, .ref q_inSets, .ref q_book, .int t_written])), (q_pinched, .inl (a 0, 18, .inl pinched)), (q_w, .inl (a 0, 578, .inl w))] H := hP
      replace hD : va_D A [(q_t, .inr (11, [.ref q_w, .ref q_isKept, .int t_all, .int t_corners, .int t_hearers, .int t_newAll, .int t_newCorners, .int t_newHearers, .ref q_beer, .ref q_cold, .ref q_stands, .ref q_pinched, .ref q_says, .ref q_text, .int t_textSize, .int t_at, .int t_first, .int t_faultOf, .int t_fault, .int t_spoke, .int t_holds, .int t_undoMany, .ref q_seenDecree, .ref q_seenAt, .ref q_seenSpoke, .int t_seen, .ref q_inSets, .ref q_book, .int t_written])), (q_pinched, .inl (a 0, 18, .inl pinched)), (q_w, .inl (a 0, 578, .inl w))] := hD
      obtain ⟨o7, ho7, hf⟩ := o_bd hf
      refine call_iS hX (c_X11_ones l D a t o6 o7 ho7) (va_cwS 1 hts gX11_canPass_X11_ones rfl rfl rfl hdS_X11_ones ⟨by decide, by decide⟩) (Cut.none hA hP hD hS) hS rfl hl.1 rfl (Nat.le_of_ble_eq_true rfl) dX11_canPass_32 (by decide) (fun H locs hP hD hS => ?_)
      refine lv_iconst (v := (2 : Int32)) hx hb dX11_canPass_35 (by decide) ?_
      obtain ⟨hzv8, hf⟩ := o_rmh hf
      refine lv_irem hx hb dX11_canPass_36 hzv8 ?_
      refine lv_topi (fun v8 ev8 => ?_)
      replace hf := hf v8 ev8
      refine lv_iconst (v := (1 : Int32)) hx hb dX11_canPass_37 (by decide) ?_
      refine lv_icmp_ne (tgt := 45) hx hb dX11_canPass_38 (by decide) (fun c9 => ?_) (fun c9 => ?_)
      · replace hf := o_ifn hf c9
        refine lv_iconst (v := (0 : Int32)) hx hb dX11_canPass_45 (by decide) ?_
        refine lv_istore_n (lv' := [(2, .int (0 : Int32)), (0, .ref q_t), (1, .int x1), (3, .int x3)]) hx hb dX11_canPass_46 rfl hl (by decide) rfl (fun ls hl => ?_)
        obtain ⟨v10, ev10⟩ : ∃ y : Int32, y = x3 + (1 : Int32) := ⟨_, rfl⟩
        replace hf := o_nmh hf v10 ev10
        refine lv_iinc (v := v10) (lv' := [(3, .int v10), (2, .int (0 : Int32)), (0, .ref q_t), (1, .int x1)]) hx hb dX11_canPass_47 hl (k := 3) rfl (by rw [ev10]; rfl) (by decide) rfl (fun ls hl => ?_)
        refine lv_goto (tgt := 4) hx hb dX11_canPass_50 (by decide) ?_
        exact ih_4 x1 (0 : Int32) v10 _ _ _ hf hP hD hS (lv_sub hl [2, 3, 1, 0] rfl)
      replace hf := o_ifp hf c9
      refine lv_iconst (v := (1 : Int32)) hx hb dX11_canPass_41 (by decide) ?_
      refine lv_goto (tgt := 46) hx hb dX11_canPass_42 (by decide) ?_
      refine lv_istore_n (lv' := [(2, .int (1 : Int32)), (0, .ref q_t), (1, .int x1), (3, .int x3)]) hx hb dX11_canPass_46 rfl hl (by decide) rfl (fun ls hl => ?_)
      obtain ⟨v11, ev11⟩ : ∃ y : Int32, y = x3 + (1 : Int32) := ⟨_, rfl⟩
      replace hf := o_nmh hf v11 ev11
      refine lv_iinc (v := v11) (lv' := [(3, .int v11), (2, .int (1 : Int32)), (0, .ref q_t), (1, .int x1)]) hx hb dX11_canPass_47 hl (k := 3) rfl (by rw [ev11]; rfl) (by decide) rfl (fun ls hl => ?_)
      refine lv_goto (tgt := 4) hx hb dX11_canPass_50 (by decide) ?_
      exact ih_4 x1 (1 : Int32) v11 _ _ _ hf hP hD hS (lv_sub hl [2, 3, 1, 0] rfl)
  unfold f_X11_canPass at hf
  refine lv_iconst (v := (0 : Int32)) hx hb dX11_canPass_0 (by decide) ?_
  refine lv_istore_n (lv' := [(2, .int (0 : Int32)), (0, .ref q_t), (1, .int x1)]) hx hb dX11_canPass_1 rfl hl (by decide) rfl (fun ls hl => ?_)
  refine lv_iconst (v := (0 : Int32)) hx hb dX11_canPass_2 (by decide) ?_
  refine lv_istore_n (lv' := [(3, .int (0 : Int32)), (2, .int (0 : Int32)), (0, .ref q_t), (1, .int x1)]) hx hb dX11_canPass_3 rfl hl (by decide) rfl (fun ls hl => ?_)
  exact L_4 1000 x1 (0 : Int32) (0 : Int32) _ _ _ hf hP hD hS (lv_sub hl [2, 3, 1, 0] rfl)
def f_X11_passed_4 (t_all : Int32) (t_corners : Int32) (t_hearers : Int32) (pinched : Nat → Int32) (w : Nat → Int32) : Nat → Int32 → Int32 → Option (Int32)
  | 0, _, _ => none
  | n_4 + 1, x1, x2 =>
    if t_corners ≤ x2 then (some x1)
    else ((f_X11_canPass t_all t_hearers pinched w x2).bind fun o2 =>
    (f_X11_one o2).bind fun o3 =>
    o_nm ((x1 ||| (o3 <<< (x2 &&& 31)))) fun v4 =>
    o_nm (x2 + (1 : Int32)) fun v5 =>
    f_X11_passed_4 t_all t_corners t_hearers pinched w n_4 v4 v5)
def f_X11_passed (t_all : Int32) (t_corners : Int32) (t_hearers : Int32) (pinched : Nat → Int32) (w : Nat → Int32) : Option (Int32) :=
  f_X11_passed_4 t_all t_corners t_hearers pinched w 1000 (0 : Int32) (0 : Int32)
theorem hdS_X11_passed : yX11_passed.cls ≠ "java/lang/invoke/MethodHandle" ∧ yX11_passed.cls ≠ "java/lang/invoke/VarHandle" ∧ (parseMethodDescriptor yX11_passed.desc).map (fun d => d.parameters.length) = some 0 := by decide +kernel
theorem hdV_X11_passed : yX11_passed.cls = RX11 ∧ yX11_passed.cls ≠ "java/lang/invoke/MethodHandle" ∧ yX11_passed.cls ≠ "java/lang/invoke/VarHandle" ∧ (parseMethodDescriptor yX11_passed.desc).map (fun d => d.parameters.length) = some 0 := ⟨rfl, hdS_X11_passed⟩
set_option maxHeartbeats 4000000 in
set_option maxRecDepth 100000 in
theorem c_X11_passed (l : Launch) (D : va_G) (a : Nat → ClassId) (t : Nat) (q_t : Nat) (q_w : Nat) (q_isKept : Nat) (t_all : Int32) (t_corners : Int32) (t_hearers : Int32) (t_newAll : Int32) (t_newCorners : Int32) (t_newHearers : Int32) (q_beer : Nat) (q_cold : Nat) (q_stands : Nat) (q_pinched : Nat) (q_says : Nat) (q_text : Nat) (t_textSize : Int32) (t_at : Int32) (t_first : Int32) (t_faultOf : Int32) (t_fault : Int32) (t_spoke : Int32) (t_holds : Int32) (t_undoMany : Int32) (q_seenDecree : Nat) (q_seenAt : Nat) (q_seenSpoke : Nat) (t_seen : Int32) (q_inSets : Nat) (q_book : Nat) (t_written : Int32) (pinched : Nat → Int32) (w : Nat → Int32) (r : Int32) (hf : f_X11_passed t_all t_corners t_hearers pinched w = some r) : Ki l yX11_passed wsX11_passed 4 95 D a t [.ref q_t] [(q_t, .inr (11, [.ref q_w, .ref q_isKept, .int t_all, .int t_corners, .int t_hearers, .int t_newAll, .int t_newCorners, .int t_newHearers, .ref q_beer, .ref q_cold, .ref q_stands, .ref q_pinched, .ref q_says, .ref q_text, .int t_textSize, .int t_at, .int t_first, .int t_faultOf, .int t_fault, .int t_spoke, .int t_holds, .int t_undoMany, .ref q_seenDecree, .ref q_seenAt, .ref q_seenSpoke, .int t_seen, .ref q_inSets, .ref q_book, .int t_written])), (q_pinched, .inl (a 0, 18, .inl pinched)), (q_w, .inl (a 0, 578, .inl w))] [(q_t, .inr (11, [.ref q_w, .ref q_isKept, .int t_all, .int t_corners, .int t_hearers, .int t_newAll, .int t_newCorners, .int t_newHearers, .ref q_beer, .ref q_cold, .ref q_stands, .ref q_pinched, .ref q_says, .ref q_text, .int t_textSize, .int t_at, .int t_first, .int t_faultOf, .int t_fault, .int t_spoke, .int t_holds, .int t_undoMany, .ref q_seenDecree, .ref q_seenAt, .ref q_seenSpoke, .int t_seen, .ref q_inSets, .ref q_book, .int t_written])), (q_pinched, .inl (a 0, 18, .inl pinched)), (q_w, .inl (a 0, 578, .inl w))] r := by
  refine Ki.mk (cc := cX11_passed) (nL := 3) (ty := .int) (own := RX11) (by decide) rfl rfl (Nat.le_of_ble_eq_true rfl) ?_
  intro p e s m args below meth c A Q ls hX hP hD hS hl hret
  have hx := hX.1.1
  have hb := hX.1.2.1
  have hown := hX.1.2.2.2.1
  have hts := hX.1.2.2.2.2
  have hN := hX.2.2.1
  have hA := hX.2.2.2.2
  have hl : lv_has ls 3 [(0, .ref q_t)] := hl
  have hk1 := hts (.fieldLink RX11 123 "GainsaidOnceModel" "corners" "I") (List.mem_of_getElem? (i := 1) rfl)
  have hiX11 : ∀ w ∈ wsX110, w ∈ wsX11_passed := (fun _ h => List.mem_cons_of_mem _ (List.mem_append_right _ h))
  have L_4 : ∀ (n_4 : Nat) (x1 : Int32) (x2 : Int32) (H : Heap) (locs : List Loc) (ls : Array Slot), f_X11_passed_4 t_all t_corners t_hearers pinched w n_4 x1 x2 = some r → va_P D vwCl [(q_t, .inr (11, [.ref q_w, .ref q_isKept, .int t_all, .int t_corners, .int t_hearers, .int t_newAll, .int t_newCorners, .int t_newHearers, .ref q_beer, .ref q_cold, .ref q_stands, .ref q_pinched, .ref q_says, .ref q_text, .int t_textSize, .int t_at, .int t_first, .int t_faultOf, .int t_fault, .int t_spoke, .int t_holds, .int t_undoMany, .ref q_seenDecree, .ref q_seenAt, .ref q_seenSpoke, .int t_seen, .ref q_inSets, .ref q_book, .int t_written])), (q_pinched, .inl (a 0, 18, .inl pinched)), (q_w, .inl (a 0, 578, .inl w))] H → va_D A [(q_t, .inr (11, [.ref q_w, .ref q_isKept, .int t_all, .int t_corners, .int t_hearers, .int t_newAll, .int t_newCorners, .int t_newHearers, .ref q_beer, .ref q_cold, .ref q_stands, .ref q_pinched, .ref q_says, .ref q_text, .int t_textSize, .int t_at, .int t_first, .int t_faultOf, .int t_fault, .int t_spoke, .int t_holds, .int t_undoMany, .ref q_seenDecree, .ref q_seenAt, .ref q_seenSpoke, .int t_seen, .ref q_inSets, .ref q_book, .int t_written])), (q_pinched, .inl (a 0, 18, .inl pinched)), (q_w, .inl (a 0, 578, .inl w))] → va_S A s.heap H locs → lv_has ls 3 [(0, .ref q_t), (1, .int x1), (2, .int x2)] → W p l e { frames := 4, cells := 0, slots := 0, locals := 95 } s m args below meth c H locs 0 0 Q (F0 m 4 ls []) := by
    intro n_4
    induction n_4 with
    | zero => intro x1 x2 H locs ls hf hP hD hS hl; rw [f_X11_passed_4] at hf; cases hf
    | succ n_4 ih_4 =>
      intro x1 x2 H locs ls hf hP hD hS hl
      rw [f_X11_passed_4] at hf
      refine lv_iload_n hx hb dX11_passed_4 rfl (lv_at hl 2 rfl) ?_
      refine lv_aload_n hx hb dX11_passed_5 rfl (lv_at hl 0 rfl) ?_
      refine g_get hX hiX11 hP 0 rfl rfl 3 (by decide) hk1 rfl rfl dX11_passed_6 ?_
      refine lv_icmp_ge (tgt := 31) hx hb dX11_passed_9 (by decide) (fun c1 => ?_) (fun c1 => ?_)
      · replace hf := o_ifp hf c1
        refine lv_iload_n hx hb dX11_passed_31 rfl (lv_at hl 1 rfl) ?_
        cases hf
        exact hret _ _ _ _ (vp_nar_int _) hP hD hS dX11_passed_32
      replace hf := o_ifn hf c1
      refine lv_iload_n hx hb dX11_passed_12 rfl (lv_at hl 1 rfl) ?_
      refine lv_aload_n hx hb dX11_passed_13 rfl (lv_at hl 0 rfl) ?_
      refine lv_iload_n hx hb dX11_passed_14 rfl (lv_at hl 2 rfl) ?_
      obtain ⟨o2, ho2, hf⟩ := o_bd hf
      refine call_iV (q0 := 0) (ci := 11) hX (c_X11_canPass l D a t q_t q_w q_isKept t_all t_corners t_hearers t_newAll t_newCorners t_newHearers q_beer q_cold q_stands q_pinched q_says q_text t_textSize t_at t_first t_faultOf t_fault t_spoke t_holds t_undoMany q_seenDecree q_seenAt q_seenSpoke t_seen q_inSets q_book t_written pinched w x2 o2 ho2) (cwV 1 hts gX11_passed_X11_canPass rfl rfl rfl hdV_X11_canPass ⟨by decide, by decide⟩) (Cut.of hA hP hD hS [0, 1, 2] (by decide) rfl rfl (W' := [(q_t, .inr (11, [.ref q_w, .ref q_isKept, .int t_all, .int t_corners, .int t_hearers, .int t_newAll, .int t_newCorners, .int t_newHearers, .ref q_beer, .ref q_cold, .ref q_stands, .ref q_pinched, .ref q_says, .ref q_text, .int t_textSize, .int t_at, .int t_first, .int t_faultOf, .int t_fault, .int t_spoke, .int t_holds, .int t_undoMany, .ref q_seenDecree, .ref q_seenAt, .ref q_seenSpoke, .int t_seen, .ref q_inSets, .ref q_book, .int t_written])), (q_pinched, .inl (a 0, 18, .inl pinched)), (q_w, .inl (a 0, 578, .inl w))]) rfl) hS rfl rfl rfl hl.1 rfl (Nat.le_of_ble_eq_true rfl) dX11_passed_15 (by decide) (fun H locs hP hD hS => ?_)
      replace hP : va_P D vwCl [(q_t, .inr (11, [.ref q_w, .ref q_isKept, .int t_all, .int t_corners, .int t_hearers, .int t_newAll, .int t_newCorners, .int t_newHearers, .ref q_beer, .ref q_cold, .ref q_stands, .ref q_pinched, .ref q_says, .ref q_text, .int t_textSize, .int t_at, .int t_first, .int t_faultOf, .int t_fault, .int t_spoke, .int t_holds, .int t_undoMany, .ref q_seenDecree, .ref q_seenAt, .ref q_seenSpoke, .int t_seen, .ref q_inSets, .ref q_book, .int t_written])), (q_pinched, .inl (a 0, 18, .inl pinched)), (q_w, .inl (a 0, 578, .inl w))] H := hP
      replace hD : va_D A [(q_t, .inr (11, [.ref q_w, .ref q_isKept, .int t_all, .int t_corners, .int t_hearers, .int t_newAll, .int t_newCorners, .int t_newHearers, .ref q_beer, .ref q_cold, .ref q_stands, .ref q_pinched, .ref q_says, .ref q_text, .int t_textSize, .int t_at, .int t_first, .int t_faultOf, .int t_fault, .int t_spoke, .int t_holds, .int t_undoMany, .ref q_seenDecree, .ref q_seenAt, .ref q_seenSpoke, .int t_seen, .ref q_inSets, .ref q_book, .int t_written])), (q_pinched, .inl (a 0, 18, .inl pinched)), (q_w, .inl (a 0, 578, .inl w))] := hD
      obtain ⟨o3, ho3, hf⟩ := o_bd hf
      refine call_iS hX (c_X11_one l D a t o2 o3 ho3) (va_cwS 1 hts gX11_passed_X11_one rfl rfl rfl hdS_X11_one ⟨by decide, by decide⟩) (Cut.none hA hP hD hS) hS rfl hl.1 rfl (Nat.le_of_ble_eq_true rfl) dX11_passed_18 (by decide) (fun H locs hP hD hS => ?_)
      refine lv_iload_n hx hb dX11_passed_21 rfl (lv_at hl 2 rfl) ?_
      refine lv_ishl hx hb dX11_passed_22 ?_
      refine lv_ior hx hb dX11_passed_23 ?_
      refine lv_topi (fun v4 ev4 => ?_)
      replace hf := o_nmh hf v4 ev4
      refine lv_istore_n (lv' := [(1, .int v4), (0, .ref q_t), (2, .int x2)]) hx hb dX11_passed_24 rfl hl (by decide) rfl (fun ls hl => ?_)
      obtain ⟨v5, ev5⟩ : ∃ y : Int32, y = x2 + (1 : Int32) := ⟨_, rfl⟩
      replace hf := o_nmh hf v5 ev5
      refine lv_iinc (v := v5) (lv' := [(2, .int v5), (1, .int v4), (0, .ref q_t)]) hx hb dX11_passed_25 hl (k := 2) rfl (by rw [ev5]; rfl) (by decide) rfl (fun ls hl => ?_)
      refine lv_goto (tgt := 4) hx hb dX11_passed_28 (by decide) ?_
      exact ih_4 v4 v5 _ _ _ hf hP hD hS (lv_sub hl [2, 1, 0] rfl)
  unfold f_X11_passed at hf
  refine lv_iconst (v := (0 : Int32)) hx hb dX11_passed_0 (by decide) ?_
  refine lv_istore_n (lv' := [(1, .int (0 : Int32)), (0, .ref q_t)]) hx hb dX11_passed_1 rfl hl (by decide) rfl (fun ls hl => ?_)
  refine lv_iconst (v := (0 : Int32)) hx hb dX11_passed_2 (by decide) ?_
  refine lv_istore_n (lv' := [(2, .int (0 : Int32)), (1, .int (0 : Int32)), (0, .ref q_t)]) hx hb dX11_passed_3 rfl hl (by decide) rfl (fun ls hl => ?_)
  exact L_4 1000 (0 : Int32) (0 : Int32) _ _ _ hf hP hD hS (lv_sub hl [2, 1, 0] rfl)
def f_X11_beerOf_4 (t_corners : Int32) (beer : Nat → Int32) : Nat → Int32 → Int32 → Int32 → Option (Int32)
  | 0, _, _, _ => none
  | n_4 + 1, x1, x2, x3 =>
    if t_corners ≤ x3 then (some x2)
    else ((f_X11_has x1 x3).bind fun o2 =>
    if o2 = 0 then (o_nm ((x2 + (0 : Int32))) fun v4 =>
    o_nm (x3 + (1 : Int32)) fun v5 =>
    f_X11_beerOf_4 t_corners beer n_4 x1 v4 v5)
    else ((o_ld beer 16 x3).bind fun v6 =>
    o_nm ((x2 + v6)) fun v7 =>
    o_nm (x3 + (1 : Int32)) fun v8 =>
    f_X11_beerOf_4 t_corners beer n_4 x1 v7 v8))
def f_X11_beerOf (t_corners : Int32) (beer : Nat → Int32) (x1 : Int32) : Option (Int32) :=
  f_X11_beerOf_4 t_corners beer 1000 x1 (0 : Int32) (0 : Int32)
theorem hdS_X11_beerOf : yX11_beerOf.cls ≠ "java/lang/invoke/MethodHandle" ∧ yX11_beerOf.cls ≠ "java/lang/invoke/VarHandle" ∧ (parseMethodDescriptor yX11_beerOf.desc).map (fun d => d.parameters.length) = some 1 := by decide +kernel
theorem hdV_X11_beerOf : yX11_beerOf.cls = RX11 ∧ yX11_beerOf.cls ≠ "java/lang/invoke/MethodHandle" ∧ yX11_beerOf.cls ≠ "java/lang/invoke/VarHandle" ∧ (parseMethodDescriptor yX11_beerOf.desc).map (fun d => d.parameters.length) = some 1 := ⟨rfl, hdS_X11_beerOf⟩
set_option maxHeartbeats 4000000 in
set_option maxRecDepth 100000 in
theorem c_X11_beerOf (l : Launch) (D : va_G) (a : Nat → ClassId) (t : Nat) (q_t : Nat) (q_w : Nat) (q_isKept : Nat) (t_all : Int32) (t_corners : Int32) (t_hearers : Int32) (t_newAll : Int32) (t_newCorners : Int32) (t_newHearers : Int32) (q_beer : Nat) (q_cold : Nat) (q_stands : Nat) (q_pinched : Nat) (q_says : Nat) (q_text : Nat) (t_textSize : Int32) (t_at : Int32) (t_first : Int32) (t_faultOf : Int32) (t_fault : Int32) (t_spoke : Int32) (t_holds : Int32) (t_undoMany : Int32) (q_seenDecree : Nat) (q_seenAt : Nat) (q_seenSpoke : Nat) (t_seen : Int32) (q_inSets : Nat) (q_book : Nat) (t_written : Int32) (beer : Nat → Int32) (x1 : Int32) (r : Int32) (hf : f_X11_beerOf t_corners beer x1 = some r) : Ki l yX11_beerOf wsX11_beerOf 1 21 D a t [.ref q_t, .int x1] [(q_t, .inr (11, [.ref q_w, .ref q_isKept, .int t_all, .int t_corners, .int t_hearers, .int t_newAll, .int t_newCorners, .int t_newHearers, .ref q_beer, .ref q_cold, .ref q_stands, .ref q_pinched, .ref q_says, .ref q_text, .int t_textSize, .int t_at, .int t_first, .int t_faultOf, .int t_fault, .int t_spoke, .int t_holds, .int t_undoMany, .ref q_seenDecree, .ref q_seenAt, .ref q_seenSpoke, .int t_seen, .ref q_inSets, .ref q_book, .int t_written])), (q_beer, .inl (a 0, 16, .inl beer))] [(q_t, .inr (11, [.ref q_w, .ref q_isKept, .int t_all, .int t_corners, .int t_hearers, .int t_newAll, .int t_newCorners, .int t_newHearers, .ref q_beer, .ref q_cold, .ref q_stands, .ref q_pinched, .ref q_says, .ref q_text, .int t_textSize, .int t_at, .int t_first, .int t_faultOf, .int t_fault, .int t_spoke, .int t_holds, .int t_undoMany, .ref q_seenDecree, .ref q_seenAt, .ref q_seenSpoke, .int t_seen, .ref q_inSets, .ref q_book, .int t_written])), (q_beer, .inl (a 0, 16, .inl beer))] r := by
  refine Ki.mk (cc := cX11_beerOf) (nL := 4) (ty := .int) (own := RX11) (by decide) rfl rfl (Nat.le_of_ble_eq_true rfl) ?_
  intro p e s m args below meth c A Q ls hX hP hD hS hl hret
  have hx := hX.1.1
  have hb := hX.1.2.1
  have hown := hX.1.2.2.2.1
  have hts := hX.1.2.2.2.2
  have hN := hX.2.2.1
  have hA := hX.2.2.2.2
  have hl : lv_has ls 4 [(0, .ref q_t), (1, .int x1)] := hl
  have hk1 := hts (.fieldLink RX11 123 "GainsaidOnceModel" "corners" "I") (List.mem_of_getElem? (i := 1) rfl)
  have hk2 := hts (.fieldLink RX11 17 "GainsaidOnceModel" "beer" "[I") (List.mem_of_getElem? (i := 2) rfl)
  have hiX11 : ∀ w ∈ wsX110, w ∈ wsX11_beerOf := (fun _ h => List.mem_cons_of_mem _ (List.mem_append_right _ h))
  have L_4 : ∀ (n_4 : Nat) (x1 : Int32) (x2 : Int32) (x3 : Int32) (H : Heap) (locs : List Loc) (ls : Array Slot), f_X11_beerOf_4 t_corners beer n_4 x1 x2 x3 = some r → va_P D vwCl [(q_t, .inr (11, [.ref q_w, .ref q_isKept, .int t_all, .int t_corners, .int t_hearers, .int t_newAll, .int t_newCorners, .int t_newHearers, .ref q_beer, .ref q_cold, .ref q_stands, .ref q_pinched, .ref q_says, .ref q_text, .int t_textSize, .int t_at, .int t_first, .int t_faultOf, .int t_fault, .int t_spoke, .int t_holds, .int t_undoMany, .ref q_seenDecree, .ref q_seenAt, .ref q_seenSpoke, .int t_seen, .ref q_inSets, .ref q_book, .int t_written])), (q_beer, .inl (a 0, 16, .inl beer))] H → va_D A [(q_t, .inr (11, [.ref q_w, .ref q_isKept, .int t_all, .int t_corners, .int t_hearers, .int t_newAll, .int t_newCorners, .int t_newHearers, .ref q_beer, .ref q_cold, .ref q_stands, .ref q_pinched, .ref q_says, .ref q_text, .int t_textSize, .int t_at, .int t_first, .int t_faultOf, .int t_fault, .int t_spoke, .int t_holds, .int t_undoMany, .ref q_seenDecree, .ref q_seenAt, .ref q_seenSpoke, .int t_seen, .ref q_inSets, .ref q_book, .int t_written])), (q_beer, .inl (a 0, 16, .inl beer))] → va_S A s.heap H locs → lv_has ls 4 [(0, .ref q_t), (1, .int x1), (2, .int x2), (3, .int x3)] → W p l e { frames := 1, cells := 0, slots := 0, locals := 21 } s m args below meth c H locs 0 0 Q (F0 m 4 ls []) := by
    intro n_4
    induction n_4 with
    | zero => intro x1 x2 x3 H locs ls hf hP hD hS hl; rw [f_X11_beerOf_4] at hf; cases hf
    | succ n_4 ih_4 =>
      intro x1 x2 x3 H locs ls hf hP hD hS hl
      rw [f_X11_beerOf_4] at hf
      refine lv_iload_n hx hb dX11_beerOf_4 rfl (lv_at hl 3 rfl) ?_
      refine lv_aload_n hx hb dX11_beerOf_5 rfl (lv_at hl 0 rfl) ?_
      refine g_get hX hiX11 hP 0 rfl rfl 3 (by decide) hk1 rfl rfl dX11_beerOf_6 ?_
      refine lv_icmp_ge (tgt := 39) hx hb dX11_beerOf_9 (by decide) (fun c1 => ?_) (fun c1 => ?_)
      · replace hf := o_ifp hf c1
        refine lv_iload_n hx hb dX11_beerOf_39 rfl (lv_at hl 2 rfl) ?_
        cases hf
        exact hret _ _ _ _ (vp_nar_int _) hP hD hS dX11_beerOf_40
      replace hf := o_ifn hf c1
      refine lv_iload_n hx hb dX11_beerOf_12 rfl (lv_at hl 2 rfl) ?_
      refine lv_iload_n hx hb dX11_beerOf_13 rfl (lv_at hl 1 rfl) ?_
      refine lv_iload_n hx hb dX11_beerOf_14 rfl (lv_at hl 3 rfl) ?_
      obtain ⟨o2, ho2, hf⟩ := o_bd hf
      refine call_iS hX (c_X11_has l D a t x1 x3 o2 ho2) (va_cwS 2 hts gX11_beerOf_X11_has rfl rfl rfl hdS_X11_has ⟨by decide, by decide⟩) (Cut.none hA hP hD hS) hS rfl hl.1 rfl (Nat.le_of_ble_eq_true rfl) dX11_beerOf_15 (by decide) (fun H locs hP hD hS => ?_)
      refine lv_if_eq (tgt := 30) hx hb dX11_beerOf_18 (by decide) (fun c3 => ?_) (fun c3 => ?_)
      · replace hf := o_ifp hf c3
        refine lv_iconst (v := (0 : Int32)) hx hb dX11_beerOf_30 (by decide) ?_
        refine lv_iadd hx hb dX11_beerOf_31 ?_
        refine lv_topi (fun v4 ev4 => ?_)
        replace hf := o_nmh hf v4 ev4
        refine lv_istore_n (lv' := [(2, .int v4), (0, .ref q_t), (1, .int x1), (3, .int x3)]) hx hb dX11_beerOf_32 rfl hl (by decide) rfl (fun ls hl => ?_)
        obtain ⟨v5, ev5⟩ : ∃ y : Int32, y = x3 + (1 : Int32) := ⟨_, rfl⟩
        replace hf := o_nmh hf v5 ev5
        refine lv_iinc (v := v5) (lv' := [(3, .int v5), (2, .int v4), (0, .ref q_t), (1, .int x1)]) hx hb dX11_beerOf_33 hl (k := 3) rfl (by rw [ev5]; rfl) (by decide) rfl (fun ls hl => ?_)
        refine lv_goto (tgt := 4) hx hb dX11_beerOf_36 (by decide) ?_
        exact ih_4 x1 v4 v5 _ _ _ hf hP hD hS (lv_sub hl [2, 3, 1, 0] rfl)
      replace hf := o_ifn hf c3
      refine lv_aload_n hx hb dX11_beerOf_21 rfl (lv_at hl 0 rfl) ?_
      refine g_get hX hiX11 hP 0 rfl rfl 8 (by decide) hk2 rfl rfl dX11_beerOf_22 ?_
      refine lv_iload_n hx hb dX11_beerOf_25 rfl (lv_at hl 3 rfl) ?_
      obtain ⟨hiv6, hf⟩ := o_ldh hf
      refine g_iald hX hP 1 rfl hiv6 dX11_beerOf_26 (fun v6 ev6 => ?_)
      replace hf := hf v6 ev6
      refine lv_goto (tgt := 31) hx hb dX11_beerOf_27 (by decide) ?_
      refine lv_iadd hx hb dX11_beerOf_31 ?_
      refine lv_topi (fun v7 ev7 => ?_)
      replace hf := o_nmh hf v7 ev7
      refine lv_istore_n (lv' := [(2, .int v7), (0, .ref q_t), (1, .int x1), (3, .int x3)]) hx hb dX11_beerOf_32 rfl hl (by decide) rfl (fun ls hl => ?_)
      obtain ⟨v8, ev8⟩ : ∃ y : Int32, y = x3 + (1 : Int32) := ⟨_, rfl⟩
      replace hf := o_nmh hf v8 ev8
      refine lv_iinc (v := v8) (lv' := [(3, .int v8), (2, .int v7), (0, .ref q_t), (1, .int x1)]) hx hb dX11_beerOf_33 hl (k := 3) rfl (by rw [ev8]; rfl) (by decide) rfl (fun ls hl => ?_)
      refine lv_goto (tgt := 4) hx hb dX11_beerOf_36 (by decide) ?_
      exact ih_4 x1 v7 v8 _ _ _ hf hP hD hS (lv_sub hl [2, 3, 1, 0] rfl)
  unfold f_X11_beerOf at hf
  refine lv_iconst (v := (0 : Int32)) hx hb dX11_beerOf_0 (by decide) ?_
  refine lv_istore_n (lv' := [(2, .int (0 : Int32)), (0, .ref q_t), (1, .int x1)]) hx hb dX11_beerOf_1 rfl hl (by decide) rfl (fun ls hl => ?_)
  refine lv_iconst (v := (0 : Int32)) hx hb dX11_beerOf_2 (by decide) ?_
  refine lv_istore_n (lv' := [(3, .int (0 : Int32)), (2, .int (0 : Int32)), (0, .ref q_t), (1, .int x1)]) hx hb dX11_beerOf_3 rfl hl (by decide) rfl (fun ls hl => ?_)
  exact L_4 1000 x1 (0 : Int32) (0 : Int32) _ _ _ hf hP hD hS (lv_sub hl [2, 3, 1, 0] rfl)
def f_X11_hired_122 (t_all : Int32) (t_corners : Int32) (t_hearers : Int32) (beer : Nat → Int32) (pinched : Nat → Int32) (says : Nat → Int32) (k_50 : Int32 → Int32 → (Nat → Int32) → Int32 → Int32 → Int32 → Int32 → Int32 → Int32 → Int32 → Option (Int32 × Int32 × Int32 × (Nat → Int32))) (t_spoke : Int32) (t_holds : Int32) (w : (Nat → Int32)) (x1 : Int32) (x2 : Int32) (x3 : Int32) (x4 : Int32) (x6 : Int32) (x7 : Int32) (x8 : Int32) (x10 : Int32) (s0 : Int32) : Option (Int32 × Int32 × Int32 × (Nat → Int32)) :=
  if x10 = 0 then (o_nm (x7 + (1 : Int32)) fun v2 =>
  k_50 t_spoke t_holds w x1 x2 x3 x4 s0 x6 v2)
  else (o_nm (x7 + (1 : Int32)) fun v3 =>
  k_50 t_spoke t_holds w x1 x2 x3 x4 s0 x8 v3)
def f_X11_hired_108 (t_all : Int32) (t_corners : Int32) (t_hearers : Int32) (beer : Nat → Int32) (pinched : Nat → Int32) (says : Nat → Int32) (k_50 : Int32 → Int32 → (Nat → Int32) → Int32 → Int32 → Int32 → Int32 → Int32 → Int32 → Int32 → Option (Int32 × Int32 × Int32 × (Nat → Int32))) (t_spoke : Int32) (t_holds : Int32) (w : (Nat → Int32)) (x1 : Int32) (x2 : Int32) (x3 : Int32) (x4 : Int32) (x5 : Int32) (x6 : Int32) (x7 : Int32) (x8 : Int32) (s0 : Int32) : Option (Int32 × Int32 × Int32 × (Nat → Int32)) :=
  if s0 = 0 then (f_X11_hired_122 t_all t_corners t_hearers beer pinched says k_50 t_spoke t_holds w x1 x2 x3 x4 x6 x7 x8 s0 x5)
  else (f_X11_hired_122 t_all t_corners t_hearers beer pinched says k_50 t_spoke t_holds w x1 x2 x3 x4 x6 x7 x8 s0 x7)
def f_X11_hired_50 (t_all : Int32) (t_corners : Int32) (t_hearers : Int32) (beer : Nat → Int32) (pinched : Nat → Int32) (says : Nat → Int32) : Nat → Int32 → Int32 → (Nat → Int32) → Int32 → Int32 → Int32 → Int32 → Int32 → Int32 → Int32 → Option (Int32 × Int32 × Int32 × (Nat → Int32))
  | 0, _, _, _, _, _, _, _, _, _, _ => none
  | n_50 + 1, t_spoke, t_holds, w, x1, x2, x3, x4, x5, x6, x7 =>
    if ((1 : Int32) <<< (t_corners &&& 31)) ≤ x7 then (if x5 = (-1 : Int32) then (some (x5, t_spoke, t_holds, w))
    else (if x4 = (1 : Int32) then (some (x5, t_spoke, t_holds, w))
    else (some (x6, t_spoke, t_holds, w))))
    else ((f_X11_beerOf t_corners beer x7).bind fun o8 =>
    if x6 ≤ o8 then (o_nm (x7 + (1 : Int32)) fun v10 =>
    f_X11_hired_50 t_all t_corners t_hearers beer pinched says n_50 t_spoke t_holds w x1 x2 x3 x4 x5 x6 v10)
    else ((f_X11_tryRound t_all t_corners t_hearers t_spoke t_holds pinched says w x1 x2 x3 x7 (0 : Int32)).bind fun o11 =>
    if o11.2.2.1 = (((1 : Int32) <<< (t_corners &&& 31)) - (1 : Int32)) then (f_X11_hired_108 t_all t_corners t_hearers beer pinched says (f_X11_hired_50 t_all t_corners t_hearers beer pinched says n_50) o11.2.1 o11.2.2.1 o11.2.2.2 x1 x2 x3 x4 x5 x6 x7 o8 (1 : Int32))
    else (f_X11_hired_108 t_all t_corners t_hearers beer pinched says (f_X11_hired_50 t_all t_corners t_hearers beer pinched says n_50) o11.2.1 o11.2.2.1 o11.2.2.2 x1 x2 x3 x4 x5 x6 x7 o8 (0 : Int32))))
def f_X11_hired (t_all : Int32) (t_corners : Int32) (t_hearers : Int32) (t_spoke : Int32) (t_holds : Int32) (beer : Nat → Int32) (pinched : Nat → Int32) (says : Nat → Int32) (w : Nat → Int32) (x1 : Int32) (x2 : Int32) (x3 : Int32) (x4 : Int32) : Option (Int32 × Int32 × Int32 × (Nat → Int32)) :=
  (f_X11_isDecree t_all x1).bind fun o13 =>
  if o13 = 0 then (some ((-1000000001 : Int32), t_spoke, t_holds, w))
  else ((f_X11_isCorner t_corners x2).bind fun o15 =>
  if o15 = 0 then (some ((-1000000001 : Int32), t_spoke, t_holds, w))
  else ((f_X11_isWay x3).bind fun o17 =>
  if o17 = 0 then (some ((-1000000002 : Int32), t_spoke, t_holds, w))
  else ((f_X11_in (Int32.toInt64 x4) (0 : Int64) (1 : Int64)).bind fun o19 =>
  if o19 = 0 then (some ((-1000000002 : Int32), t_spoke, t_holds, w))
  else (f_X11_hired_50 t_all t_corners t_hearers beer pinched says 1000 t_spoke t_holds w x1 x2 x3 x4 (-1 : Int32) (99999999 : Int32) (0 : Int32)))))
theorem hdS_X11_hired : yX11_hired.cls ≠ "java/lang/invoke/MethodHandle" ∧ yX11_hired.cls ≠ "java/lang/invoke/VarHandle" ∧ (parseMethodDescriptor yX11_hired.desc).map (fun d => d.parameters.length) = some 4 := by decide +kernel
theorem hdV_X11_hired : yX11_hired.cls = RX11 ∧ yX11_hired.cls ≠ "java/lang/invoke/MethodHandle" ∧ yX11_hired.cls ≠ "java/lang/invoke/VarHandle" ∧ (parseMethodDescriptor yX11_hired.desc).map (fun d => d.parameters.length) = some 4 := ⟨rfl, hdS_X11_hired⟩
set_option maxHeartbeats 4000000 in
set_option maxRecDepth 100000 in
theorem c_X11_hired (l : Launch) (D : va_G) (a : Nat → ClassId) (t : Nat) (q_t : Nat) (q_w : Nat) (q_isKept : Nat) (t_all : Int32) (t_corners : Int32) (t_hearers : Int32) (t_newAll : Int32) (t_newCorners : Int32) (t_newHearers : Int32) (q_beer : Nat) (q_cold : Nat) (q_stands : Nat) (q_pinched : Nat) (q_says : Nat) (q_text : Nat) (t_textSize : Int32) (t_at : Int32) (t_first : Int32) (t_faultOf : Int32) (t_fault : Int32) (t_spoke : Int32) (t_holds : Int32) (t_undoMany : Int32) (q_seenDecree : Nat) (q_seenAt : Nat) (q_seenSpoke : Nat) (t_seen : Int32) (q_inSets : Nat) (q_book : Nat) (t_written : Int32) (beer : Nat → Int32) (pinched : Nat → Int32) (says : Nat → Int32) (w : Nat → Int32) (x1 : Int32) (x2 : Int32) (x3 : Int32) (x4 : Int32) (r : Int32) (o_t_spoke : Int32) (o_t_holds : Int32) (o_w : Nat → Int32) (hf : f_X11_hired t_all t_corners t_hearers t_spoke t_holds beer pinched says w x1 x2 x3 x4 = some (r, o_t_spoke, o_t_holds, o_w)) : Ki l yX11_hired wsX11_hired 6 153 D a t [.ref q_t, .int x1, .int x2, .int x3, .int x4] [(q_t, .inr (11, [.ref q_w, .ref q_isKept, .int t_all, .int t_corners, .int t_hearers, .int t_newAll, .int t_newCorners, .int t_newHearers, .ref q_beer, .ref q_cold, .ref q_stands, .ref q_pinched, .ref q_says, .ref q_text, .int t_textSize, .int t_at, .int t_first, .int t_faultOf, .int t_fault, .int t_spoke, .int t_holds, .int t_undoMany, .ref q_seenDecree, .ref q_seenAt, .ref q_seenSpoke, .int t_seen, .ref q_inSets, .ref q_book, .int t_written])), (q_beer, .inl (a 0, 16, .inl beer)), (q_pinched, .inl (a 0, 18, .inl pinched)), (q_says, .inl (a 0, 18, .inl says)), (q_w, .inl (a 0, 578, .inl w))] [(q_t, .inr (11, [.ref q_w, .ref q_isKept, .int t_all, .int t_corners, .int t_hearers, .int t_newAll, .int t_newCorners, .int t_newHearers, .ref q_beer, .ref q_cold, .ref q_stands, .ref q_pinched, .ref q_says, .ref q_text, .int t_textSize, .int t_at, .int t_first, .int t_faultOf, .int t_fault, .int o_t_spoke, .int o_t_holds, .int t_undoMany, .ref q_seenDecree, .ref q_seenAt, .ref q_seenSpoke, .int t_seen, .ref q_inSets, .ref q_book, .int t_written])), (q_beer, .inl (a 0, 16, .inl beer)), (q_pinched, .inl (a 0, 18, .inl pinched)), (q_says, .inl (a 0, 18, .inl says)), (q_w, .inl (a 0, 578, .inl o_w))] r := by
  refine Ki.mk (cc := cX11_hired) (nL := 11) (ty := .int) (own := RX11) (by decide) rfl rfl (Nat.le_of_ble_eq_true rfl) ?_
  intro p e s m args below meth c A Q ls hX hP hD hS hl hret
  have hx := hX.1.1
  have hb := hX.1.2.1
  have hown := hX.1.2.2.2.1
  have hts := hX.1.2.2.2.2
  have hN := hX.2.2.1
  have hA := hX.2.2.2.2
  have hl : lv_has ls 11 [(0, .ref q_t), (1, .int x1), (2, .int x2), (3, .int x3), (4, .int x4)] := hl
  have hk1 := hts (.constant RX11 149 (-1000000001)) (List.mem_of_getElem? (i := 1) rfl)
  have hk2 := hts (.constant RX11 64 (-1000000002)) (List.mem_of_getElem? (i := 2) rfl)
  have hk3 := hts (.constant RX11 237 (99999999)) (List.mem_of_getElem? (i := 3) rfl)
  have hk4 := hts (.fieldLink RX11 123 "GainsaidOnceModel" "corners" "I") (List.mem_of_getElem? (i := 4) rfl)
  have hk5 := hts (.fieldLink RX11 170 "GainsaidOnceModel" "holds" "I") (List.mem_of_getElem? (i := 5) rfl)
  have hiX11 : ∀ w ∈ wsX110, w ∈ wsX11_hired := (fun _ h => List.mem_cons_of_mem _ (List.mem_append_right _ h))
  have L_50 : ∀ (n_50 : Nat) (t_spoke : Int32) (t_holds : Int32) (w : (Nat → Int32)) (x1 : Int32) (x2 : Int32) (x3 : Int32) (x4 : Int32) (x5 : Int32) (x6 : Int32) (x7 : Int32) (H : Heap) (locs : List Loc) (ls : Array Slot), f_X11_hired_50 t_all t_corners t_hearers beer pinched says n_50 t_spoke t_holds w x1 x2 x3 x4 x5 x6 x7 = some (r, o_t_spoke, o_t_holds, o_w) → va_P D vwCl [(q_t, .inr (11, [.ref q_w, .ref q_isKept, .int t_all, .int t_corners, .int t_hearers, .int t_newAll, .int t_newCorners, .int t_newHearers, .ref q_beer, .ref q_cold, .ref q_stands, .ref q_pinched, .ref q_says, .ref q_text, .int t_textSize, .int t_at, .int t_first, .int t_faultOf, .int t_fault, .int t_spoke, .int t_holds, .int t_undoMany, .ref q_seenDecree, .ref q_seenAt, .ref q_seenSpoke, .int t_seen, .ref q_inSets, .ref q_book, .int t_written])), (q_beer, .inl (a 0, 16, .inl beer)), (q_pinched, .inl (a 0, 18, .inl pinched)), (q_says, .inl (a 0, 18, .inl says)), (q_w, .inl (a 0, 578, .inl w))] H → va_D A [(q_t, .inr (11, [.ref q_w, .ref q_isKept, .int t_all, .int t_corners, .int t_hearers, .int t_newAll, .int t_newCorners, .int t_newHearers, .ref q_beer, .ref q_cold, .ref q_stands, .ref q_pinched, .ref q_says, .ref q_text, .int t_textSize, .int t_at, .int t_first, .int t_faultOf, .int t_fault, .int t_spoke, .int t_holds, .int t_undoMany, .ref q_seenDecree, .ref q_seenAt, .ref q_seenSpoke, .int t_seen, .ref q_inSets, .ref q_book, .int t_written])), (q_beer, .inl (a 0, 16, .inl beer)), (q_pinched, .inl (a 0, 18, .inl pinched)), (q_says, .inl (a 0, 18, .inl says)), (q_w, .inl (a 0, 578, .inl w))] → va_S A s.heap H locs → lv_has ls 11 [(0, .ref q_t), (1, .int x1), (2, .int x2), (3, .int x3), (4, .int x4), (5, .int x5), (6, .int x6), (7, .int x7)] → W p l e { frames := 6, cells := 0, slots := 0, locals := 153 } s m args below meth c H locs 0 0 Q (F0 m 50 ls []) := by
    intro n_50
    induction n_50 with
    | zero => intro t_spoke t_holds w x1 x2 x3 x4 x5 x6 x7 H locs ls hf hP hD hS hl; rw [f_X11_hired_50] at hf; cases hf
    | succ n_50 ih_50 =>
      have L_122 : ∀ (t_spoke : Int32) (t_holds : Int32) (w : (Nat → Int32)) (x1 : Int32) (x2 : Int32) (x3 : Int32) (x4 : Int32) (x6 : Int32) (x7 : Int32) (x8 : Int32) (x10 : Int32) (s0 : Int32) (H : Heap) (locs : List Loc) (ls : Array Slot), f_X11_hired_122 t_all t_corners t_hearers beer pinched says (f_X11_hired_50 t_all t_corners t_hearers beer pinched says n_50) t_spoke t_holds w x1 x2 x3 x4 x6 x7 x8 x10 s0 = some (r, o_t_spoke, o_t_holds, o_w) → va_P D vwCl [(q_t, .inr (11, [.ref q_w, .ref q_isKept, .int t_all, .int t_corners, .int t_hearers, .int t_newAll, .int t_newCorners, .int t_newHearers, .ref q_beer, .ref q_cold, .ref q_stands, .ref q_pinched, .ref q_says, .ref q_text, .int t_textSize, .int t_at, .int t_first, .int t_faultOf, .int t_fault, .int t_spoke, .int t_holds, .int t_undoMany, .ref q_seenDecree, .ref q_seenAt, .ref q_seenSpoke, .int t_seen, .ref q_inSets, .ref q_book, .int t_written])), (q_beer, .inl (a 0, 16, .inl beer)), (q_pinched, .inl (a 0, 18, .inl pinched)), (q_says, .inl (a 0, 18, .inl says)), (q_w, .inl (a 0, 578, .inl w))] H → va_D A [(q_t, .inr (11, [.ref q_w, .ref q_isKept, .int t_all, .int t_corners, .int t_hearers, .int t_newAll, .int t_newCorners, .int t_newHearers, .ref q_beer, .ref q_cold, .ref q_stands, .ref q_pinched, .ref q_says, .ref q_text, .int t_textSize, .int t_at, .int t_first, .int t_faultOf, .int t_fault, .int t_spoke, .int t_holds, .int t_undoMany, .ref q_seenDecree, .ref q_seenAt, .ref q_seenSpoke, .int t_seen, .ref q_inSets, .ref q_book, .int t_written])), (q_beer, .inl (a 0, 16, .inl beer)), (q_pinched, .inl (a 0, 18, .inl pinched)), (q_says, .inl (a 0, 18, .inl says)), (q_w, .inl (a 0, 578, .inl w))] → va_S A s.heap H locs → lv_has ls 11 [(0, .ref q_t), (1, .int x1), (2, .int x2), (3, .int x3), (4, .int x4), (6, .int x6), (7, .int x7), (8, .int x8), (10, .int x10)] → W p l e { frames := 6, cells := 0, slots := 0, locals := 153 } s m args below meth c H locs 0 0 Q (F0 m 122 ls [.int s0]) := by
        intro t_spoke t_holds w x1 x2 x3 x4 x6 x7 x8 x10 s0 H locs ls hf hP hD hS hl
        unfold f_X11_hired_122 at hf
        refine lv_istore (lv' := [(5, .int s0), (0, .ref q_t), (1, .int x1), (2, .int x2), (3, .int x3), (4, .int x4), (6, .int x6), (7, .int x7), (8, .int x8), (10, .int x10)]) hx hb dX11_hired_122 hl (by decide) rfl (fun ls hl => ?_)
        refine lv_iload hx hb dX11_hired_124 (lv_at hl 9 rfl) ?_
        refine lv_if_eq (tgt := 134) hx hb dX11_hired_126 (by decide) (fun c1 => ?_) (fun c1 => ?_)
        · replace hf := o_ifp hf c1
          refine lv_iload hx hb dX11_hired_134 (lv_at hl 6 rfl) ?_
          refine lv_istore (lv' := [(6, .int x6), (5, .int s0), (0, .ref q_t), (1, .int x1), (2, .int x2), (3, .int x3), (4, .int x4), (7, .int x7), (8, .int x8), (10, .int x10)]) hx hb dX11_hired_136 hl (by decide) rfl (fun ls hl => ?_)
          obtain ⟨v2, ev2⟩ : ∃ y : Int32, y = x7 + (1 : Int32) := ⟨_, rfl⟩
          replace hf := o_nmh hf v2 ev2
          refine lv_iinc (v := v2) (lv' := [(7, .int v2), (6, .int x6), (5, .int s0), (0, .ref q_t), (1, .int x1), (2, .int x2), (3, .int x3), (4, .int x4), (8, .int x8), (10, .int x10)]) hx hb dX11_hired_138 hl (k := 7) rfl (by rw [ev2]; rfl) (by decide) rfl (fun ls hl => ?_)
          refine lv_goto (tgt := 50) hx hb dX11_hired_141 (by decide) ?_
          exact ih_50 t_spoke t_holds w x1 x2 x3 x4 s0 x6 v2 _ _ _ hf hP hD hS (lv_sub hl [3, 4, 5, 6, 7, 2, 1, 0] rfl)
        replace hf := o_ifn hf c1
        refine lv_iload hx hb dX11_hired_129 (lv_at hl 8 rfl) ?_
        refine lv_goto (tgt := 136) hx hb dX11_hired_131 (by decide) ?_
        refine lv_istore (lv' := [(6, .int x8), (5, .int s0), (0, .ref q_t), (1, .int x1), (2, .int x2), (3, .int x3), (4, .int x4), (7, .int x7), (8, .int x8), (10, .int x10)]) hx hb dX11_hired_136 hl (by decide) rfl (fun ls hl => ?_)
        obtain ⟨v3, ev3⟩ : ∃ y : Int32, y = x7 + (1 : Int32) := ⟨_, rfl⟩
        replace hf := o_nmh hf v3 ev3
        refine lv_iinc (v := v3) (lv' := [(7, .int v3), (6, .int x8), (5, .int s0), (0, .ref q_t), (1, .int x1), (2, .int x2), (3, .int x3), (4, .int x4), (8, .int x8), (10, .int x10)]) hx hb dX11_hired_138 hl (k := 7) rfl (by rw [ev3]; rfl) (by decide) rfl (fun ls hl => ?_)
        refine lv_goto (tgt := 50) hx hb dX11_hired_141 (by decide) ?_
        exact ih_50 t_spoke t_holds w x1 x2 x3 x4 s0 x8 v3 _ _ _ hf hP hD hS (lv_sub hl [3, 4, 5, 6, 7, 2, 1, 0] rfl)
      have L_108 : ∀ (t_spoke : Int32) (t_holds : Int32) (w : (Nat → Int32)) (x1 : Int32) (x2 : Int32) (x3 : Int32) (x4 : Int32) (x5 : Int32) (x6 : Int32) (x7 : Int32) (x8 : Int32) (s0 : Int32) (H : Heap) (locs : List Loc) (ls : Array Slot), f_X11_hired_108 t_all t_corners t_hearers beer pinched says (f_X11_hired_50 t_all t_corners t_hearers beer pinched says n_50) t_spoke t_holds w x1 x2 x3 x4 x5 x6 x7 x8 s0 = some (r, o_t_spoke, o_t_holds, o_w) → va_P D vwCl [(q_t, .inr (11, [.ref q_w, .ref q_isKept, .int t_all, .int t_corners, .int t_hearers, .int t_newAll, .int t_newCorners, .int t_newHearers, .ref q_beer, .ref q_cold, .ref q_stands, .ref q_pinched, .ref q_says, .ref q_text, .int t_textSize, .int t_at, .int t_first, .int t_faultOf, .int t_fault, .int t_spoke, .int t_holds, .int t_undoMany, .ref q_seenDecree, .ref q_seenAt, .ref q_seenSpoke, .int t_seen, .ref q_inSets, .ref q_book, .int t_written])), (q_beer, .inl (a 0, 16, .inl beer)), (q_pinched, .inl (a 0, 18, .inl pinched)), (q_says, .inl (a 0, 18, .inl says)), (q_w, .inl (a 0, 578, .inl w))] H → va_D A [(q_t, .inr (11, [.ref q_w, .ref q_isKept, .int t_all, .int t_corners, .int t_hearers, .int t_newAll, .int t_newCorners, .int t_newHearers, .ref q_beer, .ref q_cold, .ref q_stands, .ref q_pinched, .ref q_says, .ref q_text, .int t_textSize, .int t_at, .int t_first, .int t_faultOf, .int t_fault, .int t_spoke, .int t_holds, .int t_undoMany, .ref q_seenDecree, .ref q_seenAt, .ref q_seenSpoke, .int t_seen, .ref q_inSets, .ref q_book, .int t_written])), (q_beer, .inl (a 0, 16, .inl beer)), (q_pinched, .inl (a 0, 18, .inl pinched)), (q_says, .inl (a 0, 18, .inl says)), (q_w, .inl (a 0, 578, .inl w))] → va_S A s.heap H locs → lv_has ls 11 [(0, .ref q_t), (1, .int x1), (2, .int x2), (3, .int x3), (4, .int x4), (5, .int x5), (6, .int x6), (7, .int x7), (8, .int x8)] → W p l e { frames := 6, cells := 0, slots := 0, locals := 153 } s m args below meth c H locs 0 0 Q (F0 m 108 ls [.int s0]) := by
        intro t_spoke t_holds w x1 x2 x3 x4 x5 x6 x7 x8 s0 H locs ls hf hP hD hS hl
        unfold f_X11_hired_108 at hf
        refine lv_istore (lv' := [(10, .int s0), (0, .ref q_t), (1, .int x1), (2, .int x2), (3, .int x3), (4, .int x4), (5, .int x5), (6, .int x6), (7, .int x7), (8, .int x8)]) hx hb dX11_hired_108 hl (by decide) rfl (fun ls hl => ?_)
        refine lv_iload hx hb dX11_hired_110 (lv_at hl 0 rfl) ?_
        refine lv_if_eq (tgt := 120) hx hb dX11_hired_112 (by decide) (fun c4 => ?_) (fun c4 => ?_)
        · replace hf := o_ifp hf c4
          refine lv_iload hx hb dX11_hired_120 (lv_at hl 6 rfl) ?_
          exact L_122 t_spoke t_holds w x1 x2 x3 x4 x6 x7 x8 s0 x5 _ _ _ hf hP hD hS (lv_sub hl [1, 2, 3, 4, 5, 7, 8, 9, 0] rfl)
        replace hf := o_ifn hf c4
        refine lv_iload hx hb dX11_hired_115 (lv_at hl 8 rfl) ?_
        refine lv_goto (tgt := 122) hx hb dX11_hired_117 (by decide) ?_
        exact L_122 t_spoke t_holds w x1 x2 x3 x4 x6 x7 x8 s0 x7 _ _ _ hf hP hD hS (lv_sub hl [1, 2, 3, 4, 5, 7, 8, 9, 0] rfl)
      intro t_spoke t_holds w x1 x2 x3 x4 x5 x6 x7 H locs ls hf hP hD hS hl
      rw [f_X11_hired_50] at hf
      refine lv_iload hx hb dX11_hired_50 (lv_at hl 7 rfl) ?_
      refine lv_iconst (v := (1 : Int32)) hx hb dX11_hired_52 (by decide) ?_
      refine lv_aload_n hx hb dX11_hired_53 rfl (lv_at hl 0 rfl) ?_
      refine g_get hX hiX11 hP 0 rfl rfl 3 (by decide) hk4 rfl rfl dX11_hired_54 ?_
      refine lv_ishl hx hb dX11_hired_57 ?_
      refine lv_icmp_ge (tgt := 144) hx hb dX11_hired_58 (by decide) (fun c5 => ?_) (fun c5 => ?_)
      · replace hf := o_ifp hf c5
        refine lv_iload hx hb dX11_hired_144 (lv_at hl 5 rfl) ?_
        refine lv_iconst (v := (-1 : Int32)) hx hb dX11_hired_146 (by decide) ?_
        refine lv_icmp_eq (tgt := 156) hx hb dX11_hired_147 (by decide) (fun c6 => ?_) (fun c6 => ?_)
        · replace hf := o_ifp hf c6
          refine lv_iload hx hb dX11_hired_156 (lv_at hl 5 rfl) ?_
          refine lv_goto (tgt := 163) hx hb dX11_hired_158 (by decide) ?_
          cases hf
          exact hret _ _ _ _ (vp_nar_int _) hP hD hS dX11_hired_163
        replace hf := o_ifn hf c6
        refine lv_iload hx hb dX11_hired_150 (lv_at hl 4 rfl) ?_
        refine lv_iconst (v := (1 : Int32)) hx hb dX11_hired_152 (by decide) ?_
        refine lv_icmp_ne (tgt := 161) hx hb dX11_hired_153 (by decide) (fun c7 => ?_) (fun c7 => ?_)
        · replace hf := o_ifn hf c7
          refine lv_iload hx hb dX11_hired_161 (lv_at hl 6 rfl) ?_
          cases hf
          exact hret _ _ _ _ (vp_nar_int _) hP hD hS dX11_hired_163
        replace hf := o_ifp hf c7
        refine lv_iload hx hb dX11_hired_156 (lv_at hl 5 rfl) ?_
        refine lv_goto (tgt := 163) hx hb dX11_hired_158 (by decide) ?_
        cases hf
        exact hret _ _ _ _ (vp_nar_int _) hP hD hS dX11_hired_163
      replace hf := o_ifn hf c5
      refine lv_aload_n hx hb dX11_hired_61 rfl (lv_at hl 0 rfl) ?_
      refine lv_iload hx hb dX11_hired_62 (lv_at hl 7 rfl) ?_
      obtain ⟨o8, ho8, hf⟩ := o_bd hf
      refine call_iV (q0 := 0) (ci := 11) hX (c_X11_beerOf l D a t q_t q_w q_isKept t_all t_corners t_hearers t_newAll t_newCorners t_newHearers q_beer q_cold q_stands q_pinched q_says q_text t_textSize t_at t_first t_faultOf t_fault t_spoke t_holds t_undoMany q_seenDecree q_seenAt q_seenSpoke t_seen q_inSets q_book t_written beer x7 o8 ho8) (cwV 1 hts gX11_hired_X11_beerOf rfl rfl rfl hdV_X11_beerOf ⟨by decide, by decide⟩) (Cut.of hA hP hD hS [0, 1] (by decide) rfl rfl (W' := [(q_t, .inr (11, [.ref q_w, .ref q_isKept, .int t_all, .int t_corners, .int t_hearers, .int t_newAll, .int t_newCorners, .int t_newHearers, .ref q_beer, .ref q_cold, .ref q_stands, .ref q_pinched, .ref q_says, .ref q_text, .int t_textSize, .int t_at, .int t_first, .int t_faultOf, .int t_fault, .int t_spoke, .int t_holds, .int t_undoMany, .ref q_seenDecree, .ref q_seenAt, .ref q_seenSpoke, .int t_seen, .ref q_inSets, .ref q_book, .int t_written])), (q_beer, .inl (a 0, 16, .inl beer)), (q_pinched, .inl (a 0, 18, .inl pinched)), (q_says, .inl (a 0, 18, .inl says)), (q_w, .inl (a 0, 578, .inl w))]) rfl) hS rfl rfl rfl hl.1 rfl (Nat.le_of_ble_eq_true rfl) dX11_hired_64 (by decide) (fun H locs hP hD hS => ?_)
      replace hP : va_P D vwCl [(q_t, .inr (11, [.ref q_w, .ref q_isKept, .int t_all, .int t_corners, .int t_hearers, .int t_newAll, .int t_newCorners, .int t_newHearers, .ref q_beer, .ref q_cold, .ref q_stands, .ref q_pinched, .ref q_says, .ref q_text, .int t_textSize, .int t_at, .int t_first, .int t_faultOf, .int t_fault, .int t_spoke, .int t_holds, .int t_undoMany, .ref q_seenDecree, .ref q_seenAt, .ref q_seenSpoke, .int t_seen, .ref q_inSets, .ref q_book, .int t_written])), (q_beer, .inl (a 0, 16, .inl beer)), (q_pinched, .inl (a 0, 18, .inl pinched)), (q_says, .inl (a 0, 18, .inl says)), (q_w, .inl (a 0, 578, .inl w))] H := hP
      replace hD : va_D A [(q_t, .inr (11, [.ref q_w, .ref q_isKept, .int t_all, .int t_corners, .int t_hearers, .int t_newAll, .int t_newCorners, .int t_newHearers, .ref q_beer, .ref q_cold, .ref q_stands, .ref q_pinched, .ref q_says, .ref q_text, .int t_textSize, .int t_at, .int t_first, .int t_faultOf, .int t_fault, .int t_spoke, .int t_holds, .int t_undoMany, .ref q_seenDecree, .ref q_seenAt, .ref q_seenSpoke, .int t_seen, .ref q_inSets, .ref q_book, .int t_written])), (q_beer, .inl (a 0, 16, .inl beer)), (q_pinched, .inl (a 0, 18, .inl pinched)), (q_says, .inl (a 0, 18, .inl says)), (q_w, .inl (a 0, 578, .inl w))] := hD
      refine lv_istore (lv' := [(8, .int o8), (0, .ref q_t), (1, .int x1), (2, .int x2), (3, .int x3), (4, .int x4), (5, .int x5), (6, .int x6), (7, .int x7)]) hx hb dX11_hired_67 hl (by decide) rfl (fun ls hl => ?_)
      refine lv_iload hx hb dX11_hired_69 (lv_at hl 0 rfl) ?_
      refine lv_iload hx hb dX11_hired_71 (lv_at hl 7 rfl) ?_
      refine lv_icmp_ge (tgt := 138) hx hb dX11_hired_73 (by decide) (fun c9 => ?_) (fun c9 => ?_)
      · replace hf := o_ifp hf c9
        obtain ⟨v10, ev10⟩ : ∃ y : Int32, y = x7 + (1 : Int32) := ⟨_, rfl⟩
        replace hf := o_nmh hf v10 ev10
        refine lv_iinc (v := v10) (lv' := [(7, .int v10), (8, .int o8), (0, .ref q_t), (1, .int x1), (2, .int x2), (3, .int x3), (4, .int x4), (5, .int x5), (6, .int x6)]) hx hb dX11_hired_138 hl (k := 8) rfl (by rw [ev10]; rfl) (by decide) rfl (fun ls hl => ?_)
        refine lv_goto (tgt := 50) hx hb dX11_hired_141 (by decide) ?_
        exact ih_50 t_spoke t_holds w x1 x2 x3 x4 x5 x6 v10 _ _ _ hf hP hD hS (lv_sub hl [2, 3, 4, 5, 6, 7, 8, 0] rfl)
      replace hf := o_ifn hf c9
      refine lv_aload_n hx hb dX11_hired_76 rfl (lv_at hl 1 rfl) ?_
      refine lv_iload_n hx hb dX11_hired_77 rfl (lv_at hl 2 rfl) ?_
      refine lv_iload_n hx hb dX11_hired_78 rfl (lv_at hl 3 rfl) ?_
      refine lv_iload_n hx hb dX11_hired_79 rfl (lv_at hl 4 rfl) ?_
      refine lv_iload hx hb dX11_hired_80 (lv_at hl 8 rfl) ?_
      refine lv_iconst (v := (0 : Int32)) hx hb dX11_hired_82 (by decide) ?_
      obtain ⟨o11, ho11, hf⟩ := o_bd hf
      refine call_iV (q0 := 0) (ci := 11) hX (c_X11_tryRound l D a t q_t q_w q_isKept t_all t_corners t_hearers t_newAll t_newCorners t_newHearers q_beer q_cold q_stands q_pinched q_says q_text t_textSize t_at t_first t_faultOf t_fault t_spoke t_holds t_undoMany q_seenDecree q_seenAt q_seenSpoke t_seen q_inSets q_book t_written pinched says w x1 x2 x3 x7 (0 : Int32) o11.1 o11.2.1 o11.2.2.1 o11.2.2.2 ho11) (cwV 5 hts gX11_hired_X11_tryRound rfl rfl rfl hdV_X11_tryRound ⟨by decide, by decide⟩) (Cut.of hA hP hD hS [0, 2, 3, 4] (by decide) rfl rfl (W' := [(q_t, .inr (11, [.ref q_w, .ref q_isKept, .int t_all, .int t_corners, .int t_hearers, .int t_newAll, .int t_newCorners, .int t_newHearers, .ref q_beer, .ref q_cold, .ref q_stands, .ref q_pinched, .ref q_says, .ref q_text, .int t_textSize, .int t_at, .int t_first, .int t_faultOf, .int t_fault, .int o11.2.1, .int o11.2.2.1, .int t_undoMany, .ref q_seenDecree, .ref q_seenAt, .ref q_seenSpoke, .int t_seen, .ref q_inSets, .ref q_book, .int t_written])), (q_beer, .inl (a 0, 16, .inl beer)), (q_pinched, .inl (a 0, 18, .inl pinched)), (q_says, .inl (a 0, 18, .inl says)), (q_w, .inl (a 0, 578, .inl o11.2.2.2))]) rfl) hS rfl rfl rfl hl.1 rfl (Nat.le_of_ble_eq_true rfl) dX11_hired_83 (by decide) (fun H locs hP hD hS => ?_)
      replace hP : va_P D vwCl [(q_t, .inr (11, [.ref q_w, .ref q_isKept, .int t_all, .int t_corners, .int t_hearers, .int t_newAll, .int t_newCorners, .int t_newHearers, .ref q_beer, .ref q_cold, .ref q_stands, .ref q_pinched, .ref q_says, .ref q_text, .int t_textSize, .int t_at, .int t_first, .int t_faultOf, .int t_fault, .int o11.2.1, .int o11.2.2.1, .int t_undoMany, .ref q_seenDecree, .ref q_seenAt, .ref q_seenSpoke, .int t_seen, .ref q_inSets, .ref q_book, .int t_written])), (q_beer, .inl (a 0, 16, .inl beer)), (q_pinched, .inl (a 0, 18, .inl pinched)), (q_says, .inl (a 0, 18, .inl says)), (q_w, .inl (a 0, 578, .inl o11.2.2.2))] H := hP
      replace hD : va_D A [(q_t, .inr (11, [.ref q_w, .ref q_isKept, .int t_all, .int t_corners, .int t_hearers, .int t_newAll, .int t_newCorners, .int t_newHearers, .ref q_beer, .ref q_cold, .ref q_stands, .ref q_pinched, .ref q_says, .ref q_text, .int t_textSize, .int t_at, .int t_first, .int t_faultOf, .int t_fault, .int o11.2.1, .int o11.2.2.1, .int t_undoMany, .ref q_seenDecree, .ref q_seenAt, .ref q_seenSpoke, .int t_seen, .ref q_inSets, .ref q_book, .int t_written])), (q_beer, .inl (a 0, 16, .inl beer)), (q_pinched, .inl (a 0, 18, .inl pinched)), (q_says, .inl (a 0, 18, .inl says)), (q_w, .inl (a 0, 578, .inl o11.2.2.2))] := hD
      refine lv_istore (lv' := [(9, .int o11.1), (8, .int o8), (0, .ref q_t), (1, .int x1), (2, .int x2), (3, .int x3), (4, .int x4), (5, .int x5), (6, .int x6), (7, .int x7)]) hx hb dX11_hired_86 hl (by decide) rfl (fun ls hl => ?_)
      refine lv_aload_n hx hb dX11_hired_88 rfl (lv_at hl 2 rfl) ?_
      refine g_get hX hiX11 hP 0 rfl rfl 20 (by decide) hk5 rfl rfl dX11_hired_89 ?_
      refine lv_iconst (v := (1 : Int32)) hx hb dX11_hired_92 (by decide) ?_
      refine lv_aload_n hx hb dX11_hired_93 rfl (lv_at hl 2 rfl) ?_
      refine g_get hX hiX11 hP 0 rfl rfl 3 (by decide) hk4 rfl rfl dX11_hired_94 ?_
      refine lv_ishl hx hb dX11_hired_97 ?_
      refine lv_iconst (v := (1 : Int32)) hx hb dX11_hired_98 (by decide) ?_
      refine lv_isub hx hb dX11_hired_99 ?_
      refine lv_icmp_ne (tgt := 107) hx hb dX11_hired_100 (by decide) (fun c12 => ?_) (fun c12 => ?_)
      · replace hf := o_ifn hf c12
        refine lv_iconst (v := (0 : Int32)) hx hb dX11_hired_107 (by decide) ?_
        exact L_108 o11.2.1 o11.2.2.1 o11.2.2.2 x1 x2 x3 x4 x5 x6 x7 o8 (0 : Int32) _ _ _ hf hP hD hS (lv_sub hl [2, 3, 4, 5, 6, 7, 8, 9, 1] rfl)
      replace hf := o_ifp hf c12
      refine lv_iconst (v := (1 : Int32)) hx hb dX11_hired_103 (by decide) ?_
      refine lv_goto (tgt := 108) hx hb dX11_hired_104 (by decide) ?_
      exact L_108 o11.2.1 o11.2.2.1 o11.2.2.2 x1 x2 x3 x4 x5 x6 x7 o8 (1 : Int32) _ _ _ hf hP hD hS (lv_sub hl [2, 3, 4, 5, 6, 7, 8, 9, 1] rfl)
  unfold f_X11_hired at hf
  refine lv_aload_n hx hb dX11_hired_0 rfl (lv_at hl 0 rfl) ?_
  refine lv_iload_n hx hb dX11_hired_1 rfl (lv_at hl 1 rfl) ?_
  obtain ⟨o13, ho13, hf⟩ := o_bd hf
  refine call_iV (q0 := 0) (ci := 11) hX (c_X11_isDecree l D a t q_t q_w q_isKept t_all t_corners t_hearers t_newAll t_newCorners t_newHearers q_beer q_cold q_stands q_pinched q_says q_text t_textSize t_at t_first t_faultOf t_fault t_spoke t_holds t_undoMany q_seenDecree q_seenAt q_seenSpoke t_seen q_inSets q_book t_written x1 o13 ho13) (cwV 1 hts gX11_hired_X11_isDecree rfl rfl rfl hdV_X11_isDecree ⟨by decide, by decide⟩) (Cut.of hA hP hD hS [0] (by decide) rfl rfl (W' := [(q_t, .inr (11, [.ref q_w, .ref q_isKept, .int t_all, .int t_corners, .int t_hearers, .int t_newAll, .int t_newCorners, .int t_newHearers, .ref q_beer, .ref q_cold, .ref q_stands, .ref q_pinched, .ref q_says, .ref q_text, .int t_textSize, .int t_at, .int t_first, .int t_faultOf, .int t_fault, .int t_spoke, .int t_holds, .int t_undoMany, .ref q_seenDecree, .ref q_seenAt, .ref q_seenSpoke, .int t_seen, .ref q_inSets, .ref q_book, .int t_written])), (q_beer, .inl (a 0, 16, .inl beer)), (q_pinched, .inl (a 0, 18, .inl pinched)), (q_says, .inl (a 0, 18, .inl says)), (q_w, .inl (a 0, 578, .inl w))]) rfl) hS rfl rfl rfl hl.1 rfl (Nat.le_of_ble_eq_true rfl) dX11_hired_2 (by decide) (fun H locs hP hD hS => ?_)
  replace hP : va_P D vwCl [(q_t, .inr (11, [.ref q_w, .ref q_isKept, .int t_all, .int t_corners, .int t_hearers, .int t_newAll, .int t_newCorners, .int t_newHearers, .ref q_beer, .ref q_cold, .ref q_stands, .ref q_pinched, .ref q_says, .ref q_text, .int t_textSize, .int t_at, .int t_first, .int t_faultOf, .int t_fault, .int t_spoke, .int t_holds, .int t_undoMany, .ref q_seenDecree, .ref q_seenAt, .ref q_seenSpoke, .int t_seen, .ref q_inSets, .ref q_book, .int t_written])), (q_beer, .inl (a 0, 16, .inl beer)), (q_pinched, .inl (a 0, 18, .inl pinched)), (q_says, .inl (a 0, 18, .inl says)), (q_w, .inl (a 0, 578, .inl w))] H := hP
  replace hD : va_D A [(q_t, .inr (11, [.ref q_w, .ref q_isKept, .int t_all, .int t_corners, .int t_hearers, .int t_newAll, .int t_newCorners, .int t_newHearers, .ref q_beer, .ref q_cold, .ref q_stands, .ref q_pinched, .ref q_says, .ref q_text, .int t_textSize, .int t_at, .int t_first, .int t_faultOf, .int t_fault, .int t_spoke, .int t_holds, .int t_undoMany, .ref q_seenDecree, .ref q_seenAt, .ref q_seenSpoke, .int t_seen, .ref q_inSets, .ref q_book, .int t_written])), (q_beer, .inl (a 0, 16, .inl beer)), (q_pinched, .inl (a 0, 18, .inl pinched)), (q_says, .inl (a 0, 18, .inl says)), (q_w, .inl (a 0, 578, .inl w))] := hD
  refine lv_if_eq (tgt := 16) hx hb dX11_hired_5 (by decide) (fun c14 => ?_) (fun c14 => ?_)
  · replace hf := o_ifp hf c14
    refine lv_ldc (v := (-1000000001 : Int32)) hx hb hown hk1 dX11_hired_16 ?_
    cases hf
    exact hret _ _ _ _ (vp_nar_int _) hP hD hS dX11_hired_18
  replace hf := o_ifn hf c14
  refine lv_aload_n hx hb dX11_hired_8 rfl (lv_at hl 0 rfl) ?_
  refine lv_iload_n hx hb dX11_hired_9 rfl (lv_at hl 2 rfl) ?_
  obtain ⟨o15, ho15, hf⟩ := o_bd hf
  refine call_iV (q0 := 0) (ci := 11) hX (c_X11_isCorner l D a t q_t q_w q_isKept t_all t_corners t_hearers t_newAll t_newCorners t_newHearers q_beer q_cold q_stands q_pinched q_says q_text t_textSize t_at t_first t_faultOf t_fault t_spoke t_holds t_undoMany q_seenDecree q_seenAt q_seenSpoke t_seen q_inSets q_book t_written x2 o15 ho15) (cwV 1 hts gX11_hired_X11_isCorner rfl rfl rfl hdV_X11_isCorner ⟨by decide, by decide⟩) (Cut.of hA hP hD hS [0] (by decide) rfl rfl (W' := [(q_t, .inr (11, [.ref q_w, .ref q_isKept, .int t_all, .int t_corners, .int t_hearers, .int t_newAll, .int t_newCorners, .int t_newHearers, .ref q_beer, .ref q_cold, .ref q_stands, .ref q_pinched, .ref q_says, .ref q_text, .int t_textSize, .int t_at, .int t_first, .int t_faultOf, .int t_fault, .int t_spoke, .int t_holds, .int t_undoMany, .ref q_seenDecree, .ref q_seenAt, .ref q_seenSpoke, .int t_seen, .ref q_inSets, .ref q_book, .int t_written])), (q_beer, .inl (a 0, 16, .inl beer)), (q_pinched, .inl (a 0, 18, .inl pinched)), (q_says, .inl (a 0, 18, .inl says)), (q_w, .inl (a 0, 578, .inl w))]) rfl) hS rfl rfl rfl hl.1 rfl (Nat.le_of_ble_eq_true rfl) dX11_hired_10 (by decide) (fun H locs hP hD hS => ?_)
  replace hP : va_P D vwCl [(q_t, .inr (11, [.ref q_w, .ref q_isKept, .int t_all, .int t_corners, .int t_hearers, .int t_newAll, .int t_newCorners, .int t_newHearers, .ref q_beer, .ref q_cold, .ref q_stands, .ref q_pinched, .ref q_says, .ref q_text, .int t_textSize, .int t_at, .int t_first, .int t_faultOf, .int t_fault, .int t_spoke, .int t_holds, .int t_undoMany, .ref q_seenDecree, .ref q_seenAt, .ref q_seenSpoke, .int t_seen, .ref q_inSets, .ref q_book, .int t_written])), (q_beer, .inl (a 0, 16, .inl beer)), (q_pinched, .inl (a 0, 18, .inl pinched)), (q_says, .inl (a 0, 18, .inl says)), (q_w, .inl (a 0, 578, .inl w))] H := hP
  replace hD : va_D A [(q_t, .inr (11, [.ref q_w, .ref q_isKept, .int t_all, .int t_corners, .int t_hearers, .int t_newAll, .int t_newCorners, .int t_newHearers, .ref q_beer, .ref q_cold, .ref q_stands, .ref q_pinched, .ref q_says, .ref q_text, .int t_textSize, .int t_at, .int t_first, .int t_faultOf, .int t_fault, .int t_spoke, .int t_holds, .int t_undoMany, .ref q_seenDecree, .ref q_seenAt, .ref q_seenSpoke, .int t_seen, .ref q_inSets, .ref q_book, .int t_written])), (q_beer, .inl (a 0, 16, .inl beer)), (q_pinched, .inl (a 0, 18, .inl pinched)), (q_says, .inl (a 0, 18, .inl says)), (q_w, .inl (a 0, 578, .inl w))] := hD
  refine lv_if_ne (tgt := 19) hx hb dX11_hired_13 (by decide) (fun c16 => ?_) (fun c16 => ?_)
  · replace hf := o_ifn hf c16
    refine lv_iload_n hx hb dX11_hired_19 rfl (lv_at hl 3 rfl) ?_
    obtain ⟨o17, ho17, hf⟩ := o_bd hf
    refine call_iS hX (c_X11_isWay l D a t x3 o17 ho17) (va_cwS 1 hts gX11_hired_X11_isWay rfl rfl rfl hdS_X11_isWay ⟨by decide, by decide⟩) (Cut.none hA hP hD hS) hS rfl hl.1 rfl (Nat.le_of_ble_eq_true rfl) dX11_hired_20 (by decide) (fun H locs hP hD hS => ?_)
    refine lv_if_eq (tgt := 37) hx hb dX11_hired_23 (by decide) (fun c18 => ?_) (fun c18 => ?_)
    · replace hf := o_ifp hf c18
      refine lv_ldc (v := (-1000000002 : Int32)) hx hb hown hk2 dX11_hired_37 ?_
      cases hf
      exact hret _ _ _ _ (vp_nar_int _) hP hD hS dX11_hired_39
    replace hf := o_ifn hf c18
    refine lv_iload hx hb dX11_hired_26 (lv_at hl 4 rfl) ?_
    refine lv_i2l (v := Int32.toInt64 x4) hx hb dX11_hired_28 rfl ?_
    refine lv_lconst (v := (0 : Int64)) hx hb dX11_hired_29 (by decide) ?_
    refine lv_lconst (v := (1 : Int64)) hx hb dX11_hired_30 (by decide) ?_
    obtain ⟨o19, ho19, hf⟩ := o_bd hf
    refine call_iS hX (c_X11_in l D a t (Int32.toInt64 x4) (0 : Int64) (1 : Int64) o19 ho19) (va_cwS 3 hts gX11_hired_X11_in rfl rfl rfl hdS_X11_in ⟨by decide, by decide⟩) (Cut.none hA hP hD hS) hS rfl hl.1 rfl (Nat.le_of_ble_eq_true rfl) dX11_hired_31 (by decide) (fun H locs hP hD hS => ?_)
    refine lv_if_ne (tgt := 40) hx hb dX11_hired_34 (by decide) (fun c20 => ?_) (fun c20 => ?_)
    · replace hf := o_ifn hf c20
      refine lv_iconst (v := (-1 : Int32)) hx hb dX11_hired_40 (by decide) ?_
      refine lv_istore (lv' := [(5, .int (-1 : Int32)), (0, .ref q_t), (1, .int x1), (2, .int x2), (3, .int x3), (4, .int x4)]) hx hb dX11_hired_41 hl (by decide) rfl (fun ls hl => ?_)
      refine lv_ldc (v := (99999999 : Int32)) hx hb hown hk3 dX11_hired_43 ?_
      refine lv_istore (lv' := [(6, .int (99999999 : Int32)), (5, .int (-1 : Int32)), (0, .ref q_t), (1, .int x1), (2, .int x2), (3, .int x3), (4, .int x4)]) hx hb dX11_hired_45 hl (by decide) rfl (fun ls hl => ?_)
      refine lv_iconst (v := (0 : Int32)) hx hb dX11_hired_47 (by decide) ?_
      refine lv_istore (lv' := [(7, .int (0 : Int32)), (6, .int (99999999 : Int32)), (5, .int (-1 : Int32)), (0, .ref q_t), (1, .int x1), (2, .int x2), (3, .int x3), (4, .int x4)]) hx hb dX11_hired_48 hl (by decide) rfl (fun ls hl => ?_)
      exact L_50 1000 t_spoke t_holds w x1 x2 x3 x4 (-1 : Int32) (99999999 : Int32) (0 : Int32) _ _ _ hf hP hD hS (lv_sub hl [3, 4, 5, 6, 7, 2, 1, 0] rfl)
    replace hf := o_ifp hf c20
    refine lv_ldc (v := (-1000000002 : Int32)) hx hb hown hk2 dX11_hired_37 ?_
    cases hf
    exact hret _ _ _ _ (vp_nar_int _) hP hD hS dX11_hired_39
  replace hf := o_ifp hf c16
  refine lv_ldc (v := (-1000000001 : Int32)) hx hb hown hk1 dX11_hired_16 ?_
  cases hf
  exact hret _ _ _ _ (vp_nar_int _) hP hD hS dX11_hired_18
def f_X11_spoilt_123 (t_all : Int32) (t_corners : Int32) (t_hearers : Int32) (pinched : Nat → Int32) (says : Nat → Int32) (k_66 : Int32 → Int32 → (Nat → Int32) → Int32 → Int32 → Int32 → Int32 → Int32 → Int32 → Int32 → Option (Int32 × Int32 × Int32 × (Nat → Int32))) (t_spoke : Int32) (t_holds : Int32) (w : (Nat → Int32)) (x1 : Int32) (x2 : Int32) (x3 : Int32) (x4 : Int32) (x7 : Int32) (x8 : Int32) (s0 : Int32) : Option (Int32 × Int32 × Int32 × (Nat → Int32)) :=
  (f_X11_ones t_holds).bind fun o1 =>
  if x7 ≤ o1 then (o_nm (x8 + (1 : Int32)) fun v3 =>
  k_66 t_spoke t_holds w x1 x2 x3 x4 s0 x7 v3)
  else ((f_X11_ones t_holds).bind fun o4 =>
  o_nm (x8 + (1 : Int32)) fun v5 =>
  k_66 t_spoke t_holds w x1 x2 x3 x4 s0 o4 v5)
def f_X11_spoilt_66 (t_all : Int32) (t_corners : Int32) (t_hearers : Int32) (pinched : Nat → Int32) (says : Nat → Int32) : Nat → Int32 → Int32 → (Nat → Int32) → Int32 → Int32 → Int32 → Int32 → Int32 → Int32 → Int32 → Option (Int32 × Int32 × Int32 × (Nat → Int32))
  | 0, _, _, _, _, _, _, _, _, _, _ => none
  | n_66 + 1, t_spoke, t_holds, w, x1, x2, x3, x4, x5, x7, x8 =>
    if t_hearers ≤ x8 then (if x4 = 0 then (some (x7, t_spoke, t_holds, w))
    else (some (x5, t_spoke, t_holds, w)))
    else ((o_ld w 578 (10 : Int32)).bind fun v8 =>
    (f_X11_has v8 x8).bind fun o9 =>
    if o9 = 0 then ((f_X11_tryRound t_all t_corners t_hearers t_spoke t_holds pinched says w x1 x2 x3 (0 : Int32) ((1 : Int32) <<< (x8 &&& 31))).bind fun o12 =>
    (f_X11_ones o12.2.2.1).bind fun o13 =>
    if x7 ≤ o13 then (f_X11_spoilt_123 t_all t_corners t_hearers pinched says (f_X11_spoilt_66 t_all t_corners t_hearers pinched says n_66) o12.2.1 o12.2.2.1 o12.2.2.2 x1 x2 x3 x4 x7 x8 x5)
    else (f_X11_spoilt_123 t_all t_corners t_hearers pinched says (f_X11_spoilt_66 t_all t_corners t_hearers pinched says n_66) o12.2.1 o12.2.2.1 o12.2.2.2 x1 x2 x3 x4 x7 x8 x8))
    else (o_nm (x8 + (1 : Int32)) fun v11 =>
    f_X11_spoilt_66 t_all t_corners t_hearers pinched says n_66 t_spoke t_holds w x1 x2 x3 x4 x5 x7 v11))
def f_X11_spoilt (t_all : Int32) (t_corners : Int32) (t_hearers : Int32) (t_spoke : Int32) (t_holds : Int32) (pinched : Nat → Int32) (says : Nat → Int32) (w : Nat → Int32) (x1 : Int32) (x2 : Int32) (x3 : Int32) (x4 : Int32) : Option (Int32 × Int32 × Int32 × (Nat → Int32)) :=
  (f_X11_isDecree t_all x1).bind fun o15 =>
  if o15 = 0 then (some ((-1000000001 : Int32), t_spoke, t_holds, w))
  else ((f_X11_isCorner t_corners x2).bind fun o17 =>
  if o17 = 0 then (some ((-1000000001 : Int32), t_spoke, t_holds, w))
  else ((f_X11_isWay x3).bind fun o19 =>
  if o19 = 0 then (some ((-1000000002 : Int32), t_spoke, t_holds, w))
  else ((f_X11_in (Int32.toInt64 x4) (0 : Int64) (1 : Int64)).bind fun o21 =>
  if o21 = 0 then (some ((-1000000002 : Int32), t_spoke, t_holds, w))
  else ((f_X11_tryRound t_all t_corners t_hearers t_spoke t_holds pinched says w x1 x2 x3 (0 : Int32) (0 : Int32)).bind fun o23 =>
  (f_X11_ones o23.2.2.1).bind fun o24 =>
  f_X11_spoilt_66 t_all t_corners t_hearers pinched says 1000 o23.2.1 o23.2.2.1 o23.2.2.2 x1 x2 x3 x4 (-1 : Int32) o24 (0 : Int32)))))
theorem hdS_X11_spoilt : yX11_spoilt.cls ≠ "java/lang/invoke/MethodHandle" ∧ yX11_spoilt.cls ≠ "java/lang/invoke/VarHandle" ∧ (parseMethodDescriptor yX11_spoilt.desc).map (fun d => d.parameters.length) = some 4 := by decide +kernel
theorem hdV_X11_spoilt : yX11_spoilt.cls = RX11 ∧ yX11_spoilt.cls ≠ "java/lang/invoke/MethodHandle" ∧ yX11_spoilt.cls ≠ "java/lang/invoke/VarHandle" ∧ (parseMethodDescriptor yX11_spoilt.desc).map (fun d => d.parameters.length) = some 4 := ⟨rfl, hdS_X11_spoilt⟩
set_option maxHeartbeats 4000000 in
set_option maxRecDepth 100000 in
theorem c_X11_spoilt (l : Launch) (D : va_G) (a : Nat → ClassId) (t : Nat) (q_t : Nat) (q_w : Nat) (q_isKept : Nat) (t_all : Int32) (t_corners : Int32) (t_hearers : Int32) (t_newAll : Int32) (t_newCorners : Int32) (t_newHearers : Int32) (q_beer : Nat) (q_cold : Nat) (q_stands : Nat) (q_pinched : Nat) (q_says : Nat) (q_text : Nat) (t_textSize : Int32) (t_at : Int32) (t_first : Int32) (t_faultOf : Int32) (t_fault : Int32) (t_spoke : Int32) (t_holds : Int32) (t_undoMany : Int32) (q_seenDecree : Nat) (q_seenAt : Nat) (q_seenSpoke : Nat) (t_seen : Int32) (q_inSets : Nat) (q_book : Nat) (t_written : Int32) (pinched : Nat → Int32) (says : Nat → Int32) (w : Nat → Int32) (x1 : Int32) (x2 : Int32) (x3 : Int32) (x4 : Int32) (r : Int32) (o_t_spoke : Int32) (o_t_holds : Int32) (o_w : Nat → Int32) (hf : f_X11_spoilt t_all t_corners t_hearers t_spoke t_holds pinched says w x1 x2 x3 x4 = some (r, o_t_spoke, o_t_holds, o_w)) : Ki l yX11_spoilt wsX11_spoilt 6 153 D a t [.ref q_t, .int x1, .int x2, .int x3, .int x4] [(q_t, .inr (11, [.ref q_w, .ref q_isKept, .int t_all, .int t_corners, .int t_hearers, .int t_newAll, .int t_newCorners, .int t_newHearers, .ref q_beer, .ref q_cold, .ref q_stands, .ref q_pinched, .ref q_says, .ref q_text, .int t_textSize, .int t_at, .int t_first, .int t_faultOf, .int t_fault, .int t_spoke, .int t_holds, .int t_undoMany, .ref q_seenDecree, .ref q_seenAt, .ref q_seenSpoke, .int t_seen, .ref q_inSets, .ref q_book, .int t_written])), (q_pinched, .inl (a 0, 18, .inl pinched)), (q_says, .inl (a 0, 18, .inl says)), (q_w, .inl (a 0, 578, .inl w))] [(q_t, .inr (11, [.ref q_w, .ref q_isKept, .int t_all, .int t_corners, .int t_hearers, .int t_newAll, .int t_newCorners, .int t_newHearers, .ref q_beer, .ref q_cold, .ref q_stands, .ref q_pinched, .ref q_says, .ref q_text, .int t_textSize, .int t_at, .int t_first, .int t_faultOf, .int t_fault, .int o_t_spoke, .int o_t_holds, .int t_undoMany, .ref q_seenDecree, .ref q_seenAt, .ref q_seenSpoke, .int t_seen, .ref q_inSets, .ref q_book, .int t_written])), (q_pinched, .inl (a 0, 18, .inl pinched)), (q_says, .inl (a 0, 18, .inl says)), (q_w, .inl (a 0, 578, .inl o_w))] r := by
  refine Ki.mk (cc := cX11_spoilt) (nL := 9) (ty := .int) (own := RX11) (by decide) rfl rfl (Nat.le_of_ble_eq_true rfl) ?_
  intro p e s m args below meth c A Q ls hX hP hD hS hl hret
  have hx := hX.1.1
  have hb := hX.1.2.1
  have hown := hX.1.2.2.2.1
  have hts := hX.1.2.2.2.2
  have hN := hX.2.2.1
  have hA := hX.2.2.2.2
  have hl : lv_has ls 9 [(0, .ref q_t), (1, .int x1), (2, .int x2), (3, .int x3), (4, .int x4)] := hl
  have hk1 := hts (.constant RX11 149 (-1000000001)) (List.mem_of_getElem? (i := 1) rfl)
  have hk2 := hts (.constant RX11 64 (-1000000002)) (List.mem_of_getElem? (i := 2) rfl)
  have hk3 := hts (.fieldLink RX11 170 "GainsaidOnceModel" "holds" "I") (List.mem_of_getElem? (i := 3) rfl)
  have hk4 := hts (.fieldLink RX11 129 "GainsaidOnceModel" "hearers" "I") (List.mem_of_getElem? (i := 4) rfl)
  have hk5 := hts (.fieldLink RX11 7 "GainsaidOnceModel" "w" "[I") (List.mem_of_getElem? (i := 5) rfl)
  have hiX11 : ∀ w ∈ wsX110, w ∈ wsX11_spoilt := (fun _ h => List.mem_cons_of_mem _ (List.mem_append_right _ h))
  have L_66 : ∀ (n_66 : Nat) (t_spoke : Int32) (t_holds : Int32) (w : (Nat → Int32)) (x1 : Int32) (x2 : Int32) (x3 : Int32) (x4 : Int32) (x5 : Int32) (x7 : Int32) (x8 : Int32) (H : Heap) (locs : List Loc) (ls : Array Slot), f_X11_spoilt_66 t_all t_corners t_hearers pinched says n_66 t_spoke t_holds w x1 x2 x3 x4 x5 x7 x8 = some (r, o_t_spoke, o_t_holds, o_w) → va_P D vwCl [(q_t, .inr (11, [.ref q_w, .ref q_isKept, .int t_all, .int t_corners, .int t_hearers, .int t_newAll, .int t_newCorners, .int t_newHearers, .ref q_beer, .ref q_cold, .ref q_stands, .ref q_pinched, .ref q_says, .ref q_text, .int t_textSize, .int t_at, .int t_first, .int t_faultOf, .int t_fault, .int t_spoke, .int t_holds, .int t_undoMany, .ref q_seenDecree, .ref q_seenAt, .ref q_seenSpoke, .int t_seen, .ref q_inSets, .ref q_book, .int t_written])), (q_pinched, .inl (a 0, 18, .inl pinched)), (q_says, .inl (a 0, 18, .inl says)), (q_w, .inl (a 0, 578, .inl w))] H → va_D A [(q_t, .inr (11, [.ref q_w, .ref q_isKept, .int t_all, .int t_corners, .int t_hearers, .int t_newAll, .int t_newCorners, .int t_newHearers, .ref q_beer, .ref q_cold, .ref q_stands, .ref q_pinched, .ref q_says, .ref q_text, .int t_textSize, .int t_at, .int t_first, .int t_faultOf, .int t_fault, .int t_spoke, .int t_holds, .int t_undoMany, .ref q_seenDecree, .ref q_seenAt, .ref q_seenSpoke, .int t_seen, .ref q_inSets, .ref q_book, .int t_written])), (q_pinched, .inl (a 0, 18, .inl pinched)), (q_says, .inl (a 0, 18, .inl says)), (q_w, .inl (a 0, 578, .inl w))] → va_S A s.heap H locs → lv_has ls 9 [(0, .ref q_t), (1, .int x1), (2, .int x2), (3, .int x3), (4, .int x4), (5, .int x5), (7, .int x7), (8, .int x8)] → W p l e { frames := 6, cells := 0, slots := 0, locals := 153 } s m args below meth c H locs 0 0 Q (F0 m 66 ls []) := by
    intro n_66
    induction n_66 with
    | zero => intro t_spoke t_holds w x1 x2 x3 x4 x5 x7 x8 H locs ls hf hP hD hS hl; rw [f_X11_spoilt_66] at hf; cases hf
    | succ n_66 ih_66 =>
      have L_123 : ∀ (t_spoke : Int32) (t_holds : Int32) (w : (Nat → Int32)) (x1 : Int32) (x2 : Int32) (x3 : Int32) (x4 : Int32) (x7 : Int32) (x8 : Int32) (s0 : Int32) (H : Heap) (locs : List Loc) (ls : Array Slot), f_X11_spoilt_123 t_all t_corners t_hearers pinched says (f_X11_spoilt_66 t_all t_corners t_hearers pinched says n_66) t_spoke t_holds w x1 x2 x3 x4 x7 x8 s0 = some (r, o_t_spoke, o_t_holds, o_w) → va_P D vwCl [(q_t, .inr (11, [.ref q_w, .ref q_isKept, .int t_all, .int t_corners, .int t_hearers, .int t_newAll, .int t_newCorners, .int t_newHearers, .ref q_beer, .ref q_cold, .ref q_stands, .ref q_pinched, .ref q_says, .ref q_text, .int t_textSize, .int t_at, .int t_first, .int t_faultOf, .int t_fault, .int t_spoke, .int t_holds, .int t_undoMany, .ref q_seenDecree, .ref q_seenAt, .ref q_seenSpoke, .int t_seen, .ref q_inSets, .ref q_book, .int t_written])), (q_pinched, .inl (a 0, 18, .inl pinched)), (q_says, .inl (a 0, 18, .inl says)), (q_w, .inl (a 0, 578, .inl w))] H → va_D A [(q_t, .inr (11, [.ref q_w, .ref q_isKept, .int t_all, .int t_corners, .int t_hearers, .int t_newAll, .int t_newCorners, .int t_newHearers, .ref q_beer, .ref q_cold, .ref q_stands, .ref q_pinched, .ref q_says, .ref q_text, .int t_textSize, .int t_at, .int t_first, .int t_faultOf, .int t_fault, .int t_spoke, .int t_holds, .int t_undoMany, .ref q_seenDecree, .ref q_seenAt, .ref q_seenSpoke, .int t_seen, .ref q_inSets, .ref q_book, .int t_written])), (q_pinched, .inl (a 0, 18, .inl pinched)), (q_says, .inl (a 0, 18, .inl says)), (q_w, .inl (a 0, 578, .inl w))] → va_S A s.heap H locs → lv_has ls 9 [(0, .ref q_t), (1, .int x1), (2, .int x2), (3, .int x3), (4, .int x4), (7, .int x7), (8, .int x8)] → W p l e { frames := 6, cells := 0, slots := 0, locals := 153 } s m args below meth c H locs 0 0 Q (F0 m 123 ls [.int s0]) := by
        intro t_spoke t_holds w x1 x2 x3 x4 x7 x8 s0 H locs ls hf hP hD hS hl
        unfold f_X11_spoilt_123 at hf
        refine lv_istore (lv' := [(5, .int s0), (0, .ref q_t), (1, .int x1), (2, .int x2), (3, .int x3), (4, .int x4), (7, .int x7), (8, .int x8)]) hx hb dX11_spoilt_123 hl (by decide) rfl (fun ls hl => ?_)
        refine lv_aload_n hx hb dX11_spoilt_125 rfl (lv_at hl 1 rfl) ?_
        refine g_get hX hiX11 hP 0 rfl rfl 20 (by decide) hk3 rfl rfl dX11_spoilt_126 ?_
        obtain ⟨o1, ho1, hf⟩ := o_bd hf
        refine call_iS hX (c_X11_ones l D a t t_holds o1 ho1) (va_cwS 1 hts gX11_spoilt_X11_ones rfl rfl rfl hdS_X11_ones ⟨by decide, by decide⟩) (Cut.none hA hP hD hS) hS rfl hl.1 rfl (Nat.le_of_ble_eq_true rfl) dX11_spoilt_129 (by decide) (fun H locs hP hD hS => ?_)
        refine lv_iload hx hb dX11_spoilt_132 (lv_at hl 6 rfl) ?_
        refine lv_icmp_ge (tgt := 147) hx hb dX11_spoilt_134 (by decide) (fun c2 => ?_) (fun c2 => ?_)
        · replace hf := o_ifp hf c2
          refine lv_iload hx hb dX11_spoilt_147 (lv_at hl 6 rfl) ?_
          refine lv_istore (lv' := [(7, .int x7), (5, .int s0), (0, .ref q_t), (1, .int x1), (2, .int x2), (3, .int x3), (4, .int x4), (8, .int x8)]) hx hb dX11_spoilt_149 hl (by decide) rfl (fun ls hl => ?_)
          obtain ⟨v3, ev3⟩ : ∃ y : Int32, y = x8 + (1 : Int32) := ⟨_, rfl⟩
          replace hf := o_nmh hf v3 ev3
          refine lv_iinc (v := v3) (lv' := [(8, .int v3), (7, .int x7), (5, .int s0), (0, .ref q_t), (1, .int x1), (2, .int x2), (3, .int x3), (4, .int x4)]) hx hb dX11_spoilt_151 hl (k := 7) rfl (by rw [ev3]; rfl) (by decide) rfl (fun ls hl => ?_)
          refine lv_goto (tgt := 66) hx hb dX11_spoilt_154 (by decide) ?_
          exact ih_66 t_spoke t_holds w x1 x2 x3 x4 s0 x7 v3 _ _ _ hf hP hD hS (lv_sub hl [3, 4, 5, 6, 7, 2, 1, 0] rfl)
        replace hf := o_ifn hf c2
        refine lv_aload_n hx hb dX11_spoilt_137 rfl (lv_at hl 1 rfl) ?_
        refine g_get hX hiX11 hP 0 rfl rfl 20 (by decide) hk3 rfl rfl dX11_spoilt_138 ?_
        obtain ⟨o4, ho4, hf⟩ := o_bd hf
        refine call_iS hX (c_X11_ones l D a t t_holds o4 ho4) (va_cwS 1 hts gX11_spoilt_X11_ones rfl rfl rfl hdS_X11_ones ⟨by decide, by decide⟩) (Cut.none hA hP hD hS) hS rfl hl.1 rfl (Nat.le_of_ble_eq_true rfl) dX11_spoilt_141 (by decide) (fun H locs hP hD hS => ?_)
        refine lv_goto (tgt := 149) hx hb dX11_spoilt_144 (by decide) ?_
        refine lv_istore (lv' := [(7, .int o4), (5, .int s0), (0, .ref q_t), (1, .int x1), (2, .int x2), (3, .int x3), (4, .int x4), (8, .int x8)]) hx hb dX11_spoilt_149 hl (by decide) rfl (fun ls hl => ?_)
        obtain ⟨v5, ev5⟩ : ∃ y : Int32, y = x8 + (1 : Int32) := ⟨_, rfl⟩
        replace hf := o_nmh hf v5 ev5
        refine lv_iinc (v := v5) (lv' := [(8, .int v5), (7, .int o4), (5, .int s0), (0, .ref q_t), (1, .int x1), (2, .int x2), (3, .int x3), (4, .int x4)]) hx hb dX11_spoilt_151 hl (k := 7) rfl (by rw [ev5]; rfl) (by decide) rfl (fun ls hl => ?_)
        refine lv_goto (tgt := 66) hx hb dX11_spoilt_154 (by decide) ?_
        exact ih_66 t_spoke t_holds w x1 x2 x3 x4 s0 o4 v5 _ _ _ hf hP hD hS (lv_sub hl [3, 4, 5, 6, 7, 2, 1, 0] rfl)
      intro t_spoke t_holds w x1 x2 x3 x4 x5 x7 x8 H locs ls hf hP hD hS hl
      rw [f_X11_spoilt_66] at hf
      refine lv_iload hx hb dX11_spoilt_66 (lv_at hl 7 rfl) ?_
      refine lv_aload_n hx hb dX11_spoilt_68 rfl (lv_at hl 0 rfl) ?_
      refine g_get hX hiX11 hP 0 rfl rfl 4 (by decide) hk4 rfl rfl dX11_spoilt_69 ?_
      refine lv_icmp_ge (tgt := 157) hx hb dX11_spoilt_72 (by decide) (fun c6 => ?_) (fun c6 => ?_)
      · replace hf := o_ifp hf c6
        refine lv_iload hx hb dX11_spoilt_157 (lv_at hl 4 rfl) ?_
        refine lv_if_ne (tgt := 167) hx hb dX11_spoilt_159 (by decide) (fun c7 => ?_) (fun c7 => ?_)
        · replace hf := o_ifn hf c7
          refine lv_iload hx hb dX11_spoilt_167 (lv_at hl 5 rfl) ?_
          cases hf
          exact hret _ _ _ _ (vp_nar_int _) hP hD hS dX11_spoilt_169
        replace hf := o_ifp hf c7
        refine lv_iload hx hb dX11_spoilt_162 (lv_at hl 6 rfl) ?_
        refine lv_goto (tgt := 169) hx hb dX11_spoilt_164 (by decide) ?_
        cases hf
        exact hret _ _ _ _ (vp_nar_int _) hP hD hS dX11_spoilt_169
      replace hf := o_ifn hf c6
      refine lv_aload_n hx hb dX11_spoilt_75 rfl (lv_at hl 0 rfl) ?_
      refine g_get hX hiX11 hP 0 rfl rfl 0 (by decide) hk5 rfl rfl dX11_spoilt_76 ?_
      refine lv_bipush (v := (10 : Int32)) hx hb dX11_spoilt_79 (by decide) ?_
      obtain ⟨hiv8, hf⟩ := o_ldh hf
      refine g_iald hX hP 3 rfl hiv8 dX11_spoilt_81 (fun v8 ev8 => ?_)
      replace hf := hf v8 ev8
      refine lv_iload hx hb dX11_spoilt_82 (lv_at hl 7 rfl) ?_
      obtain ⟨o9, ho9, hf⟩ := o_bd hf
      refine call_iS hX (c_X11_has l D a t v8 x8 o9 ho9) (va_cwS 2 hts gX11_spoilt_X11_has rfl rfl rfl hdS_X11_has ⟨by decide, by decide⟩) (Cut.none hA hP hD hS) hS rfl hl.1 rfl (Nat.le_of_ble_eq_true rfl) dX11_spoilt_84 (by decide) (fun H locs hP hD hS => ?_)
      refine lv_if_ne (tgt := 151) hx hb dX11_spoilt_87 (by decide) (fun c10 => ?_) (fun c10 => ?_)
      · replace hf := o_ifn hf c10
        obtain ⟨v11, ev11⟩ : ∃ y : Int32, y = x8 + (1 : Int32) := ⟨_, rfl⟩
        replace hf := o_nmh hf v11 ev11
        refine lv_iinc (v := v11) (lv' := [(8, .int v11), (0, .ref q_t), (1, .int x1), (2, .int x2), (3, .int x3), (4, .int x4), (5, .int x5), (7, .int x7)]) hx hb dX11_spoilt_151 hl (k := 7) rfl (by rw [ev11]; rfl) (by decide) rfl (fun ls hl => ?_)
        refine lv_goto (tgt := 66) hx hb dX11_spoilt_154 (by decide) ?_
        exact ih_66 t_spoke t_holds w x1 x2 x3 x4 x5 x7 v11 _ _ _ hf hP hD hS (lv_sub hl [1, 2, 3, 4, 5, 6, 7, 0] rfl)
      replace hf := o_ifp hf c10
      refine lv_aload_n hx hb dX11_spoilt_90 rfl (lv_at hl 0 rfl) ?_
      refine lv_iload_n hx hb dX11_spoilt_91 rfl (lv_at hl 1 rfl) ?_
      refine lv_iload_n hx hb dX11_spoilt_92 rfl (lv_at hl 2 rfl) ?_
      refine lv_iload_n hx hb dX11_spoilt_93 rfl (lv_at hl 3 rfl) ?_
      refine lv_iconst (v := (0 : Int32)) hx hb dX11_spoilt_94 (by decide) ?_
      refine lv_iconst (v := (1 : Int32)) hx hb dX11_spoilt_95 (by decide) ?_
      refine lv_iload hx hb dX11_spoilt_96 (lv_at hl 7 rfl) ?_
      refine lv_ishl hx hb dX11_spoilt_98 ?_
      obtain ⟨o12, ho12, hf⟩ := o_bd hf
      refine call_iV (q0 := 0) (ci := 11) hX (c_X11_tryRound l D a t q_t q_w q_isKept t_all t_corners t_hearers t_newAll t_newCorners t_newHearers q_beer q_cold q_stands q_pinched q_says q_text t_textSize t_at t_first t_faultOf t_fault t_spoke t_holds t_undoMany q_seenDecree q_seenAt q_seenSpoke t_seen q_inSets q_book t_written pinched says w x1 x2 x3 (0 : Int32) ((1 : Int32) <<< (x8 &&& 31)) o12.1 o12.2.1 o12.2.2.1 o12.2.2.2 ho12) (cwV 5 hts gX11_spoilt_X11_tryRound rfl rfl rfl hdV_X11_tryRound ⟨by decide, by decide⟩) (Cut.of hA hP hD hS [0, 1, 2, 3] (by decide) rfl rfl (W' := [(q_t, .inr (11, [.ref q_w, .ref q_isKept, .int t_all, .int t_corners, .int t_hearers, .int t_newAll, .int t_newCorners, .int t_newHearers, .ref q_beer, .ref q_cold, .ref q_stands, .ref q_pinched, .ref q_says, .ref q_text, .int t_textSize, .int t_at, .int t_first, .int t_faultOf, .int t_fault, .int o12.2.1, .int o12.2.2.1, .int t_undoMany, .ref q_seenDecree, .ref q_seenAt, .ref q_seenSpoke, .int t_seen, .ref q_inSets, .ref q_book, .int t_written])), (q_pinched, .inl (a 0, 18, .inl pinched)), (q_says, .inl (a 0, 18, .inl says)), (q_w, .inl (a 0, 578, .inl o12.2.2.2))]) rfl) hS rfl rfl rfl hl.1 rfl (Nat.le_of_ble_eq_true rfl) dX11_spoilt_99 (by decide) (fun H locs hP hD hS => ?_)
      replace hP : va_P D vwCl [(q_t, .inr (11, [.ref q_w, .ref q_isKept, .int t_all, .int t_corners, .int t_hearers, .int t_newAll, .int t_newCorners, .int t_newHearers, .ref q_beer, .ref q_cold, .ref q_stands, .ref q_pinched, .ref q_says, .ref q_text, .int t_textSize, .int t_at, .int t_first, .int t_faultOf, .int t_fault, .int o12.2.1, .int o12.2.2.1, .int t_undoMany, .ref q_seenDecree, .ref q_seenAt, .ref q_seenSpoke, .int t_seen, .ref q_inSets, .ref q_book, .int t_written])), (q_pinched, .inl (a 0, 18, .inl pinched)), (q_says, .inl (a 0, 18, .inl says)), (q_w, .inl (a 0, 578, .inl o12.2.2.2))] H := hP
      replace hD : va_D A [(q_t, .inr (11, [.ref q_w, .ref q_isKept, .int t_all, .int t_corners, .int t_hearers, .int t_newAll, .int t_newCorners, .int t_newHearers, .ref q_beer, .ref q_cold, .ref q_stands, .ref q_pinched, .ref q_says, .ref q_text, .int t_textSize, .int t_at, .int t_first, .int t_faultOf, .int t_fault, .int o12.2.1, .int o12.2.2.1, .int t_undoMany, .ref q_seenDecree, .ref q_seenAt, .ref q_seenSpoke, .int t_seen, .ref q_inSets, .ref q_book, .int t_written])), (q_pinched, .inl (a 0, 18, .inl pinched)), (q_says, .inl (a 0, 18, .inl says)), (q_w, .inl (a 0, 578, .inl o12.2.2.2))] := hD
      refine lv_istore (lv' := [(6, .int o12.1), (0, .ref q_t), (1, .int x1), (2, .int x2), (3, .int x3), (4, .int x4), (5, .int x5), (7, .int x7), (8, .int x8)]) hx hb dX11_spoilt_102 hl (by decide) rfl (fun ls hl => ?_)
      refine lv_aload_n hx hb dX11_spoilt_104 rfl (lv_at hl 1 rfl) ?_
      refine g_get hX hiX11 hP 0 rfl rfl 20 (by decide) hk3 rfl rfl dX11_spoilt_105 ?_
      obtain ⟨o13, ho13, hf⟩ := o_bd hf
      refine call_iS hX (c_X11_ones l D a t o12.2.2.1 o13 ho13) (va_cwS 1 hts gX11_spoilt_X11_ones rfl rfl rfl hdS_X11_ones ⟨by decide, by decide⟩) (Cut.none hA hP hD hS) hS rfl hl.1 rfl (Nat.le_of_ble_eq_true rfl) dX11_spoilt_108 (by decide) (fun H locs hP hD hS => ?_)
      refine lv_iload hx hb dX11_spoilt_111 (lv_at hl 7 rfl) ?_
      refine lv_icmp_ge (tgt := 121) hx hb dX11_spoilt_113 (by decide) (fun c14 => ?_) (fun c14 => ?_)
      · replace hf := o_ifp hf c14
        refine lv_iload hx hb dX11_spoilt_121 (lv_at hl 6 rfl) ?_
        exact L_123 o12.2.1 o12.2.2.1 o12.2.2.2 x1 x2 x3 x4 x7 x8 x5 _ _ _ hf hP hD hS (lv_sub hl [1, 2, 3, 4, 5, 7, 8] rfl)
      replace hf := o_ifn hf c14
      refine lv_iload hx hb dX11_spoilt_116 (lv_at hl 8 rfl) ?_
      refine lv_goto (tgt := 123) hx hb dX11_spoilt_118 (by decide) ?_
      exact L_123 o12.2.1 o12.2.2.1 o12.2.2.2 x1 x2 x3 x4 x7 x8 x8 _ _ _ hf hP hD hS (lv_sub hl [1, 2, 3, 4, 5, 7, 8] rfl)
  unfold f_X11_spoilt at hf
  refine lv_aload_n hx hb dX11_spoilt_0 rfl (lv_at hl 0 rfl) ?_
  refine lv_iload_n hx hb dX11_spoilt_1 rfl (lv_at hl 1 rfl) ?_
  obtain ⟨o15, ho15, hf⟩ := o_bd hf
  refine call_iV (q0 := 0) (ci := 11) hX (c_X11_isDecree l D a t q_t q_w q_isKept t_all t_corners t_hearers t_newAll t_newCorners t_newHearers q_beer q_cold q_stands q_pinched q_says q_text t_textSize t_at t_first t_faultOf t_fault t_spoke t_holds t_undoMany q_seenDecree q_seenAt q_seenSpoke t_seen q_inSets q_book t_written x1 o15 ho15) (cwV 1 hts gX11_spoilt_X11_isDecree rfl rfl rfl hdV_X11_isDecree ⟨by decide, by decide⟩) (Cut.of hA hP hD hS [0] (by decide) rfl rfl (W' := [(q_t, .inr (11, [.ref q_w, .ref q_isKept, .int t_all, .int t_corners, .int t_hearers, .int t_newAll, .int t_newCorners, .int t_newHearers, .ref q_beer, .ref q_cold, .ref q_stands, .ref q_pinched, .ref q_says, .ref q_text, .int t_textSize, .int t_at, .int t_first, .int t_faultOf, .int t_fault, .int t_spoke, .int t_holds, .int t_undoMany, .ref q_seenDecree, .ref q_seenAt, .ref q_seenSpoke, .int t_seen, .ref q_inSets, .ref q_book, .int t_written])), (q_pinched, .inl (a 0, 18, .inl pinched)), (q_says, .inl (a 0, 18, .inl says)), (q_w, .inl (a 0, 578, .inl w))]) rfl) hS rfl rfl rfl hl.1 rfl (Nat.le_of_ble_eq_true rfl) dX11_spoilt_2 (by decide) (fun H locs hP hD hS => ?_)
  replace hP : va_P D vwCl [(q_t, .inr (11, [.ref q_w, .ref q_isKept, .int t_all, .int t_corners, .int t_hearers, .int t_newAll, .int t_newCorners, .int t_newHearers, .ref q_beer, .ref q_cold, .ref q_stands, .ref q_pinched, .ref q_says, .ref q_text, .int t_textSize, .int t_at, .int t_first, .int t_faultOf, .int t_fault, .int t_spoke, .int t_holds, .int t_undoMany, .ref q_seenDecree, .ref q_seenAt, .ref q_seenSpoke, .int t_seen, .ref q_inSets, .ref q_book, .int t_written])), (q_pinched, .inl (a 0, 18, .inl pinched)), (q_says, .inl (a 0, 18, .inl says)), (q_w, .inl (a 0, 578, .inl w))] H := hP
  replace hD : va_D A [(q_t, .inr (11, [.ref q_w, .ref q_isKept, .int t_all, .int t_corners, .int t_hearers, .int t_newAll, .int t_newCorners, .int t_newHearers, .ref q_beer, .ref q_cold, .ref q_stands, .ref q_pinched, .ref q_says, .ref q_text, .int t_textSize, .int t_at, .int t_first, .int t_faultOf, .int t_fault, .int t_spoke, .int t_holds, .int t_undoMany, .ref q_seenDecree, .ref q_seenAt, .ref q_seenSpoke, .int t_seen, .ref q_inSets, .ref q_book, .int t_written])), (q_pinched, .inl (a 0, 18, .inl pinched)), (q_says, .inl (a 0, 18, .inl says)), (q_w, .inl (a 0, 578, .inl w))] := hD
  refine lv_if_eq (tgt := 16) hx hb dX11_spoilt_5 (by decide) (fun c16 => ?_) (fun c16 => ?_)
  · replace hf := o_ifp hf c16
    refine lv_ldc (v := (-1000000001 : Int32)) hx hb hown hk1 dX11_spoilt_16 ?_
    cases hf
    exact hret _ _ _ _ (vp_nar_int _) hP hD hS dX11_spoilt_18
  replace hf := o_ifn hf c16
  refine lv_aload_n hx hb dX11_spoilt_8 rfl (lv_at hl 0 rfl) ?_
  refine lv_iload_n hx hb dX11_spoilt_9 rfl (lv_at hl 2 rfl) ?_
  obtain ⟨o17, ho17, hf⟩ := o_bd hf
  refine call_iV (q0 := 0) (ci := 11) hX (c_X11_isCorner l D a t q_t q_w q_isKept t_all t_corners t_hearers t_newAll t_newCorners t_newHearers q_beer q_cold q_stands q_pinched q_says q_text t_textSize t_at t_first t_faultOf t_fault t_spoke t_holds t_undoMany q_seenDecree q_seenAt q_seenSpoke t_seen q_inSets q_book t_written x2 o17 ho17) (cwV 1 hts gX11_spoilt_X11_isCorner rfl rfl rfl hdV_X11_isCorner ⟨by decide, by decide⟩) (Cut.of hA hP hD hS [0] (by decide) rfl rfl (W' := [(q_t, .inr (11, [.ref q_w, .ref q_isKept, .int t_all, .int t_corners, .int t_hearers, .int t_newAll, .int t_newCorners, .int t_newHearers, .ref q_beer, .ref q_cold, .ref q_stands, .ref q_pinched, .ref q_says, .ref q_text, .int t_textSize, .int t_at, .int t_first, .int t_faultOf, .int t_fault, .int t_spoke, .int t_holds, .int t_undoMany, .ref q_seenDecree, .ref q_seenAt, .ref q_seenSpoke, .int t_seen, .ref q_inSets, .ref q_book, .int t_written])), (q_pinched, .inl (a 0, 18, .inl pinched)), (q_says, .inl (a 0, 18, .inl says)), (q_w, .inl (a 0, 578, .inl w))]) rfl) hS rfl rfl rfl hl.1 rfl (Nat.le_of_ble_eq_true rfl) dX11_spoilt_10 (by decide) (fun H locs hP hD hS => ?_)
  replace hP : va_P D vwCl [(q_t, .inr (11, [.ref q_w, .ref q_isKept, .int t_all, .int t_corners, .int t_hearers, .int t_newAll, .int t_newCorners, .int t_newHearers, .ref q_beer, .ref q_cold, .ref q_stands, .ref q_pinched, .ref q_says, .ref q_text, .int t_textSize, .int t_at, .int t_first, .int t_faultOf, .int t_fault, .int t_spoke, .int t_holds, .int t_undoMany, .ref q_seenDecree, .ref q_seenAt, .ref q_seenSpoke, .int t_seen, .ref q_inSets, .ref q_book, .int t_written])), (q_pinched, .inl (a 0, 18, .inl pinched)), (q_says, .inl (a 0, 18, .inl says)), (q_w, .inl (a 0, 578, .inl w))] H := hP
  replace hD : va_D A [(q_t, .inr (11, [.ref q_w, .ref q_isKept, .int t_all, .int t_corners, .int t_hearers, .int t_newAll, .int t_newCorners, .int t_newHearers, .ref q_beer, .ref q_cold, .ref q_stands, .ref q_pinched, .ref q_says, .ref q_text, .int t_textSize, .int t_at, .int t_first, .int t_faultOf, .int t_fault, .int t_spoke, .int t_holds, .int t_undoMany, .ref q_seenDecree, .ref q_seenAt, .ref q_seenSpoke, .int t_seen, .ref q_inSets, .ref q_book, .int t_written])), (q_pinched, .inl (a 0, 18, .inl pinched)), (q_says, .inl (a 0, 18, .inl says)), (q_w, .inl (a 0, 578, .inl w))] := hD
  refine lv_if_ne (tgt := 19) hx hb dX11_spoilt_13 (by decide) (fun c18 => ?_) (fun c18 => ?_)
  · replace hf := o_ifn hf c18
    refine lv_iload_n hx hb dX11_spoilt_19 rfl (lv_at hl 3 rfl) ?_
    obtain ⟨o19, ho19, hf⟩ := o_bd hf
    refine call_iS hX (c_X11_isWay l D a t x3 o19 ho19) (va_cwS 1 hts gX11_spoilt_X11_isWay rfl rfl rfl hdS_X11_isWay ⟨by decide, by decide⟩) (Cut.none hA hP hD hS) hS rfl hl.1 rfl (Nat.le_of_ble_eq_true rfl) dX11_spoilt_20 (by decide) (fun H locs hP hD hS => ?_)
    refine lv_if_eq (tgt := 37) hx hb dX11_spoilt_23 (by decide) (fun c20 => ?_) (fun c20 => ?_)
    · replace hf := o_ifp hf c20
      refine lv_ldc (v := (-1000000002 : Int32)) hx hb hown hk2 dX11_spoilt_37 ?_
      cases hf
      exact hret _ _ _ _ (vp_nar_int _) hP hD hS dX11_spoilt_39
    replace hf := o_ifn hf c20
    refine lv_iload hx hb dX11_spoilt_26 (lv_at hl 4 rfl) ?_
    refine lv_i2l (v := Int32.toInt64 x4) hx hb dX11_spoilt_28 rfl ?_
    refine lv_lconst (v := (0 : Int64)) hx hb dX11_spoilt_29 (by decide) ?_
    refine lv_lconst (v := (1 : Int64)) hx hb dX11_spoilt_30 (by decide) ?_
    obtain ⟨o21, ho21, hf⟩ := o_bd hf
    refine call_iS hX (c_X11_in l D a t (Int32.toInt64 x4) (0 : Int64) (1 : Int64) o21 ho21) (va_cwS 3 hts gX11_spoilt_X11_in rfl rfl rfl hdS_X11_in ⟨by decide, by decide⟩) (Cut.none hA hP hD hS) hS rfl hl.1 rfl (Nat.le_of_ble_eq_true rfl) dX11_spoilt_31 (by decide) (fun H locs hP hD hS => ?_)
    refine lv_if_ne (tgt := 40) hx hb dX11_spoilt_34 (by decide) (fun c22 => ?_) (fun c22 => ?_)
    · replace hf := o_ifn hf c22
      refine lv_iconst (v := (-1 : Int32)) hx hb dX11_spoilt_40 (by decide) ?_
      refine lv_istore (lv' := [(5, .int (-1 : Int32)), (0, .ref q_t), (1, .int x1), (2, .int x2), (3, .int x3), (4, .int x4)]) hx hb dX11_spoilt_41 hl (by decide) rfl (fun ls hl => ?_)
      refine lv_aload_n hx hb dX11_spoilt_43 rfl (lv_at hl 1 rfl) ?_
      refine lv_iload_n hx hb dX11_spoilt_44 rfl (lv_at hl 2 rfl) ?_
      refine lv_iload_n hx hb dX11_spoilt_45 rfl (lv_at hl 3 rfl) ?_
      refine lv_iload_n hx hb dX11_spoilt_46 rfl (lv_at hl 4 rfl) ?_
      refine lv_iconst (v := (0 : Int32)) hx hb dX11_spoilt_47 (by decide) ?_
      refine lv_iconst (v := (0 : Int32)) hx hb dX11_spoilt_48 (by decide) ?_
      obtain ⟨o23, ho23, hf⟩ := o_bd hf
      refine call_iV (q0 := 0) (ci := 11) hX (c_X11_tryRound l D a t q_t q_w q_isKept t_all t_corners t_hearers t_newAll t_newCorners t_newHearers q_beer q_cold q_stands q_pinched q_says q_text t_textSize t_at t_first t_faultOf t_fault t_spoke t_holds t_undoMany q_seenDecree q_seenAt q_seenSpoke t_seen q_inSets q_book t_written pinched says w x1 x2 x3 (0 : Int32) (0 : Int32) o23.1 o23.2.1 o23.2.2.1 o23.2.2.2 ho23) (cwV 5 hts gX11_spoilt_X11_tryRound rfl rfl rfl hdV_X11_tryRound ⟨by decide, by decide⟩) (Cut.of hA hP hD hS [0, 1, 2, 3] (by decide) rfl rfl (W' := [(q_t, .inr (11, [.ref q_w, .ref q_isKept, .int t_all, .int t_corners, .int t_hearers, .int t_newAll, .int t_newCorners, .int t_newHearers, .ref q_beer, .ref q_cold, .ref q_stands, .ref q_pinched, .ref q_says, .ref q_text, .int t_textSize, .int t_at, .int t_first, .int t_faultOf, .int t_fault, .int o23.2.1, .int o23.2.2.1, .int t_undoMany, .ref q_seenDecree, .ref q_seenAt, .ref q_seenSpoke, .int t_seen, .ref q_inSets, .ref q_book, .int t_written])), (q_pinched, .inl (a 0, 18, .inl pinched)), (q_says, .inl (a 0, 18, .inl says)), (q_w, .inl (a 0, 578, .inl o23.2.2.2))]) rfl) hS rfl rfl rfl hl.1 rfl (Nat.le_of_ble_eq_true rfl) dX11_spoilt_49 (by decide) (fun H locs hP hD hS => ?_)
      replace hP : va_P D vwCl [(q_t, .inr (11, [.ref q_w, .ref q_isKept, .int t_all, .int t_corners, .int t_hearers, .int t_newAll, .int t_newCorners, .int t_newHearers, .ref q_beer, .ref q_cold, .ref q_stands, .ref q_pinched, .ref q_says, .ref q_text, .int t_textSize, .int t_at, .int t_first, .int t_faultOf, .int t_fault, .int o23.2.1, .int o23.2.2.1, .int t_undoMany, .ref q_seenDecree, .ref q_seenAt, .ref q_seenSpoke, .int t_seen, .ref q_inSets, .ref q_book, .int t_written])), (q_pinched, .inl (a 0, 18, .inl pinched)), (q_says, .inl (a 0, 18, .inl says)), (q_w, .inl (a 0, 578, .inl o23.2.2.2))] H := hP
      replace hD : va_D A [(q_t, .inr (11, [.ref q_w, .ref q_isKept, .int t_all, .int t_corners, .int t_hearers, .int t_newAll, .int t_newCorners, .int t_newHearers, .ref q_beer, .ref q_cold, .ref q_stands, .ref q_pinched, .ref q_says, .ref q_text, .int t_textSize, .int t_at, .int t_first, .int t_faultOf, .int t_fault, .int o23.2.1, .int o23.2.2.1, .int t_undoMany, .ref q_seenDecree, .ref q_seenAt, .ref q_seenSpoke, .int t_seen, .ref q_inSets, .ref q_book, .int t_written])), (q_pinched, .inl (a 0, 18, .inl pinched)), (q_says, .inl (a 0, 18, .inl says)), (q_w, .inl (a 0, 578, .inl o23.2.2.2))] := hD
      refine lv_istore (lv' := [(6, .int o23.1), (5, .int (-1 : Int32)), (0, .ref q_t), (1, .int x1), (2, .int x2), (3, .int x3), (4, .int x4)]) hx hb dX11_spoilt_52 hl (by decide) rfl (fun ls hl => ?_)
      refine lv_aload_n hx hb dX11_spoilt_54 rfl (lv_at hl 2 rfl) ?_
      refine g_get hX hiX11 hP 0 rfl rfl 20 (by decide) hk3 rfl rfl dX11_spoilt_55 ?_
      obtain ⟨o24, ho24, hf⟩ := o_bd hf
      refine call_iS hX (c_X11_ones l D a t o23.2.2.1 o24 ho24) (va_cwS 1 hts gX11_spoilt_X11_ones rfl rfl rfl hdS_X11_ones ⟨by decide, by decide⟩) (Cut.none hA hP hD hS) hS rfl hl.1 rfl (Nat.le_of_ble_eq_true rfl) dX11_spoilt_58 (by decide) (fun H locs hP hD hS => ?_)
      refine lv_istore (lv' := [(7, .int o24), (6, .int o23.1), (5, .int (-1 : Int32)), (0, .ref q_t), (1, .int x1), (2, .int x2), (3, .int x3), (4, .int x4)]) hx hb dX11_spoilt_61 hl (by decide) rfl (fun ls hl => ?_)
      refine lv_iconst (v := (0 : Int32)) hx hb dX11_spoilt_63 (by decide) ?_
      refine lv_istore (lv' := [(8, .int (0 : Int32)), (7, .int o24), (6, .int o23.1), (5, .int (-1 : Int32)), (0, .ref q_t), (1, .int x1), (2, .int x2), (3, .int x3), (4, .int x4)]) hx hb dX11_spoilt_64 hl (by decide) rfl (fun ls hl => ?_)
      exact L_66 1000 o23.2.1 o23.2.2.1 o23.2.2.2 x1 x2 x3 x4 (-1 : Int32) o24 (0 : Int32) _ _ _ hf hP hD hS (lv_sub hl [4, 5, 6, 7, 8, 3, 1, 0] rfl)
    replace hf := o_ifp hf c22
    refine lv_ldc (v := (-1000000002 : Int32)) hx hb hown hk2 dX11_spoilt_37 ?_
    cases hf
    exact hret _ _ _ _ (vp_nar_int _) hP hD hS dX11_spoilt_39
  replace hf := o_ifp hf c18
  refine lv_ldc (v := (-1000000001 : Int32)) hx hb hown hk1 dX11_spoilt_16 ?_
  cases hf
  exact hret _ _ _ _ (vp_nar_int _) hP hD hS dX11_spoilt_18
def f_X11_odds_34 (t_corners : Int32) : Nat → Int32 → Int32 → Int64 → Int32 → Option (Int32)
  | 0, _, _, _, _ => none
  | n_34 + 1, x1, x2, x3, x5 =>
    if (x1 * t_corners) ≤ x5 then (some (Int64.toInt32 x3))
    else ((o_dvL (x3 * (Int32.toInt64 ((100 : Int32) - x2))) (100 : Int64)).bind fun v2 =>
    o_nm (x5 + (1 : Int32)) fun v3 =>
    f_X11_odds_34 t_corners n_34 x1 x2 v2 v3)
def f_X11_odds (t_corners : Int32) (x1 : Int32) (x2 : Int32) : Option (Int32) :=
  (f_X11_in (Int32.toInt64 x1) (0 : Int64) (60 : Int64)).bind fun o4 =>
  if o4 = 0 then (some (-1000000002 : Int32))
  else ((f_X11_in (Int32.toInt64 x2) (0 : Int64) (100 : Int64)).bind fun o6 =>
  if o6 = 0 then (some (-1000000002 : Int32))
  else (f_X11_odds_34 t_corners 1000 x1 x2 (1000000000 : Int64) (0 : Int32)))
theorem hdS_X11_odds : yX11_odds.cls ≠ "java/lang/invoke/MethodHandle" ∧ yX11_odds.cls ≠ "java/lang/invoke/VarHandle" ∧ (parseMethodDescriptor yX11_odds.desc).map (fun d => d.parameters.length) = some 2 := by decide +kernel
theorem hdV_X11_odds : yX11_odds.cls = RX11 ∧ yX11_odds.cls ≠ "java/lang/invoke/MethodHandle" ∧ yX11_odds.cls ≠ "java/lang/invoke/VarHandle" ∧ (parseMethodDescriptor yX11_odds.desc).map (fun d => d.parameters.length) = some 2 := ⟨rfl, hdS_X11_odds⟩
set_option maxHeartbeats 4000000 in
set_option maxRecDepth 100000 in
theorem c_X11_odds (l : Launch) (D : va_G) (a : Nat → ClassId) (t : Nat) (q_t : Nat) (q_w : Nat) (q_isKept : Nat) (t_all : Int32) (t_corners : Int32) (t_hearers : Int32) (t_newAll : Int32) (t_newCorners : Int32) (t_newHearers : Int32) (q_beer : Nat) (q_cold : Nat) (q_stands : Nat) (q_pinched : Nat) (q_says : Nat) (q_text : Nat) (t_textSize : Int32) (t_at : Int32) (t_first : Int32) (t_faultOf : Int32) (t_fault : Int32) (t_spoke : Int32) (t_holds : Int32) (t_undoMany : Int32) (q_seenDecree : Nat) (q_seenAt : Nat) (q_seenSpoke : Nat) (t_seen : Int32) (q_inSets : Nat) (q_book : Nat) (t_written : Int32) (x1 : Int32) (x2 : Int32) (r : Int32) (hf : f_X11_odds t_corners x1 x2 = some r) : Ki l yX11_odds wsX11_odds 1 25 D a t [.ref q_t, .int x1, .int x2] [(q_t, .inr (11, [.ref q_w, .ref q_isKept, .int t_all, .int t_corners, .int t_hearers, .int t_newAll, .int t_newCorners, .int t_newHearers, .ref q_beer, .ref q_cold, .ref q_stands, .ref q_pinched, .ref q_says, .ref q_text, .int t_textSize, .int t_at, .int t_first, .int t_faultOf, .int t_fault, .int t_spoke, .int t_holds, .int t_undoMany, .ref q_seenDecree, .ref q_seenAt, .ref q_seenSpoke, .int t_seen, .ref q_inSets, .ref q_book, .int t_written]))] [(q_t, .inr (11, [.ref q_w, .ref q_isKept, .int t_all, .int t_corners, .int t_hearers, .int t_newAll, .int t_newCorners, .int t_newHearers, .ref q_beer, .ref q_cold, .ref q_stands, .ref q_pinched, .ref q_says, .ref q_text, .int t_textSize, .int t_at, .int t_first, .int t_faultOf, .int t_fault, .int t_spoke, .int t_holds, .int t_undoMany, .ref q_seenDecree, .ref q_seenAt, .ref q_seenSpoke, .int t_seen, .ref q_inSets, .ref q_book, .int t_written]))] r := by
  refine Ki.mk (cc := cX11_odds) (nL := 6) (ty := .int) (own := RX11) (by decide) rfl rfl (Nat.le_of_ble_eq_true rfl) ?_
  intro p e s m args below meth c A Q ls hX hP hD hS hl hret
  have hx := hX.1.1
  have hb := hX.1.2.1
  have hown := hX.1.2.2.2.1
  have hts := hX.1.2.2.2.2
  have hN := hX.2.2.1
  have hA := hX.2.2.2.2
  have hl : lv_has ls 6 [(0, .ref q_t), (1, .int x1), (2, .int x2)] := hl
  have hk1 := hts (.constantLong RX11 241 (60)) (List.mem_of_getElem? (i := 1) rfl)
  have hk2 := hts (.constantLong RX11 243 (100)) (List.mem_of_getElem? (i := 2) rfl)
  have hk3 := hts (.constant RX11 64 (-1000000002)) (List.mem_of_getElem? (i := 3) rfl)
  have hk4 := hts (.constantLong RX11 245 (1000000000)) (List.mem_of_getElem? (i := 4) rfl)
  have hk5 := hts (.fieldLink RX11 123 "GainsaidOnceModel" "corners" "I") (List.mem_of_getElem? (i := 5) rfl)
  have hiX11 : ∀ w ∈ wsX110, w ∈ wsX11_odds := (fun _ h => List.mem_cons_of_mem _ (List.mem_append_right _ h))
  have L_34 : ∀ (n_34 : Nat) (x1 : Int32) (x2 : Int32) (x3 : Int64) (x5 : Int32) (H : Heap) (locs : List Loc) (ls : Array Slot), f_X11_odds_34 t_corners n_34 x1 x2 x3 x5 = some r → va_P D vwCl [(q_t, .inr (11, [.ref q_w, .ref q_isKept, .int t_all, .int t_corners, .int t_hearers, .int t_newAll, .int t_newCorners, .int t_newHearers, .ref q_beer, .ref q_cold, .ref q_stands, .ref q_pinched, .ref q_says, .ref q_text, .int t_textSize, .int t_at, .int t_first, .int t_faultOf, .int t_fault, .int t_spoke, .int t_holds, .int t_undoMany, .ref q_seenDecree, .ref q_seenAt, .ref q_seenSpoke, .int t_seen, .ref q_inSets, .ref q_book, .int t_written]))] H → va_D A [(q_t, .inr (11, [.ref q_w, .ref q_isKept, .int t_all, .int t_corners, .int t_hearers, .int t_newAll, .int t_newCorners, .int t_newHearers, .ref q_beer, .ref q_cold, .ref q_stands, .ref q_pinched, .ref q_says, .ref q_text, .int t_textSize, .int t_at, .int t_first, .int t_faultOf, .int t_fault, .int t_spoke, .int t_holds, .int t_undoMany, .ref q_seenDecree, .ref q_seenAt, .ref q_seenSpoke, .int t_seen, .ref q_inSets, .ref q_book, .int t_written]))] → va_S A s.heap H locs → lv_has ls 6 [(0, .ref q_t), (1, .int x1), (2, .int x2), (3, .long x3), (5, .int x5)] → W p l e { frames := 1, cells := 0, slots := 0, locals := 25 } s m args below meth c H locs 0 0 Q (F0 m 34 ls []) := by
    intro n_34
    induction n_34 with
    | zero => intro x1 x2 x3 x5 H locs ls hf hP hD hS hl; rw [f_X11_odds_34] at hf; cases hf
    | succ n_34 ih_34 =>
      intro x1 x2 x3 x5 H locs ls hf hP hD hS hl
      rw [f_X11_odds_34] at hf
      refine lv_iload hx hb dX11_odds_34 (lv_at hl 4 rfl) ?_
      refine lv_iload_n hx hb dX11_odds_36 rfl (lv_at hl 1 rfl) ?_
      refine lv_aload_n hx hb dX11_odds_37 rfl (lv_at hl 0 rfl) ?_
      refine g_get hX hiX11 hP 0 rfl rfl 3 (by decide) hk5 rfl rfl dX11_odds_38 ?_
      refine lv_imul hx hb dX11_odds_41 ?_
      refine lv_icmp_ge (tgt := 63) hx hb dX11_odds_42 (by decide) (fun c1 => ?_) (fun c1 => ?_)
      · replace hf := o_ifp hf c1
        refine lv_lload_n hx hb dX11_odds_63 rfl (lv_at hl 3 rfl) ?_
        refine lv_l2i (v := Int64.toInt32 x3) hx hb dX11_odds_64 rfl ?_
        cases hf
        exact hret _ _ _ _ (vp_nar_int _) hP hD hS dX11_odds_65
      replace hf := o_ifn hf c1
      refine lv_lload_n hx hb dX11_odds_45 rfl (lv_at hl 3 rfl) ?_
      refine lv_bipush (v := (100 : Int32)) hx hb dX11_odds_46 (by decide) ?_
      refine lv_iload_n hx hb dX11_odds_48 rfl (lv_at hl 2 rfl) ?_
      refine lv_isub hx hb dX11_odds_49 ?_
      refine lv_i2l (v := Int32.toInt64 ((100 : Int32) - x2)) hx hb dX11_odds_50 rfl ?_
      refine lv_lmul hx hb dX11_odds_51 ?_
      refine lv_ldc2 (v := (100 : Int64)) hx hb hown hk2 dX11_odds_52 ?_
      obtain ⟨hzv2, hf⟩ := o_dvLh hf
      refine lv_ldiv hx hb dX11_odds_55 hzv2 ?_
      refine lv_topl (fun v2 ev2 => ?_)
      replace hf := hf v2 ev2
      refine lv_lstore_n (lv' := [(3, .long v2), (0, .ref q_t), (1, .int x1), (2, .int x2), (5, .int x5)]) hx hb dX11_odds_56 rfl hl (by decide) rfl (fun ls hl => ?_)
      obtain ⟨v3, ev3⟩ : ∃ y : Int32, y = x5 + (1 : Int32) := ⟨_, rfl⟩
      replace hf := o_nmh hf v3 ev3
      refine lv_iinc (v := v3) (lv' := [(5, .int v3), (3, .long v2), (0, .ref q_t), (1, .int x1), (2, .int x2)]) hx hb dX11_odds_57 hl (k := 4) rfl (by rw [ev3]; rfl) (by decide) rfl (fun ls hl => ?_)
      refine lv_goto (tgt := 34) hx hb dX11_odds_60 (by decide) ?_
      exact ih_34 x1 x2 v2 v3 _ _ _ hf hP hD hS (lv_sub hl [2, 3, 4, 1, 0] rfl)
  unfold f_X11_odds at hf
  refine lv_iload_n hx hb dX11_odds_0 rfl (lv_at hl 1 rfl) ?_
  refine lv_i2l (v := Int32.toInt64 x1) hx hb dX11_odds_1 rfl ?_
  refine lv_lconst (v := (0 : Int64)) hx hb dX11_odds_2 (by decide) ?_
  refine lv_ldc2 (v := (60 : Int64)) hx hb hown hk1 dX11_odds_3 ?_
  obtain ⟨o4, ho4, hf⟩ := o_bd hf
  refine call_iS hX (c_X11_in l D a t (Int32.toInt64 x1) (0 : Int64) (60 : Int64) o4 ho4) (va_cwS 3 hts gX11_odds_X11_in rfl rfl rfl hdS_X11_in ⟨by decide, by decide⟩) (Cut.none hA hP hD hS) hS rfl hl.1 rfl (Nat.le_of_ble_eq_true rfl) dX11_odds_6 (by decide) (fun H locs hP hD hS => ?_)
  refine lv_if_eq (tgt := 24) hx hb dX11_odds_9 (by decide) (fun c5 => ?_) (fun c5 => ?_)
  · replace hf := o_ifp hf c5
    refine lv_ldc (v := (-1000000002 : Int32)) hx hb hown hk3 dX11_odds_24 ?_
    cases hf
    exact hret _ _ _ _ (vp_nar_int _) hP hD hS dX11_odds_26
  replace hf := o_ifn hf c5
  refine lv_iload_n hx hb dX11_odds_12 rfl (lv_at hl 2 rfl) ?_
  refine lv_i2l (v := Int32.toInt64 x2) hx hb dX11_odds_13 rfl ?_
  refine lv_lconst (v := (0 : Int64)) hx hb dX11_odds_14 (by decide) ?_
  refine lv_ldc2 (v := (100 : Int64)) hx hb hown hk2 dX11_odds_15 ?_
  obtain ⟨o6, ho6, hf⟩ := o_bd hf
  refine call_iS hX (c_X11_in l D a t (Int32.toInt64 x2) (0 : Int64) (100 : Int64) o6 ho6) (va_cwS 3 hts gX11_odds_X11_in rfl rfl rfl hdS_X11_in ⟨by decide, by decide⟩) (Cut.none hA hP hD hS) hS rfl hl.1 rfl (Nat.le_of_ble_eq_true rfl) dX11_odds_18 (by decide) (fun H locs hP hD hS => ?_)
  refine lv_if_ne (tgt := 27) hx hb dX11_odds_21 (by decide) (fun c7 => ?_) (fun c7 => ?_)
  · replace hf := o_ifn hf c7
    refine lv_ldc2 (v := (1000000000 : Int64)) hx hb hown hk4 dX11_odds_27 ?_
    refine lv_lstore_n (lv' := [(3, .long (1000000000 : Int64)), (0, .ref q_t), (1, .int x1), (2, .int x2)]) hx hb dX11_odds_30 rfl hl (by decide) rfl (fun ls hl => ?_)
    refine lv_iconst (v := (0 : Int32)) hx hb dX11_odds_31 (by decide) ?_
    refine lv_istore (lv' := [(5, .int (0 : Int32)), (3, .long (1000000000 : Int64)), (0, .ref q_t), (1, .int x1), (2, .int x2)]) hx hb dX11_odds_32 hl (by decide) rfl (fun ls hl => ?_)
    exact L_34 1000 x1 x2 (1000000000 : Int64) (0 : Int32) _ _ _ hf hP hD hS (lv_sub hl [2, 3, 4, 1, 0] rfl)
  replace hf := o_ifp hf c7
  refine lv_ldc (v := (-1000000002 : Int32)) hx hb hown hk3 dX11_odds_24 ?_
  cases hf
  exact hret _ _ _ _ (vp_nar_int _) hP hD hS dX11_odds_26
def f_X11_see (t_all : Int32) (t_corners : Int32) (t_seen : Int32) (seenAt : Nat → Int32) (seenDecree : Nat → Int32) (seenSpoke : Nat → Int32) (x1 : Int32) (x2 : Int32) (x3 : Int32) : Option (Int32 × Int32 × (Nat → Int32) × (Nat → Int32) × (Nat → Int32)) :=
  (f_X11_isDecree t_all x1).bind fun o1 =>
  if o1 = 0 then (some ((-1000000001 : Int32), t_seen, seenAt, seenDecree, seenSpoke))
  else ((f_X11_isCorner t_corners x2).bind fun o3 =>
  if o3 = 0 then (some ((-1000000001 : Int32), t_seen, seenAt, seenDecree, seenSpoke))
  else ((f_X11_in (Int32.toInt64 x3) (0 : Int64) (9 : Int64)).bind fun o5 =>
  if o5 = 0 then (some ((-1000000002 : Int32), t_seen, seenAt, seenDecree, seenSpoke))
  else (if t_seen = (6 : Int32) then (some ((-1000000004 : Int32), t_seen, seenAt, seenDecree, seenSpoke))
  else ((o_st seenDecree 6 t_seen x1).bind fun w8 =>
  (o_st seenAt 6 t_seen x2).bind fun w9 =>
  (o_st seenSpoke 6 t_seen x3).bind fun w10 =>
  o_nm ((t_seen + (1 : Int32))) fun v11 =>
  some (v11, v11, w9, w8, w10)))))
theorem hdS_X11_see : yX11_see.cls ≠ "java/lang/invoke/MethodHandle" ∧ yX11_see.cls ≠ "java/lang/invoke/VarHandle" ∧ (parseMethodDescriptor yX11_see.desc).map (fun d => d.parameters.length) = some 3 := by decide +kernel
theorem hdV_X11_see : yX11_see.cls = RX11 ∧ yX11_see.cls ≠ "java/lang/invoke/MethodHandle" ∧ yX11_see.cls ≠ "java/lang/invoke/VarHandle" ∧ (parseMethodDescriptor yX11_see.desc).map (fun d => d.parameters.length) = some 3 := ⟨rfl, hdS_X11_see⟩
set_option maxHeartbeats 4000000 in
set_option maxRecDepth 100000 in
theorem c_X11_see (l : Launch) (D : va_G) (a : Nat → ClassId) (t : Nat) (q_t : Nat) (q_w : Nat) (q_isKept : Nat) (t_all : Int32) (t_corners : Int32) (t_hearers : Int32) (t_newAll : Int32) (t_newCorners : Int32) (t_newHearers : Int32) (q_beer : Nat) (q_cold : Nat) (q_stands : Nat) (q_pinched : Nat) (q_says : Nat) (q_text : Nat) (t_textSize : Int32) (t_at : Int32) (t_first : Int32) (t_faultOf : Int32) (t_fault : Int32) (t_spoke : Int32) (t_holds : Int32) (t_undoMany : Int32) (q_seenDecree : Nat) (q_seenAt : Nat) (q_seenSpoke : Nat) (t_seen : Int32) (q_inSets : Nat) (q_book : Nat) (t_written : Int32) (seenAt : Nat → Int32) (seenDecree : Nat → Int32) (seenSpoke : Nat → Int32) (x1 : Int32) (x2 : Int32) (x3 : Int32) (r : Int32) (o_t_seen : Int32) (o_seenAt : Nat → Int32) (o_seenDecree : Nat → Int32) (o_seenSpoke : Nat → Int32) (hf : f_X11_see t_all t_corners t_seen seenAt seenDecree seenSpoke x1 x2 x3 = some (r, o_t_seen, o_seenAt, o_seenDecree, o_seenSpoke)) : Ki l yX11_see wsX11_see 2 46 D a t [.ref q_t, .int x1, .int x2, .int x3] [(q_t, .inr (11, [.ref q_w, .ref q_isKept, .int t_all, .int t_corners, .int t_hearers, .int t_newAll, .int t_newCorners, .int t_newHearers, .ref q_beer, .ref q_cold, .ref q_stands, .ref q_pinched, .ref q_says, .ref q_text, .int t_textSize, .int t_at, .int t_first, .int t_faultOf, .int t_fault, .int t_spoke, .int t_holds, .int t_undoMany, .ref q_seenDecree, .ref q_seenAt, .ref q_seenSpoke, .int t_seen, .ref q_inSets, .ref q_book, .int t_written])), (q_seenAt, .inl (a 0, 6, .inl seenAt)), (q_seenDecree, .inl (a 0, 6, .inl seenDecree)), (q_seenSpoke, .inl (a 0, 6, .inl seenSpoke))] [(q_t, .inr (11, [.ref q_w, .ref q_isKept, .int t_all, .int t_corners, .int t_hearers, .int t_newAll, .int t_newCorners, .int t_newHearers, .ref q_beer, .ref q_cold, .ref q_stands, .ref q_pinched, .ref q_says, .ref q_text, .int t_textSize, .int t_at, .int t_first, .int t_faultOf, .int t_fault, .int t_spoke, .int t_holds, .int t_undoMany, .ref q_seenDecree, .ref q_seenAt, .ref q_seenSpoke, .int o_t_seen, .ref q_inSets, .ref q_book, .int t_written])), (q_seenAt, .inl (a 0, 6, .inl o_seenAt)), (q_seenDecree, .inl (a 0, 6, .inl o_seenDecree)), (q_seenSpoke, .inl (a 0, 6, .inl o_seenSpoke))] r := by
  refine Ki.mk (cc := cX11_see) (nL := 4) (ty := .int) (own := RX11) (by decide) rfl rfl (Nat.le_of_ble_eq_true rfl) ?_
  intro p e s m args below meth c A Q ls hX hP hD hS hl hret
  have hx := hX.1.1
  have hb := hX.1.2.1
  have hown := hX.1.2.2.2.1
  have hts := hX.1.2.2.2.2
  have hN := hX.2.2.1
  have hA := hX.2.2.2.2
  have hl : lv_has ls 4 [(0, .ref q_t), (1, .int x1), (2, .int x2), (3, .int x3)] := hl
  have hk1 := hts (.constant RX11 149 (-1000000001)) (List.mem_of_getElem? (i := 1) rfl)
  have hk2 := hts (.constantLong RX11 247 (9)) (List.mem_of_getElem? (i := 2) rfl)
  have hk3 := hts (.constant RX11 64 (-1000000002)) (List.mem_of_getElem? (i := 3) rfl)
  have hk4 := hts (.fieldLink RX11 136 "GainsaidOnceModel" "seen" "I") (List.mem_of_getElem? (i := 4) rfl)
  have hk5 := hts (.constant RX11 68 (-1000000004)) (List.mem_of_getElem? (i := 5) rfl)
  have hk6 := hts (.fieldLink RX11 39 "GainsaidOnceModel" "seenDecree" "[I") (List.mem_of_getElem? (i := 6) rfl)
  have hk7 := hts (.fieldLink RX11 42 "GainsaidOnceModel" "seenAt" "[I") (List.mem_of_getElem? (i := 7) rfl)
  have hk8 := hts (.fieldLink RX11 45 "GainsaidOnceModel" "seenSpoke" "[I") (List.mem_of_getElem? (i := 8) rfl)
  have hiX11 : ∀ w ∈ wsX110, w ∈ wsX11_see := (fun _ h => List.mem_cons_of_mem _ (List.mem_append_right _ h))
  unfold f_X11_see at hf
  refine lv_aload_n hx hb dX11_see_0 rfl (lv_at hl 0 rfl) ?_
  refine lv_iload_n hx hb dX11_see_1 rfl (lv_at hl 1 rfl) ?_
  obtain ⟨o1, ho1, hf⟩ := o_bd hf
  refine call_iV (q0 := 0) (ci := 11) hX (c_X11_isDecree l D a t q_t q_w q_isKept t_all t_corners t_hearers t_newAll t_newCorners t_newHearers q_beer q_cold q_stands q_pinched q_says q_text t_textSize t_at t_first t_faultOf t_fault t_spoke t_holds t_undoMany q_seenDecree q_seenAt q_seenSpoke t_seen q_inSets q_book t_written x1 o1 ho1) (cwV 1 hts gX11_see_X11_isDecree rfl rfl rfl hdV_X11_isDecree ⟨by decide, by decide⟩) (Cut.of hA hP hD hS [0] (by decide) rfl rfl (W' := [(q_t, .inr (11, [.ref q_w, .ref q_isKept, .int t_all, .int t_corners, .int t_hearers, .int t_newAll, .int t_newCorners, .int t_newHearers, .ref q_beer, .ref q_cold, .ref q_stands, .ref q_pinched, .ref q_says, .ref q_text, .int t_textSize, .int t_at, .int t_first, .int t_faultOf, .int t_fault, .int t_spoke, .int t_holds, .int t_undoMany, .ref q_seenDecree, .ref q_seenAt, .ref q_seenSpoke, .int t_seen, .ref q_inSets, .ref q_book, .int t_written])), (q_seenAt, .inl (a 0, 6, .inl seenAt)), (q_seenDecree, .inl (a 0, 6, .inl seenDecree)), (q_seenSpoke, .inl (a 0, 6, .inl seenSpoke))]) rfl) hS rfl rfl rfl hl.1 rfl (Nat.le_of_ble_eq_true rfl) dX11_see_2 (by decide) (fun H locs hP hD hS => ?_)
  replace hP : va_P D vwCl [(q_t, .inr (11, [.ref q_w, .ref q_isKept, .int t_all, .int t_corners, .int t_hearers, .int t_newAll, .int t_newCorners, .int t_newHearers, .ref q_beer, .ref q_cold, .ref q_stands, .ref q_pinched, .ref q_says, .ref q_text, .int t_textSize, .int t_at, .int t_first, .int t_faultOf, .int t_fault, .int t_spoke, .int t_holds, .int t_undoMany, .ref q_seenDecree, .ref q_seenAt, .ref q_seenSpoke, .int t_seen, .ref q_inSets, .ref q_book, .int t_written])), (q_seenAt, .inl (a 0, 6, .inl seenAt)), (q_seenDecree, .inl (a 0, 6, .inl seenDecree)), (q_seenSpoke, .inl (a 0, 6, .inl seenSpoke))] H := hP
  replace hD : va_D A [(q_t, .inr (11, [.ref q_w, .ref q_isKept, .int t_all, .int t_corners, .int t_hearers, .int t_newAll, .int t_newCorners, .int t_newHearers, .ref q_beer, .ref q_cold, .ref q_stands, .ref q_pinched, .ref q_says, .ref q_text, .int t_textSize, .int t_at, .int t_first, .int t_faultOf, .int t_fault, .int t_spoke, .int t_holds, .int t_undoMany, .ref q_seenDecree, .ref q_seenAt, .ref q_seenSpoke, .int t_seen, .ref q_inSets, .ref q_book, .int t_written])), (q_seenAt, .inl (a 0, 6, .inl seenAt)), (q_seenDecree, .inl (a 0, 6, .inl seenDecree)), (q_seenSpoke, .inl (a 0, 6, .inl seenSpoke))] := hD
  refine lv_if_eq (tgt := 16) hx hb dX11_see_5 (by decide) (fun c2 => ?_) (fun c2 => ?_)
  · replace hf := o_ifp hf c2
    refine lv_ldc (v := (-1000000001 : Int32)) hx hb hown hk1 dX11_see_16 ?_
    cases hf
    exact hret _ _ _ _ (vp_nar_int _) hP hD hS dX11_see_18
  replace hf := o_ifn hf c2
  refine lv_aload_n hx hb dX11_see_8 rfl (lv_at hl 0 rfl) ?_
  refine lv_iload_n hx hb dX11_see_9 rfl (lv_at hl 2 rfl) ?_
  obtain ⟨o3, ho3, hf⟩ := o_bd hf
  refine call_iV (q0 := 0) (ci := 11) hX (c_X11_isCorner l D a t q_t q_w q_isKept t_all t_corners t_hearers t_newAll t_newCorners t_newHearers q_beer q_cold q_stands q_pinched q_says q_text t_textSize t_at t_first t_faultOf t_fault t_spoke t_holds t_undoMany q_seenDecree q_seenAt q_seenSpoke t_seen q_inSets q_book t_written x2 o3 ho3) (cwV 1 hts gX11_see_X11_isCorner rfl rfl rfl hdV_X11_isCorner ⟨by decide, by decide⟩) (Cut.of hA hP hD hS [0] (by decide) rfl rfl (W' := [(q_t, .inr (11, [.ref q_w, .ref q_isKept, .int t_all, .int t_corners, .int t_hearers, .int t_newAll, .int t_newCorners, .int t_newHearers, .ref q_beer, .ref q_cold, .ref q_stands, .ref q_pinched, .ref q_says, .ref q_text, .int t_textSize, .int t_at, .int t_first, .int t_faultOf, .int t_fault, .int t_spoke, .int t_holds, .int t_undoMany, .ref q_seenDecree, .ref q_seenAt, .ref q_seenSpoke, .int t_seen, .ref q_inSets, .ref q_book, .int t_written])), (q_seenAt, .inl (a 0, 6, .inl seenAt)), (q_seenDecree, .inl (a 0, 6, .inl seenDecree)), (q_seenSpoke, .inl (a 0, 6, .inl seenSpoke))]) rfl) hS rfl rfl rfl hl.1 rfl (Nat.le_of_ble_eq_true rfl) dX11_see_10 (by decide) (fun H locs hP hD hS => ?_)
  replace hP : va_P D vwCl [(q_t, .inr (11, [.ref q_w, .ref q_isKept, .int t_all, .int t_corners, .int t_hearers, .int t_newAll, .int t_newCorners, .int t_newHearers, .ref q_beer, .ref q_cold, .ref q_stands, .ref q_pinched, .ref q_says, .ref q_text, .int t_textSize, .int t_at, .int t_first, .int t_faultOf, .int t_fault, .int t_spoke, .int t_holds, .int t_undoMany, .ref q_seenDecree, .ref q_seenAt, .ref q_seenSpoke, .int t_seen, .ref q_inSets, .ref q_book, .int t_written])), (q_seenAt, .inl (a 0, 6, .inl seenAt)), (q_seenDecree, .inl (a 0, 6, .inl seenDecree)), (q_seenSpoke, .inl (a 0, 6, .inl seenSpoke))] H := hP
  replace hD : va_D A [(q_t, .inr (11, [.ref q_w, .ref q_isKept, .int t_all, .int t_corners, .int t_hearers, .int t_newAll, .int t_newCorners, .int t_newHearers, .ref q_beer, .ref q_cold, .ref q_stands, .ref q_pinched, .ref q_says, .ref q_text, .int t_textSize, .int t_at, .int t_first, .int t_faultOf, .int t_fault, .int t_spoke, .int t_holds, .int t_undoMany, .ref q_seenDecree, .ref q_seenAt, .ref q_seenSpoke, .int t_seen, .ref q_inSets, .ref q_book, .int t_written])), (q_seenAt, .inl (a 0, 6, .inl seenAt)), (q_seenDecree, .inl (a 0, 6, .inl seenDecree)), (q_seenSpoke, .inl (a 0, 6, .inl seenSpoke))] := hD
  refine lv_if_ne (tgt := 19) hx hb dX11_see_13 (by decide) (fun c4 => ?_) (fun c4 => ?_)
  · replace hf := o_ifn hf c4
    refine lv_iload_n hx hb dX11_see_19 rfl (lv_at hl 3 rfl) ?_
    refine lv_i2l (v := Int32.toInt64 x3) hx hb dX11_see_20 rfl ?_
    refine lv_lconst (v := (0 : Int64)) hx hb dX11_see_21 (by decide) ?_
    refine lv_ldc2 (v := (9 : Int64)) hx hb hown hk2 dX11_see_22 ?_
    obtain ⟨o5, ho5, hf⟩ := o_bd hf
    refine call_iS hX (c_X11_in l D a t (Int32.toInt64 x3) (0 : Int64) (9 : Int64) o5 ho5) (va_cwS 3 hts gX11_see_X11_in rfl rfl rfl hdS_X11_in ⟨by decide, by decide⟩) (Cut.none hA hP hD hS) hS rfl hl.1 rfl (Nat.le_of_ble_eq_true rfl) dX11_see_25 (by decide) (fun H locs hP hD hS => ?_)
    refine lv_if_ne (tgt := 34) hx hb dX11_see_28 (by decide) (fun c6 => ?_) (fun c6 => ?_)
    · replace hf := o_ifn hf c6
      refine lv_aload_n hx hb dX11_see_34 rfl (lv_at hl 0 rfl) ?_
      refine g_get hX hiX11 hP 0 rfl rfl 25 (by decide) hk4 rfl rfl dX11_see_35 ?_
      refine lv_bipush (v := (6 : Int32)) hx hb dX11_see_38 (by decide) ?_
      refine lv_icmp_ne (tgt := 46) hx hb dX11_see_40 (by decide) (fun c7 => ?_) (fun c7 => ?_)
      · replace hf := o_ifn hf c7
        refine lv_aload_n hx hb dX11_see_46 rfl (lv_at hl 0 rfl) ?_
        refine g_get hX hiX11 hP 0 rfl rfl 22 (by decide) hk6 rfl rfl dX11_see_47 ?_
        refine lv_aload_n hx hb dX11_see_50 rfl (lv_at hl 0 rfl) ?_
        refine g_get hX hiX11 hP 0 rfl rfl 25 (by decide) hk4 rfl rfl dX11_see_51 ?_
        refine lv_iload_n hx hb dX11_see_54 rfl (lv_at hl 1 rfl) ?_
        obtain ⟨hiw8, hf⟩ := o_sth hf
        refine g_iast hX hP hD hS 2 rfl hiw8 dX11_see_55 (fun w8 ew8 H locs hP hD hS => ?_)
        replace hf := hf w8 ew8
        replace hP : va_P D vwCl [(q_t, .inr (11, [.ref q_w, .ref q_isKept, .int t_all, .int t_corners, .int t_hearers, .int t_newAll, .int t_newCorners, .int t_newHearers, .ref q_beer, .ref q_cold, .ref q_stands, .ref q_pinched, .ref q_says, .ref q_text, .int t_textSize, .int t_at, .int t_first, .int t_faultOf, .int t_fault, .int t_spoke, .int t_holds, .int t_undoMany, .ref q_seenDecree, .ref q_seenAt, .ref q_seenSpoke, .int t_seen, .ref q_inSets, .ref q_book, .int t_written])), (q_seenAt, .inl (a 0, 6, .inl seenAt)), (q_seenDecree, .inl (a 0, 6, .inl w8)), (q_seenSpoke, .inl (a 0, 6, .inl seenSpoke))] H := hP
        replace hD : va_D A [(q_t, .inr (11, [.ref q_w, .ref q_isKept, .int t_all, .int t_corners, .int t_hearers, .int t_newAll, .int t_newCorners, .int t_newHearers, .ref q_beer, .ref q_cold, .ref q_stands, .ref q_pinched, .ref q_says, .ref q_text, .int t_textSize, .int t_at, .int t_first, .int t_faultOf, .int t_fault, .int t_spoke, .int t_holds, .int t_undoMany, .ref q_seenDecree, .ref q_seenAt, .ref q_seenSpoke, .int t_seen, .ref q_inSets, .ref q_book, .int t_written])), (q_seenAt, .inl (a 0, 6, .inl seenAt)), (q_seenDecree, .inl (a 0, 6, .inl w8)), (q_seenSpoke, .inl (a 0, 6, .inl seenSpoke))] := hD
        refine lv_aload_n hx hb dX11_see_56 rfl (lv_at hl 0 rfl) ?_
        refine g_get hX hiX11 hP 0 rfl rfl 23 (by decide) hk7 rfl rfl dX11_see_57 ?_
        refine lv_aload_n hx hb dX11_see_60 rfl (lv_at hl 0 rfl) ?_
        refine g_get hX hiX11 hP 0 rfl rfl 25 (by decide) hk4 rfl rfl dX11_see_61 ?_
        refine lv_iload_n hx hb dX11_see_64 rfl (lv_at hl 2 rfl) ?_
        obtain ⟨hiw9, hf⟩ := o_sth hf
        refine g_iast hX hP hD hS 1 rfl hiw9 dX11_see_65 (fun w9 ew9 H locs hP hD hS => ?_)
        replace hf := hf w9 ew9
        replace hP : va_P D vwCl [(q_t, .inr (11, [.ref q_w, .ref q_isKept, .int t_all, .int t_corners, .int t_hearers, .int t_newAll, .int t_newCorners, .int t_newHearers, .ref q_beer, .ref q_cold, .ref q_stands, .ref q_pinched, .ref q_says, .ref q_text, .int t_textSize, .int t_at, .int t_first, .int t_faultOf, .int t_fault, .int t_spoke, .int t_holds, .int t_undoMany, .ref q_seenDecree, .ref q_seenAt, .ref q_seenSpoke, .int t_seen, .ref q_inSets, .ref q_book, .int t_written])), (q_seenAt, .inl (a 0, 6, .inl w9)), (q_seenDecree, .inl (a 0, 6, .inl w8)), (q_seenSpoke, .inl (a 0, 6, .inl seenSpoke))] H := hP
        replace hD : va_D A [(q_t, .inr (11, [.ref q_w, .ref q_isKept, .int t_all, .int t_corners, .int t_hearers, .int t_newAll, .int t_newCorners, .int t_newHearers, .ref q_beer, .ref q_cold, .ref q_stands, .ref q_pinched, .ref q_says, .ref q_text, .int t_textSize, .int t_at, .int t_first, .int t_faultOf, .int t_fault, .int t_spoke, .int t_holds, .int t_undoMany, .ref q_seenDecree, .ref q_seenAt, .ref q_seenSpoke, .int t_seen, .ref q_inSets, .ref q_book, .int t_written])), (q_seenAt, .inl (a 0, 6, .inl w9)), (q_seenDecree, .inl (a 0, 6, .inl w8)), (q_seenSpoke, .inl (a 0, 6, .inl seenSpoke))] := hD
        refine lv_aload_n hx hb dX11_see_66 rfl (lv_at hl 0 rfl) ?_
        refine g_get hX hiX11 hP 0 rfl rfl 24 (by decide) hk8 rfl rfl dX11_see_67 ?_
        refine lv_aload_n hx hb dX11_see_70 rfl (lv_at hl 0 rfl) ?_
        refine g_get hX hiX11 hP 0 rfl rfl 25 (by decide) hk4 rfl rfl dX11_see_71 ?_
        refine lv_iload_n hx hb dX11_see_74 rfl (lv_at hl 3 rfl) ?_
        obtain ⟨hiw10, hf⟩ := o_sth hf
        refine g_iast hX hP hD hS 3 rfl hiw10 dX11_see_75 (fun w10 ew10 H locs hP hD hS => ?_)
        replace hf := hf w10 ew10
        replace hP : va_P D vwCl [(q_t, .inr (11, [.ref q_w, .ref q_isKept, .int t_all, .int t_corners, .int t_hearers, .int t_newAll, .int t_newCorners, .int t_newHearers, .ref q_beer, .ref q_cold, .ref q_stands, .ref q_pinched, .ref q_says, .ref q_text, .int t_textSize, .int t_at, .int t_first, .int t_faultOf, .int t_fault, .int t_spoke, .int t_holds, .int t_undoMany, .ref q_seenDecree, .ref q_seenAt, .ref q_seenSpoke, .int t_seen, .ref q_inSets, .ref q_book, .int t_written])), (q_seenAt, .inl (a 0, 6, .inl w9)), (q_seenDecree, .inl (a 0, 6, .inl w8)), (q_seenSpoke, .inl (a 0, 6, .inl w10))] H := hP
        replace hD : va_D A [(q_t, .inr (11, [.ref q_w, .ref q_isKept, .int t_all, .int t_corners, .int t_hearers, .int t_newAll, .int t_newCorners, .int t_newHearers, .ref q_beer, .ref q_cold, .ref q_stands, .ref q_pinched, .ref q_says, .ref q_text, .int t_textSize, .int t_at, .int t_first, .int t_faultOf, .int t_fault, .int t_spoke, .int t_holds, .int t_undoMany, .ref q_seenDecree, .ref q_seenAt, .ref q_seenSpoke, .int t_seen, .ref q_inSets, .ref q_book, .int t_written])), (q_seenAt, .inl (a 0, 6, .inl w9)), (q_seenDecree, .inl (a 0, 6, .inl w8)), (q_seenSpoke, .inl (a 0, 6, .inl w10))] := hD
        refine lv_aload_n hx hb dX11_see_76 rfl (lv_at hl 0 rfl) ?_
        refine lv_dup hx hb dX11_see_77 rfl ?_
        refine g_get hX hiX11 hP 0 rfl rfl 25 (by decide) hk4 rfl rfl dX11_see_78 ?_
        refine lv_iconst (v := (1 : Int32)) hx hb dX11_see_81 (by decide) ?_
        refine lv_iadd hx hb dX11_see_82 ?_
        refine lv_topi (fun v11 ev11 => ?_)
        replace hf := o_nmh hf v11 ev11
        refine g_put hX hiX11 tyX11 tyX11_ok nmX11 hP hD hS 0 rfl rfl 25 (by decide) hk4 rfl rfl rfl rfl (Nat.le_of_ble_eq_true rfl) dX11_see_83 (fun H locs hP hD hS => ?_)
        replace hP : va_P D vwCl [(q_t, .inr (11, [.ref q_w, .ref q_isKept, .int t_all, .int t_corners, .int t_hearers, .int t_newAll, .int t_newCorners, .int t_newHearers, .ref q_beer, .ref q_cold, .ref q_stands, .ref q_pinched, .ref q_says, .ref q_text, .int t_textSize, .int t_at, .int t_first, .int t_faultOf, .int t_fault, .int t_spoke, .int t_holds, .int t_undoMany, .ref q_seenDecree, .ref q_seenAt, .ref q_seenSpoke, .int v11, .ref q_inSets, .ref q_book, .int t_written])), (q_seenAt, .inl (a 0, 6, .inl w9)), (q_seenDecree, .inl (a 0, 6, .inl w8)), (q_seenSpoke, .inl (a 0, 6, .inl w10))] H := hP
        replace hD : va_D A [(q_t, .inr (11, [.ref q_w, .ref q_isKept, .int t_all, .int t_corners, .int t_hearers, .int t_newAll, .int t_newCorners, .int t_newHearers, .ref q_beer, .ref q_cold, .ref q_stands, .ref q_pinched, .ref q_says, .ref q_text, .int t_textSize, .int t_at, .int t_first, .int t_faultOf, .int t_fault, .int t_spoke, .int t_holds, .int t_undoMany, .ref q_seenDecree, .ref q_seenAt, .ref q_seenSpoke, .int v11, .ref q_inSets, .ref q_book, .int t_written])), (q_seenAt, .inl (a 0, 6, .inl w9)), (q_seenDecree, .inl (a 0, 6, .inl w8)), (q_seenSpoke, .inl (a 0, 6, .inl w10))] := hD
        refine lv_aload_n hx hb dX11_see_86 rfl (lv_at hl 0 rfl) ?_
        refine g_get hX hiX11 hP 0 rfl rfl 25 (by decide) hk4 rfl rfl dX11_see_87 ?_
        cases hf
        exact hret _ _ _ _ (vp_nar_int _) hP hD hS dX11_see_90
      replace hf := o_ifp hf c7
      refine lv_ldc (v := (-1000000004 : Int32)) hx hb hown hk5 dX11_see_43 ?_
      cases hf
      exact hret _ _ _ _ (vp_nar_int _) hP hD hS dX11_see_45
    replace hf := o_ifp hf c6
    refine lv_ldc (v := (-1000000002 : Int32)) hx hb hown hk3 dX11_see_31 ?_
    cases hf
    exact hret _ _ _ _ (vp_nar_int _) hP hD hS dX11_see_33
  replace hf := o_ifp hf c4
  refine lv_ldc (v := (-1000000001 : Int32)) hx hb hown hk1 dX11_see_16 ?_
  cases hf
  exact hret _ _ _ _ (vp_nar_int _) hP hD hS dX11_see_18
def f_X11_isAsSeen_22 (t_hearers : Int32) (t_seen : Int32) (pinched : Nat → Int32) (seenAt : Nat → Int32) (seenDecree : Nat → Int32) (seenSpoke : Nat → Int32) : Nat → (Nat → Int32) → Int32 → Int32 → Option (Int32 × (Nat → Int32))
  | 0, _, _, _ => none
  | n_22 + 1, w, x2, x3 =>
    if t_seen ≤ x3 then ((o_zb x2).bind fun _ =>
    some (x2, w))
    else (if x2 = 0 then ((o_zb x2).bind fun _ =>
    some (x2, w))
    else ((o_ld seenAt 6 x3).bind fun v3 =>
    (o_ld seenDecree 6 x3).bind fun v4 =>
    (f_X11_speakers t_hearers pinched w (17 : Int32) v3 v4 (0 : Int32)).bind fun o5 =>
    (f_X11_ones o5).bind fun o6 =>
    (o_ld seenSpoke 6 x3).bind fun v7 =>
    if o6 = v7 then (o_nm (x3 + (1 : Int32)) fun v10 =>
    f_X11_isAsSeen_22 t_hearers t_seen pinched seenAt seenDecree seenSpoke n_22 w (1 : Int32) v10)
    else (o_nm (x3 + (1 : Int32)) fun v9 =>
    f_X11_isAsSeen_22 t_hearers t_seen pinched seenAt seenDecree seenSpoke n_22 w (0 : Int32) v9)))
def f_X11_isAsSeen (t_hearers : Int32) (t_seen : Int32) (pinched : Nat → Int32) (seenAt : Nat → Int32) (seenDecree : Nat → Int32) (seenSpoke : Nat → Int32) (w : Nat → Int32) (x1 : Int32) : Option (Int32 × (Nat → Int32)) :=
  (f_X11_copy w (0 : Int32) (17 : Int32)).bind fun o11 =>
  (o_ld o11 578 (27 : Int32)).bind fun v12 =>
  (o_st o11 578 (27 : Int32) (v12 ||| x1)).bind fun w13 =>
  f_X11_isAsSeen_22 t_hearers t_seen pinched seenAt seenDecree seenSpoke 1000 w13 (1 : Int32) (0 : Int32)
theorem hdS_X11_isAsSeen : yX11_isAsSeen.cls ≠ "java/lang/invoke/MethodHandle" ∧ yX11_isAsSeen.cls ≠ "java/lang/invoke/VarHandle" ∧ (parseMethodDescriptor yX11_isAsSeen.desc).map (fun d => d.parameters.length) = some 1 := by decide +kernel
theorem hdV_X11_isAsSeen : yX11_isAsSeen.cls = RX11 ∧ yX11_isAsSeen.cls ≠ "java/lang/invoke/MethodHandle" ∧ yX11_isAsSeen.cls ≠ "java/lang/invoke/VarHandle" ∧ (parseMethodDescriptor yX11_isAsSeen.desc).map (fun d => d.parameters.length) = some 1 := ⟨rfl, hdS_X11_isAsSeen⟩
set_option maxHeartbeats 4000000 in
set_option maxRecDepth 100000 in
theorem c_X11_isAsSeen (l : Launch) (D : va_G) (a : Nat → ClassId) (t : Nat) (q_t : Nat) (q_w : Nat) (q_isKept : Nat) (t_all : Int32) (t_corners : Int32) (t_hearers : Int32) (t_newAll : Int32) (t_newCorners : Int32) (t_newHearers : Int32) (q_beer : Nat) (q_cold : Nat) (q_stands : Nat) (q_pinched : Nat) (q_says : Nat) (q_text : Nat) (t_textSize : Int32) (t_at : Int32) (t_first : Int32) (t_faultOf : Int32) (t_fault : Int32) (t_spoke : Int32) (t_holds : Int32) (t_undoMany : Int32) (q_seenDecree : Nat) (q_seenAt : Nat) (q_seenSpoke : Nat) (t_seen : Int32) (q_inSets : Nat) (q_book : Nat) (t_written : Int32) (pinched : Nat → Int32) (seenAt : Nat → Int32) (seenDecree : Nat → Int32) (seenSpoke : Nat → Int32) (w : Nat → Int32) (x1 : Int32) (r : Int32) (o_w : Nat → Int32) (hf : f_X11_isAsSeen t_hearers t_seen pinched seenAt seenDecree seenSpoke w x1 = some (r, o_w)) : Ki l yX11_isAsSeen wsX11_isAsSeen 3 72 D a t [.ref q_t, .int x1] [(q_t, .inr (11, [.ref q_w, .ref q_isKept, .int t_all, .int t_corners, .int t_hearers, .int t_newAll, .int t_newCorners, .int t_newHearers, .ref q_beer, .ref q_cold, .ref q_stands, .ref q_pinched, .ref q_says, .ref q_text, .int t_textSize, .int t_at, .int t_first, .int t_faultOf, .int t_fault, .int t_spoke, .int t_holds, .int t_undoMany, .ref q_seenDecree, .ref q_seenAt, .ref q_seenSpoke, .int t_seen, .ref q_inSets, .ref q_book, .int t_written])), (q_pinched, .inl (a 0, 18, .inl pinched)), (q_seenAt, .inl (a 0, 6, .inl seenAt)), (q_seenDecree, .inl (a 0, 6, .inl seenDecree)), (q_seenSpoke, .inl (a 0, 6, .inl seenSpoke)), (q_w, .inl (a 0, 578, .inl w))] [(q_t, .inr (11, [.ref q_w, .ref q_isKept, .int t_all, .int t_corners, .int t_hearers, .int t_newAll, .int t_newCorners, .int t_newHearers, .ref q_beer, .ref q_cold, .ref q_stands, .ref q_pinched, .ref q_says, .ref q_text, .int t_textSize, .int t_at, .int t_first, .int t_faultOf, .int t_fault, .int t_spoke, .int t_holds, .int t_undoMany, .ref q_seenDecree, .ref q_seenAt, .ref q_seenSpoke, .int t_seen, .ref q_inSets, .ref q_book, .int t_written])), (q_pinched, .inl (a 0, 18, .inl pinched)), (q_seenAt, .inl (a 0, 6, .inl seenAt)), (q_seenDecree, .inl (a 0, 6, .inl seenDecree)), (q_seenSpoke, .inl (a 0, 6, .inl seenSpoke)), (q_w, .inl (a 0, 578, .inl o_w))] r := by
  refine Ki.mk (cc := cX11_isAsSeen) (nL := 4) (ty := .boolean) (own := RX11) (by decide) rfl rfl (Nat.le_of_ble_eq_true rfl) ?_
  intro p e s m args below meth c A Q ls hX hP hD hS hl hret
  have hx := hX.1.1
  have hb := hX.1.2.1
  have hown := hX.1.2.2.2.1
  have hts := hX.1.2.2.2.2
  have hN := hX.2.2.1
  have hA := hX.2.2.2.2
  have hl : lv_has ls 4 [(0, .ref q_t), (1, .int x1)] := hl
  have hk1 := hts (.fieldLink RX11 7 "GainsaidOnceModel" "w" "[I") (List.mem_of_getElem? (i := 1) rfl)
  have hk2 := hts (.fieldLink RX11 136 "GainsaidOnceModel" "seen" "I") (List.mem_of_getElem? (i := 2) rfl)
  have hk3 := hts (.fieldLink RX11 42 "GainsaidOnceModel" "seenAt" "[I") (List.mem_of_getElem? (i := 3) rfl)
  have hk4 := hts (.fieldLink RX11 39 "GainsaidOnceModel" "seenDecree" "[I") (List.mem_of_getElem? (i := 4) rfl)
  have hk5 := hts (.fieldLink RX11 45 "GainsaidOnceModel" "seenSpoke" "[I") (List.mem_of_getElem? (i := 5) rfl)
  have hiX11 : ∀ w ∈ wsX110, w ∈ wsX11_isAsSeen := (fun _ h => List.mem_cons_of_mem _ (List.mem_append_right _ h))
  have L_22 : ∀ (n_22 : Nat) (w : (Nat → Int32)) (x2 : Int32) (x3 : Int32) (H : Heap) (locs : List Loc) (ls : Array Slot), f_X11_isAsSeen_22 t_hearers t_seen pinched seenAt seenDecree seenSpoke n_22 w x2 x3 = some (r, o_w) → va_P D vwCl [(q_t, .inr (11, [.ref q_w, .ref q_isKept, .int t_all, .int t_corners, .int t_hearers, .int t_newAll, .int t_newCorners, .int t_newHearers, .ref q_beer, .ref q_cold, .ref q_stands, .ref q_pinched, .ref q_says, .ref q_text, .int t_textSize, .int t_at, .int t_first, .int t_faultOf, .int t_fault, .int t_spoke, .int t_holds, .int t_undoMany, .ref q_seenDecree, .ref q_seenAt, .ref q_seenSpoke, .int t_seen, .ref q_inSets, .ref q_book, .int t_written])), (q_pinched, .inl (a 0, 18, .inl pinched)), (q_seenAt, .inl (a 0, 6, .inl seenAt)), (q_seenDecree, .inl (a 0, 6, .inl seenDecree)), (q_seenSpoke, .inl (a 0, 6, .inl seenSpoke)), (q_w, .inl (a 0, 578, .inl w))] H → va_D A [(q_t, .inr (11, [.ref q_w, .ref q_isKept, .int t_all, .int t_corners, .int t_hearers, .int t_newAll, .int t_newCorners, .int t_newHearers, .ref q_beer, .ref q_cold, .ref q_stands, .ref q_pinched, .ref q_says, .ref q_text, .int t_textSize, .int t_at, .int t_first, .int t_faultOf, .int t_fault, .int t_spoke, .int t_holds, .int t_undoMany, .ref q_seenDecree, .ref q_seenAt, .ref q_seenSpoke, .int t_seen, .ref q_inSets, .ref q_book, .int t_written])), (q_pinched, .inl (a 0, 18, .inl pinched)), (q_seenAt, .inl (a 0, 6, .inl seenAt)), (q_seenDecree, .inl (a 0, 6, .inl seenDecree)), (q_seenSpoke, .inl (a 0, 6, .inl seenSpoke)), (q_w, .inl (a 0, 578, .inl w))] → va_S A s.heap H locs → lv_has ls 4 [(0, .ref q_t), (2, .int x2), (3, .int x3)] → W p l e { frames := 3, cells := 0, slots := 0, locals := 72 } s m args below meth c H locs 0 0 Q (F0 m 22 ls []) := by
    intro n_22
    induction n_22 with
    | zero => intro w x2 x3 H locs ls hf hP hD hS hl; rw [f_X11_isAsSeen_22] at hf; cases hf
    | succ n_22 ih_22 =>
      intro w x2 x3 H locs ls hf hP hD hS hl
      rw [f_X11_isAsSeen_22] at hf
      refine lv_iload_n hx hb dX11_isAsSeen_22 rfl (lv_at hl 2 rfl) ?_
      refine lv_aload_n hx hb dX11_isAsSeen_23 rfl (lv_at hl 0 rfl) ?_
      refine g_get hX hiX11 hP 0 rfl rfl 25 (by decide) hk2 rfl rfl dX11_isAsSeen_24 ?_
      refine lv_icmp_ge (tgt := 77) hx hb dX11_isAsSeen_27 (by decide) (fun c1 => ?_) (fun c1 => ?_)
      · replace hf := o_ifp hf c1
        refine lv_iload_n hx hb dX11_isAsSeen_77 rfl (lv_at hl 1 rfl) ?_
        obtain ⟨hzb, hf⟩ := o_zbh hf
        cases hf
        exact hret _ _ _ _ hzb hP hD hS dX11_isAsSeen_78
      replace hf := o_ifn hf c1
      refine lv_iload_n hx hb dX11_isAsSeen_30 rfl (lv_at hl 1 rfl) ?_
      refine lv_if_eq (tgt := 77) hx hb dX11_isAsSeen_31 (by decide) (fun c2 => ?_) (fun c2 => ?_)
      · replace hf := o_ifp hf c2
        refine lv_iload_n hx hb dX11_isAsSeen_77 rfl (lv_at hl 1 rfl) ?_
        obtain ⟨hzb, hf⟩ := o_zbh hf
        cases hf
        exact hret _ _ _ _ hzb hP hD hS dX11_isAsSeen_78
      replace hf := o_ifn hf c2
      refine lv_aload_n hx hb dX11_isAsSeen_34 rfl (lv_at hl 0 rfl) ?_
      refine lv_bipush (v := (17 : Int32)) hx hb dX11_isAsSeen_35 (by decide) ?_
      refine lv_aload_n hx hb dX11_isAsSeen_37 rfl (lv_at hl 0 rfl) ?_
      refine g_get hX hiX11 hP 0 rfl rfl 23 (by decide) hk3 rfl rfl dX11_isAsSeen_38 ?_
      refine lv_iload_n hx hb dX11_isAsSeen_41 rfl (lv_at hl 2 rfl) ?_
      obtain ⟨hiv3, hf⟩ := o_ldh hf
      refine g_iald hX hP 2 rfl hiv3 dX11_isAsSeen_42 (fun v3 ev3 => ?_)
      replace hf := hf v3 ev3
      refine lv_aload_n hx hb dX11_isAsSeen_43 rfl (lv_at hl 0 rfl) ?_
      refine g_get hX hiX11 hP 0 rfl rfl 22 (by decide) hk4 rfl rfl dX11_isAsSeen_44 ?_
      refine lv_iload_n hx hb dX11_isAsSeen_47 rfl (lv_at hl 2 rfl) ?_
      obtain ⟨hiv4, hf⟩ := o_ldh hf
      refine g_iald hX hP 3 rfl hiv4 dX11_isAsSeen_48 (fun v4 ev4 => ?_)
      replace hf := hf v4 ev4
      refine lv_iconst (v := (0 : Int32)) hx hb dX11_isAsSeen_49 (by decide) ?_
      obtain ⟨o5, ho5, hf⟩ := o_bd hf
      refine call_iV (q0 := 0) (ci := 11) hX (c_X11_speakers l D a t q_t q_w q_isKept t_all t_corners t_hearers t_newAll t_newCorners t_newHearers q_beer q_cold q_stands q_pinched q_says q_text t_textSize t_at t_first t_faultOf t_fault t_spoke t_holds t_undoMany q_seenDecree q_seenAt q_seenSpoke t_seen q_inSets q_book t_written pinched w (17 : Int32) v3 v4 (0 : Int32) o5 ho5) (cwV 4 hts gX11_isAsSeen_X11_speakers rfl rfl rfl hdV_X11_speakers ⟨by decide, by decide⟩) (Cut.of hA hP hD hS [0, 1, 5] (by decide) rfl rfl (W' := [(q_t, .inr (11, [.ref q_w, .ref q_isKept, .int t_all, .int t_corners, .int t_hearers, .int t_newAll, .int t_newCorners, .int t_newHearers, .ref q_beer, .ref q_cold, .ref q_stands, .ref q_pinched, .ref q_says, .ref q_text, .int t_textSize, .int t_at, .int t_first, .int t_faultOf, .int t_fault, .int t_spoke, .int t_holds, .int t_undoMany, .ref q_seenDecree, .ref q_seenAt, .ref q_seenSpoke, .int t_seen, .ref q_inSets, .ref q_book, .int t_written])), (q_pinched, .inl (a 0, 18, .inl pinched)), (q_seenAt, .inl (a 0, 6, .inl seenAt)), (q_seenDecree, .inl (a 0, 6, .inl seenDecree)), (q_seenSpoke, .inl (a 0, 6, .inl seenSpoke)), (q_w, .inl (a 0, 578, .inl w))]) rfl) hS rfl rfl rfl hl.1 rfl (Nat.le_of_ble_eq_true rfl) dX11_isAsSeen_50 (by decide) (fun H locs hP hD hS => ?_)
      replace hP : va_P D vwCl [(q_t, .inr (11, [.ref q_w, .ref q_isKept, .int t_all, .int t_corners, .int t_hearers, .int t_newAll, .int t_newCorners, .int t_newHearers, .ref q_beer, .ref q_cold, .ref q_stands, .ref q_pinched, .ref q_says, .ref q_text, .int t_textSize, .int t_at, .int t_first, .int t_faultOf, .int t_fault, .int t_spoke, .int t_holds, .int t_undoMany, .ref q_seenDecree, .ref q_seenAt, .ref q_seenSpoke, .int t_seen, .ref q_inSets, .ref q_book, .int t_written])), (q_pinched, .inl (a 0, 18, .inl pinched)), (q_seenAt, .inl (a 0, 6, .inl seenAt)), (q_seenDecree, .inl (a 0, 6, .inl seenDecree)), (q_seenSpoke, .inl (a 0, 6, .inl seenSpoke)), (q_w, .inl (a 0, 578, .inl w))] H := hP
      replace hD : va_D A [(q_t, .inr (11, [.ref q_w, .ref q_isKept, .int t_all, .int t_corners, .int t_hearers, .int t_newAll, .int t_newCorners, .int t_newHearers, .ref q_beer, .ref q_cold, .ref q_stands, .ref q_pinched, .ref q_says, .ref q_text, .int t_textSize, .int t_at, .int t_first, .int t_faultOf, .int t_fault, .int t_spoke, .int t_holds, .int t_undoMany, .ref q_seenDecree, .ref q_seenAt, .ref q_seenSpoke, .int t_seen, .ref q_inSets, .ref q_book, .int t_written])), (q_pinched, .inl (a 0, 18, .inl pinched)), (q_seenAt, .inl (a 0, 6, .inl seenAt)), (q_seenDecree, .inl (a 0, 6, .inl seenDecree)), (q_seenSpoke, .inl (a 0, 6, .inl seenSpoke)), (q_w, .inl (a 0, 578, .inl w))] := hD
      obtain ⟨o6, ho6, hf⟩ := o_bd hf
      refine call_iS hX (c_X11_ones l D a t o5 o6 ho6) (va_cwS 1 hts gX11_isAsSeen_X11_ones rfl rfl rfl hdS_X11_ones ⟨by decide, by decide⟩) (Cut.none hA hP hD hS) hS rfl hl.1 rfl (Nat.le_of_ble_eq_true rfl) dX11_isAsSeen_53 (by decide) (fun H locs hP hD hS => ?_)
      refine lv_aload_n hx hb dX11_isAsSeen_56 rfl (lv_at hl 0 rfl) ?_
      refine g_get hX hiX11 hP 0 rfl rfl 24 (by decide) hk5 rfl rfl dX11_isAsSeen_57 ?_
      refine lv_iload_n hx hb dX11_isAsSeen_60 rfl (lv_at hl 2 rfl) ?_
      obtain ⟨hiv7, hf⟩ := o_ldh hf
      refine g_iald hX hP 4 rfl hiv7 dX11_isAsSeen_61 (fun v7 ev7 => ?_)
      replace hf := hf v7 ev7
      refine lv_icmp_ne (tgt := 69) hx hb dX11_isAsSeen_62 (by decide) (fun c8 => ?_) (fun c8 => ?_)
      · replace hf := o_ifn hf c8
        refine lv_iconst (v := (0 : Int32)) hx hb dX11_isAsSeen_69 (by decide) ?_
        refine lv_istore_n (lv' := [(2, .int (0 : Int32)), (0, .ref q_t), (3, .int x3)]) hx hb dX11_isAsSeen_70 rfl hl (by decide) rfl (fun ls hl => ?_)
        obtain ⟨v9, ev9⟩ : ∃ y : Int32, y = x3 + (1 : Int32) := ⟨_, rfl⟩
        replace hf := o_nmh hf v9 ev9
        refine lv_iinc (v := v9) (lv' := [(3, .int v9), (2, .int (0 : Int32)), (0, .ref q_t)]) hx hb dX11_isAsSeen_71 hl (k := 2) rfl (by rw [ev9]; rfl) (by decide) rfl (fun ls hl => ?_)
        refine lv_goto (tgt := 22) hx hb dX11_isAsSeen_74 (by decide) ?_
        exact ih_22 w (0 : Int32) v9 _ _ _ hf hP hD hS (lv_sub hl [2, 1, 0] rfl)
      replace hf := o_ifp hf c8
      refine lv_iconst (v := (1 : Int32)) hx hb dX11_isAsSeen_65 (by decide) ?_
      refine lv_goto (tgt := 70) hx hb dX11_isAsSeen_66 (by decide) ?_
      refine lv_istore_n (lv' := [(2, .int (1 : Int32)), (0, .ref q_t), (3, .int x3)]) hx hb dX11_isAsSeen_70 rfl hl (by decide) rfl (fun ls hl => ?_)
      obtain ⟨v10, ev10⟩ : ∃ y : Int32, y = x3 + (1 : Int32) := ⟨_, rfl⟩
      replace hf := o_nmh hf v10 ev10
      refine lv_iinc (v := v10) (lv' := [(3, .int v10), (2, .int (1 : Int32)), (0, .ref q_t)]) hx hb dX11_isAsSeen_71 hl (k := 2) rfl (by rw [ev10]; rfl) (by decide) rfl (fun ls hl => ?_)
      refine lv_goto (tgt := 22) hx hb dX11_isAsSeen_74 (by decide) ?_
      exact ih_22 w (1 : Int32) v10 _ _ _ hf hP hD hS (lv_sub hl [2, 1, 0] rfl)
  unfold f_X11_isAsSeen at hf
  refine lv_aload_n hx hb dX11_isAsSeen_0 rfl (lv_at hl 0 rfl) ?_
  refine lv_iconst (v := (0 : Int32)) hx hb dX11_isAsSeen_1 (by decide) ?_
  refine lv_bipush (v := (17 : Int32)) hx hb dX11_isAsSeen_2 (by decide) ?_
  obtain ⟨o11, ho11, hf⟩ := o_bd hf
  refine call_vV (q0 := 0) (ci := 11) hX (c_X11_copy l D a t q_t q_w q_isKept t_all t_corners t_hearers t_newAll t_newCorners t_newHearers q_beer q_cold q_stands q_pinched q_says q_text t_textSize t_at t_first t_faultOf t_fault t_spoke t_holds t_undoMany q_seenDecree q_seenAt q_seenSpoke t_seen q_inSets q_book t_written w (0 : Int32) (17 : Int32) o11 ho11) (cwV 2 hts gX11_isAsSeen_X11_copy rfl rfl rfl hdV_X11_copy ⟨by decide, by decide⟩) (Cut.of hA hP hD hS [0, 5] (by decide) rfl rfl (W' := [(q_t, .inr (11, [.ref q_w, .ref q_isKept, .int t_all, .int t_corners, .int t_hearers, .int t_newAll, .int t_newCorners, .int t_newHearers, .ref q_beer, .ref q_cold, .ref q_stands, .ref q_pinched, .ref q_says, .ref q_text, .int t_textSize, .int t_at, .int t_first, .int t_faultOf, .int t_fault, .int t_spoke, .int t_holds, .int t_undoMany, .ref q_seenDecree, .ref q_seenAt, .ref q_seenSpoke, .int t_seen, .ref q_inSets, .ref q_book, .int t_written])), (q_pinched, .inl (a 0, 18, .inl pinched)), (q_seenAt, .inl (a 0, 6, .inl seenAt)), (q_seenDecree, .inl (a 0, 6, .inl seenDecree)), (q_seenSpoke, .inl (a 0, 6, .inl seenSpoke)), (q_w, .inl (a 0, 578, .inl o11))]) rfl) hS rfl rfl rfl hl.1 rfl (Nat.le_of_ble_eq_true rfl) dX11_isAsSeen_4 (by decide) (fun H locs hP hD hS => ?_)
  replace hP : va_P D vwCl [(q_t, .inr (11, [.ref q_w, .ref q_isKept, .int t_all, .int t_corners, .int t_hearers, .int t_newAll, .int t_newCorners, .int t_newHearers, .ref q_beer, .ref q_cold, .ref q_stands, .ref q_pinched, .ref q_says, .ref q_text, .int t_textSize, .int t_at, .int t_first, .int t_faultOf, .int t_fault, .int t_spoke, .int t_holds, .int t_undoMany, .ref q_seenDecree, .ref q_seenAt, .ref q_seenSpoke, .int t_seen, .ref q_inSets, .ref q_book, .int t_written])), (q_pinched, .inl (a 0, 18, .inl pinched)), (q_seenAt, .inl (a 0, 6, .inl seenAt)), (q_seenDecree, .inl (a 0, 6, .inl seenDecree)), (q_seenSpoke, .inl (a 0, 6, .inl seenSpoke)), (q_w, .inl (a 0, 578, .inl o11))] H := hP
  replace hD : va_D A [(q_t, .inr (11, [.ref q_w, .ref q_isKept, .int t_all, .int t_corners, .int t_hearers, .int t_newAll, .int t_newCorners, .int t_newHearers, .ref q_beer, .ref q_cold, .ref q_stands, .ref q_pinched, .ref q_says, .ref q_text, .int t_textSize, .int t_at, .int t_first, .int t_faultOf, .int t_fault, .int t_spoke, .int t_holds, .int t_undoMany, .ref q_seenDecree, .ref q_seenAt, .ref q_seenSpoke, .int t_seen, .ref q_inSets, .ref q_book, .int t_written])), (q_pinched, .inl (a 0, 18, .inl pinched)), (q_seenAt, .inl (a 0, 6, .inl seenAt)), (q_seenDecree, .inl (a 0, 6, .inl seenDecree)), (q_seenSpoke, .inl (a 0, 6, .inl seenSpoke)), (q_w, .inl (a 0, 578, .inl o11))] := hD
  refine lv_aload_n hx hb dX11_isAsSeen_7 rfl (lv_at hl 0 rfl) ?_
  refine g_get hX hiX11 hP 0 rfl rfl 0 (by decide) hk1 rfl rfl dX11_isAsSeen_8 ?_
  refine lv_bipush (v := (27 : Int32)) hx hb dX11_isAsSeen_11 (by decide) ?_
  refine lv_dup2_11 hx hb dX11_isAsSeen_13 rfl rfl ?_
  obtain ⟨hiv12, hf⟩ := o_ldh hf
  refine g_iald hX hP 5 rfl hiv12 dX11_isAsSeen_14 (fun v12 ev12 => ?_)
  replace hf := hf v12 ev12
  refine lv_iload_n hx hb dX11_isAsSeen_15 rfl (lv_at hl 1 rfl) ?_
  refine lv_ior hx hb dX11_isAsSeen_16 ?_
  obtain ⟨hiw13, hf⟩ := o_sth hf
  refine g_iast hX hP hD hS 5 rfl hiw13 dX11_isAsSeen_17 (fun w13 ew13 H locs hP hD hS => ?_)
  replace hf := hf w13 ew13
  replace hP : va_P D vwCl [(q_t, .inr (11, [.ref q_w, .ref q_isKept, .int t_all, .int t_corners, .int t_hearers, .int t_newAll, .int t_newCorners, .int t_newHearers, .ref q_beer, .ref q_cold, .ref q_stands, .ref q_pinched, .ref q_says, .ref q_text, .int t_textSize, .int t_at, .int t_first, .int t_faultOf, .int t_fault, .int t_spoke, .int t_holds, .int t_undoMany, .ref q_seenDecree, .ref q_seenAt, .ref q_seenSpoke, .int t_seen, .ref q_inSets, .ref q_book, .int t_written])), (q_pinched, .inl (a 0, 18, .inl pinched)), (q_seenAt, .inl (a 0, 6, .inl seenAt)), (q_seenDecree, .inl (a 0, 6, .inl seenDecree)), (q_seenSpoke, .inl (a 0, 6, .inl seenSpoke)), (q_w, .inl (a 0, 578, .inl w13))] H := hP
  replace hD : va_D A [(q_t, .inr (11, [.ref q_w, .ref q_isKept, .int t_all, .int t_corners, .int t_hearers, .int t_newAll, .int t_newCorners, .int t_newHearers, .ref q_beer, .ref q_cold, .ref q_stands, .ref q_pinched, .ref q_says, .ref q_text, .int t_textSize, .int t_at, .int t_first, .int t_faultOf, .int t_fault, .int t_spoke, .int t_holds, .int t_undoMany, .ref q_seenDecree, .ref q_seenAt, .ref q_seenSpoke, .int t_seen, .ref q_inSets, .ref q_book, .int t_written])), (q_pinched, .inl (a 0, 18, .inl pinched)), (q_seenAt, .inl (a 0, 6, .inl seenAt)), (q_seenDecree, .inl (a 0, 6, .inl seenDecree)), (q_seenSpoke, .inl (a 0, 6, .inl seenSpoke)), (q_w, .inl (a 0, 578, .inl w13))] := hD
  refine lv_iconst (v := (1 : Int32)) hx hb dX11_isAsSeen_18 (by decide) ?_
  refine lv_istore_n (lv' := [(2, .int (1 : Int32)), (0, .ref q_t), (1, .int x1)]) hx hb dX11_isAsSeen_19 rfl hl (by decide) rfl (fun ls hl => ?_)
  refine lv_iconst (v := (0 : Int32)) hx hb dX11_isAsSeen_20 (by decide) ?_
  refine lv_istore_n (lv' := [(3, .int (0 : Int32)), (2, .int (1 : Int32)), (0, .ref q_t), (1, .int x1)]) hx hb dX11_isAsSeen_21 rfl hl (by decide) rfl (fun ls hl => ?_)
  exact L_22 1000 w13 (1 : Int32) (0 : Int32) _ _ _ hf hP hD hS (lv_sub hl [2, 1, 0] rfl)
def f_X11_look_68 (t_hearers : Int32) (inSets : Nat → Int32) (k_7 : Int32 → Int32 → Int32 → Int32 → Option (Int32)) (x1 : Int32) (x3 : Int32) (x4 : Int32) (x5 : Int32) (s0 : Int32) : Option (Int32) :=
  if x3 ≤ x5 then (o_nm (x4 + (1 : Int32)) fun v2 =>
  k_7 x1 s0 x3 v2)
  else (o_nm (x4 + (1 : Int32)) fun v3 =>
  k_7 x1 s0 x5 v3)
def f_X11_look_54 (t_hearers : Int32) (inSets : Nat → Int32) (k_7 : Int32 → Int32 → Int32 → Int32 → Option (Int32)) (x1 : Int32) (x2 : Int32) (x3 : Int32) (x4 : Int32) (s0 : Int32) : Option (Int32) :=
  if x3 ≤ s0 then (f_X11_look_68 t_hearers inSets k_7 x1 x3 x4 s0 x2)
  else (f_X11_look_68 t_hearers inSets k_7 x1 x3 x4 s0 x4)
def f_X11_look_7 (t_hearers : Int32) (inSets : Nat → Int32) : Nat → Int32 → Int32 → Int32 → Int32 → Option (Int32)
  | 0, _, _, _, _ => none
  | n_7 + 1, x1, x2, x3, x4 =>
    if t_hearers ≤ x4 then (some x2)
    else ((o_ld inSets 9 x4).bind fun v6 =>
    (o_ld inSets 9 x4).bind fun v7 =>
    if v6 ≤ (x1 - v7) then ((o_ld inSets 9 x4).bind fun v9 =>
    f_X11_look_54 t_hearers inSets (f_X11_look_7 t_hearers inSets n_7) x1 x2 x3 x4 ((x1 - v9)))
    else ((o_ld inSets 9 x4).bind fun v10 =>
    f_X11_look_54 t_hearers inSets (f_X11_look_7 t_hearers inSets n_7) x1 x2 x3 x4 v10))
def f_X11_look (t_hearers : Int32) (inSets : Nat → Int32) (x1 : Int32) : Option (Int32) :=
  f_X11_look_7 t_hearers inSets 1000 x1 (-1 : Int32) x1 (0 : Int32)
theorem hdS_X11_look : yX11_look.cls ≠ "java/lang/invoke/MethodHandle" ∧ yX11_look.cls ≠ "java/lang/invoke/VarHandle" ∧ (parseMethodDescriptor yX11_look.desc).map (fun d => d.parameters.length) = some 1 := by decide +kernel
theorem hdV_X11_look : yX11_look.cls = RX11 ∧ yX11_look.cls ≠ "java/lang/invoke/MethodHandle" ∧ yX11_look.cls ≠ "java/lang/invoke/VarHandle" ∧ (parseMethodDescriptor yX11_look.desc).map (fun d => d.parameters.length) = some 1 := ⟨rfl, hdS_X11_look⟩
set_option maxHeartbeats 4000000 in
set_option maxRecDepth 100000 in
theorem c_X11_look (l : Launch) (D : va_G) (a : Nat → ClassId) (t : Nat) (q_t : Nat) (q_w : Nat) (q_isKept : Nat) (t_all : Int32) (t_corners : Int32) (t_hearers : Int32) (t_newAll : Int32) (t_newCorners : Int32) (t_newHearers : Int32) (q_beer : Nat) (q_cold : Nat) (q_stands : Nat) (q_pinched : Nat) (q_says : Nat) (q_text : Nat) (t_textSize : Int32) (t_at : Int32) (t_first : Int32) (t_faultOf : Int32) (t_fault : Int32) (t_spoke : Int32) (t_holds : Int32) (t_undoMany : Int32) (q_seenDecree : Nat) (q_seenAt : Nat) (q_seenSpoke : Nat) (t_seen : Int32) (q_inSets : Nat) (q_book : Nat) (t_written : Int32) (inSets : Nat → Int32) (x1 : Int32) (r : Int32) (hf : f_X11_look t_hearers inSets x1 = some r) : Ki l yX11_look wsX11_look 0 0 D a t [.ref q_t, .int x1] [(q_t, .inr (11, [.ref q_w, .ref q_isKept, .int t_all, .int t_corners, .int t_hearers, .int t_newAll, .int t_newCorners, .int t_newHearers, .ref q_beer, .ref q_cold, .ref q_stands, .ref q_pinched, .ref q_says, .ref q_text, .int t_textSize, .int t_at, .int t_first, .int t_faultOf, .int t_fault, .int t_spoke, .int t_holds, .int t_undoMany, .ref q_seenDecree, .ref q_seenAt, .ref q_seenSpoke, .int t_seen, .ref q_inSets, .ref q_book, .int t_written])), (q_inSets, .inl (a 0, 9, .inl inSets))] [(q_t, .inr (11, [.ref q_w, .ref q_isKept, .int t_all, .int t_corners, .int t_hearers, .int t_newAll, .int t_newCorners, .int t_newHearers, .ref q_beer, .ref q_cold, .ref q_stands, .ref q_pinched, .ref q_says, .ref q_text, .int t_textSize, .int t_at, .int t_first, .int t_faultOf, .int t_fault, .int t_spoke, .int t_holds, .int t_undoMany, .ref q_seenDecree, .ref q_seenAt, .ref q_seenSpoke, .int t_seen, .ref q_inSets, .ref q_book, .int t_written])), (q_inSets, .inl (a 0, 9, .inl inSets))] r := by
  refine Ki.mk (cc := cX11_look) (nL := 6) (ty := .int) (own := RX11) (by decide) rfl rfl (Nat.le_of_ble_eq_true rfl) ?_
  intro p e s m args below meth c A Q ls hX hP hD hS hl hret
  have hx := hX.1.1
  have hb := hX.1.2.1
  have hown := hX.1.2.2.2.1
  have hts := hX.1.2.2.2.2
  have hN := hX.2.2.1
  have hA := hX.2.2.2.2
  have hl : lv_has ls 6 [(0, .ref q_t), (1, .int x1)] := hl
  have hk1 := hts (.fieldLink RX11 129 "GainsaidOnceModel" "hearers" "I") (List.mem_of_getElem? (i := 1) rfl)
  have hk2 := hts (.fieldLink RX11 48 "GainsaidOnceModel" "inSets" "[I") (List.mem_of_getElem? (i := 2) rfl)
  have hiX11 : ∀ w ∈ wsX110, w ∈ wsX11_look := (fun _ h => List.mem_cons_of_mem _ (List.mem_append_right _ h))
  have L_7 : ∀ (n_7 : Nat) (x1 : Int32) (x2 : Int32) (x3 : Int32) (x4 : Int32) (H : Heap) (locs : List Loc) (ls : Array Slot), f_X11_look_7 t_hearers inSets n_7 x1 x2 x3 x4 = some r → va_P D vwCl [(q_t, .inr (11, [.ref q_w, .ref q_isKept, .int t_all, .int t_corners, .int t_hearers, .int t_newAll, .int t_newCorners, .int t_newHearers, .ref q_beer, .ref q_cold, .ref q_stands, .ref q_pinched, .ref q_says, .ref q_text, .int t_textSize, .int t_at, .int t_first, .int t_faultOf, .int t_fault, .int t_spoke, .int t_holds, .int t_undoMany, .ref q_seenDecree, .ref q_seenAt, .ref q_seenSpoke, .int t_seen, .ref q_inSets, .ref q_book, .int t_written])), (q_inSets, .inl (a 0, 9, .inl inSets))] H → va_D A [(q_t, .inr (11, [.ref q_w, .ref q_isKept, .int t_all, .int t_corners, .int t_hearers, .int t_newAll, .int t_newCorners, .int t_newHearers, .ref q_beer, .ref q_cold, .ref q_stands, .ref q_pinched, .ref q_says, .ref q_text, .int t_textSize, .int t_at, .int t_first, .int t_faultOf, .int t_fault, .int t_spoke, .int t_holds, .int t_undoMany, .ref q_seenDecree, .ref q_seenAt, .ref q_seenSpoke, .int t_seen, .ref q_inSets, .ref q_book, .int t_written])), (q_inSets, .inl (a 0, 9, .inl inSets))] → va_S A s.heap H locs → lv_has ls 6 [(0, .ref q_t), (1, .int x1), (2, .int x2), (3, .int x3), (4, .int x4)] → W p l e { frames := 0, cells := 0, slots := 0, locals := 0 } s m args below meth c H locs 0 0 Q (F0 m 7 ls []) := by
    intro n_7
    induction n_7 with
    | zero => intro x1 x2 x3 x4 H locs ls hf hP hD hS hl; rw [f_X11_look_7] at hf; cases hf
    | succ n_7 ih_7 =>
      have L_68 : ∀ (x1 : Int32) (x3 : Int32) (x4 : Int32) (x5 : Int32) (s0 : Int32) (H : Heap) (locs : List Loc) (ls : Array Slot), f_X11_look_68 t_hearers inSets (f_X11_look_7 t_hearers inSets n_7) x1 x3 x4 x5 s0 = some r → va_P D vwCl [(q_t, .inr (11, [.ref q_w, .ref q_isKept, .int t_all, .int t_corners, .int t_hearers, .int t_newAll, .int t_newCorners, .int t_newHearers, .ref q_beer, .ref q_cold, .ref q_stands, .ref q_pinched, .ref q_says, .ref q_text, .int t_textSize, .int t_at, .int t_first, .int t_faultOf, .int t_fault, .int t_spoke, .int t_holds, .int t_undoMany, .ref q_seenDecree, .ref q_seenAt, .ref q_seenSpoke, .int t_seen, .ref q_inSets, .ref q_book, .int t_written])), (q_inSets, .inl (a 0, 9, .inl inSets))] H → va_D A [(q_t, .inr (11, [.ref q_w, .ref q_isKept, .int t_all, .int t_corners, .int t_hearers, .int t_newAll, .int t_newCorners, .int t_newHearers, .ref q_beer, .ref q_cold, .ref q_stands, .ref q_pinched, .ref q_says, .ref q_text, .int t_textSize, .int t_at, .int t_first, .int t_faultOf, .int t_fault, .int t_spoke, .int t_holds, .int t_undoMany, .ref q_seenDecree, .ref q_seenAt, .ref q_seenSpoke, .int t_seen, .ref q_inSets, .ref q_book, .int t_written])), (q_inSets, .inl (a 0, 9, .inl inSets))] → va_S A s.heap H locs → lv_has ls 6 [(0, .ref q_t), (1, .int x1), (3, .int x3), (4, .int x4), (5, .int x5)] → W p l e { frames := 0, cells := 0, slots := 0, locals := 0 } s m args below meth c H locs 0 0 Q (F0 m 68 ls [.int s0]) := by
        intro x1 x3 x4 x5 s0 H locs ls hf hP hD hS hl
        unfold f_X11_look_68 at hf
        refine lv_istore_n (lv' := [(2, .int s0), (0, .ref q_t), (1, .int x1), (3, .int x3), (4, .int x4), (5, .int x5)]) hx hb dX11_look_68 rfl hl (by decide) rfl (fun ls hl => ?_)
        refine lv_iload hx hb dX11_look_69 (lv_at hl 5 rfl) ?_
        refine lv_iload_n hx hb dX11_look_71 rfl (lv_at hl 3 rfl) ?_
        refine lv_icmp_ge (tgt := 80) hx hb dX11_look_72 (by decide) (fun c1 => ?_) (fun c1 => ?_)
        · replace hf := o_ifp hf c1
          refine lv_iload_n hx hb dX11_look_80 rfl (lv_at hl 3 rfl) ?_
          refine lv_istore_n (lv' := [(3, .int x3), (2, .int s0), (0, .ref q_t), (1, .int x1), (4, .int x4), (5, .int x5)]) hx hb dX11_look_81 rfl hl (by decide) rfl (fun ls hl => ?_)
          obtain ⟨v2, ev2⟩ : ∃ y : Int32, y = x4 + (1 : Int32) := ⟨_, rfl⟩
          replace hf := o_nmh hf v2 ev2
          refine lv_iinc (v := v2) (lv' := [(4, .int v2), (3, .int x3), (2, .int s0), (0, .ref q_t), (1, .int x1), (5, .int x5)]) hx hb dX11_look_82 hl (k := 4) rfl (by rw [ev2]; rfl) (by decide) rfl (fun ls hl => ?_)
          refine lv_goto (tgt := 7) hx hb dX11_look_85 (by decide) ?_
          exact ih_7 x1 s0 x3 v2 _ _ _ hf hP hD hS (lv_sub hl [3, 4, 2, 1, 0] rfl)
        replace hf := o_ifn hf c1
        refine lv_iload hx hb dX11_look_75 (lv_at hl 5 rfl) ?_
        refine lv_goto (tgt := 81) hx hb dX11_look_77 (by decide) ?_
        refine lv_istore_n (lv' := [(3, .int x5), (2, .int s0), (0, .ref q_t), (1, .int x1), (4, .int x4), (5, .int x5)]) hx hb dX11_look_81 rfl hl (by decide) rfl (fun ls hl => ?_)
        obtain ⟨v3, ev3⟩ : ∃ y : Int32, y = x4 + (1 : Int32) := ⟨_, rfl⟩
        replace hf := o_nmh hf v3 ev3
        refine lv_iinc (v := v3) (lv' := [(4, .int v3), (3, .int x5), (2, .int s0), (0, .ref q_t), (1, .int x1), (5, .int x5)]) hx hb dX11_look_82 hl (k := 4) rfl (by rw [ev3]; rfl) (by decide) rfl (fun ls hl => ?_)
        refine lv_goto (tgt := 7) hx hb dX11_look_85 (by decide) ?_
        exact ih_7 x1 s0 x5 v3 _ _ _ hf hP hD hS (lv_sub hl [3, 4, 2, 1, 0] rfl)
      have L_54 : ∀ (x1 : Int32) (x2 : Int32) (x3 : Int32) (x4 : Int32) (s0 : Int32) (H : Heap) (locs : List Loc) (ls : Array Slot), f_X11_look_54 t_hearers inSets (f_X11_look_7 t_hearers inSets n_7) x1 x2 x3 x4 s0 = some r → va_P D vwCl [(q_t, .inr (11, [.ref q_w, .ref q_isKept, .int t_all, .int t_corners, .int t_hearers, .int t_newAll, .int t_newCorners, .int t_newHearers, .ref q_beer, .ref q_cold, .ref q_stands, .ref q_pinched, .ref q_says, .ref q_text, .int t_textSize, .int t_at, .int t_first, .int t_faultOf, .int t_fault, .int t_spoke, .int t_holds, .int t_undoMany, .ref q_seenDecree, .ref q_seenAt, .ref q_seenSpoke, .int t_seen, .ref q_inSets, .ref q_book, .int t_written])), (q_inSets, .inl (a 0, 9, .inl inSets))] H → va_D A [(q_t, .inr (11, [.ref q_w, .ref q_isKept, .int t_all, .int t_corners, .int t_hearers, .int t_newAll, .int t_newCorners, .int t_newHearers, .ref q_beer, .ref q_cold, .ref q_stands, .ref q_pinched, .ref q_says, .ref q_text, .int t_textSize, .int t_at, .int t_first, .int t_faultOf, .int t_fault, .int t_spoke, .int t_holds, .int t_undoMany, .ref q_seenDecree, .ref q_seenAt, .ref q_seenSpoke, .int t_seen, .ref q_inSets, .ref q_book, .int t_written])), (q_inSets, .inl (a 0, 9, .inl inSets))] → va_S A s.heap H locs → lv_has ls 6 [(0, .ref q_t), (1, .int x1), (2, .int x2), (3, .int x3), (4, .int x4)] → W p l e { frames := 0, cells := 0, slots := 0, locals := 0 } s m args below meth c H locs 0 0 Q (F0 m 54 ls [.int s0]) := by
        intro x1 x2 x3 x4 s0 H locs ls hf hP hD hS hl
        unfold f_X11_look_54 at hf
        refine lv_istore (lv' := [(5, .int s0), (0, .ref q_t), (1, .int x1), (2, .int x2), (3, .int x3), (4, .int x4)]) hx hb dX11_look_54 hl (by decide) rfl (fun ls hl => ?_)
        refine lv_iload hx hb dX11_look_56 (lv_at hl 0 rfl) ?_
        refine lv_iload_n hx hb dX11_look_58 rfl (lv_at hl 4 rfl) ?_
        refine lv_icmp_ge (tgt := 67) hx hb dX11_look_59 (by decide) (fun c4 => ?_) (fun c4 => ?_)
        · replace hf := o_ifp hf c4
          refine lv_iload_n hx hb dX11_look_67 rfl (lv_at hl 3 rfl) ?_
          exact L_68 x1 x3 x4 s0 x2 _ _ _ hf hP hD hS (lv_sub hl [1, 2, 4, 5, 0] rfl)
        replace hf := o_ifn hf c4
        refine lv_iload hx hb dX11_look_62 (lv_at hl 5 rfl) ?_
        refine lv_goto (tgt := 68) hx hb dX11_look_64 (by decide) ?_
        exact L_68 x1 x3 x4 s0 x4 _ _ _ hf hP hD hS (lv_sub hl [1, 2, 4, 5, 0] rfl)
      intro x1 x2 x3 x4 H locs ls hf hP hD hS hl
      rw [f_X11_look_7] at hf
      refine lv_iload hx hb dX11_look_7 (lv_at hl 4 rfl) ?_
      refine lv_aload_n hx hb dX11_look_9 rfl (lv_at hl 0 rfl) ?_
      refine g_get hX hiX11 hP 0 rfl rfl 4 (by decide) hk1 rfl rfl dX11_look_10 ?_
      refine lv_icmp_ge (tgt := 88) hx hb dX11_look_13 (by decide) (fun c5 => ?_) (fun c5 => ?_)
      · replace hf := o_ifp hf c5
        refine lv_iload_n hx hb dX11_look_88 rfl (lv_at hl 2 rfl) ?_
        cases hf
        exact hret _ _ _ _ (vp_nar_int _) hP hD hS dX11_look_89
      replace hf := o_ifn hf c5
      refine lv_aload_n hx hb dX11_look_16 rfl (lv_at hl 0 rfl) ?_
      refine g_get hX hiX11 hP 0 rfl rfl 26 (by decide) hk2 rfl rfl dX11_look_17 ?_
      refine lv_iload hx hb dX11_look_20 (lv_at hl 4 rfl) ?_
      obtain ⟨hiv6, hf⟩ := o_ldh hf
      refine g_iald hX hP 1 rfl hiv6 dX11_look_22 (fun v6 ev6 => ?_)
      replace hf := hf v6 ev6
      refine lv_iload_n hx hb dX11_look_23 rfl (lv_at hl 1 rfl) ?_
      refine lv_aload_n hx hb dX11_look_24 rfl (lv_at hl 0 rfl) ?_
      refine g_get hX hiX11 hP 0 rfl rfl 26 (by decide) hk2 rfl rfl dX11_look_25 ?_
      refine lv_iload hx hb dX11_look_28 (lv_at hl 4 rfl) ?_
      obtain ⟨hiv7, hf⟩ := o_ldh hf
      refine g_iald hX hP 1 rfl hiv7 dX11_look_30 (fun v7 ev7 => ?_)
      replace hf := hf v7 ev7
      refine lv_isub hx hb dX11_look_31 ?_
      refine lv_icmp_le (tgt := 45) hx hb dX11_look_32 (by decide) (fun c8 => ?_) (fun c8 => ?_)
      · replace hf := o_ifp hf c8
        refine lv_iload_n hx hb dX11_look_45 rfl (lv_at hl 1 rfl) ?_
        refine lv_aload_n hx hb dX11_look_46 rfl (lv_at hl 0 rfl) ?_
        refine g_get hX hiX11 hP 0 rfl rfl 26 (by decide) hk2 rfl rfl dX11_look_47 ?_
        refine lv_iload hx hb dX11_look_50 (lv_at hl 4 rfl) ?_
        obtain ⟨hiv9, hf⟩ := o_ldh hf
        refine g_iald hX hP 1 rfl hiv9 dX11_look_52 (fun v9 ev9 => ?_)
        replace hf := hf v9 ev9
        refine lv_isub hx hb dX11_look_53 ?_
        exact L_54 x1 x2 x3 x4 ((x1 - v9)) _ _ _ hf hP hD hS (lv_sub hl [0, 1, 2, 3, 4] rfl)
      replace hf := o_ifn hf c8
      refine lv_aload_n hx hb dX11_look_35 rfl (lv_at hl 0 rfl) ?_
      refine g_get hX hiX11 hP 0 rfl rfl 26 (by decide) hk2 rfl rfl dX11_look_36 ?_
      refine lv_iload hx hb dX11_look_39 (lv_at hl 4 rfl) ?_
      obtain ⟨hiv10, hf⟩ := o_ldh hf
      refine g_iald hX hP 1 rfl hiv10 dX11_look_41 (fun v10 ev10 => ?_)
      replace hf := hf v10 ev10
      refine lv_goto (tgt := 54) hx hb dX11_look_42 (by decide) ?_
      exact L_54 x1 x2 x3 x4 v10 _ _ _ hf hP hD hS (lv_sub hl [0, 1, 2, 3, 4] rfl)
  unfold f_X11_look at hf
  refine lv_iconst (v := (-1 : Int32)) hx hb dX11_look_0 (by decide) ?_
  refine lv_istore_n (lv' := [(2, .int (-1 : Int32)), (0, .ref q_t), (1, .int x1)]) hx hb dX11_look_1 rfl hl (by decide) rfl (fun ls hl => ?_)
  refine lv_iload_n hx hb dX11_look_2 rfl (lv_at hl 2 rfl) ?_
  refine lv_istore_n (lv' := [(3, .int x1), (2, .int (-1 : Int32)), (0, .ref q_t), (1, .int x1)]) hx hb dX11_look_3 rfl hl (by decide) rfl (fun ls hl => ?_)
  refine lv_iconst (v := (0 : Int32)) hx hb dX11_look_4 (by decide) ?_
  refine lv_istore (lv' := [(4, .int (0 : Int32)), (3, .int x1), (2, .int (-1 : Int32)), (0, .ref q_t), (1, .int x1)]) hx hb dX11_look_5 hl (by decide) rfl (fun ls hl => ?_)
  exact L_7 1000 x1 (-1 : Int32) x1 (0 : Int32) _ _ _ hf hP hD hS (lv_sub hl [3, 4, 2, 1, 0] rfl)
def f_X11_addTo_2  : Nat → (Nat → Int32) → Int32 → Int32 → Option ((Nat → Int32))
  | 0, _, _, _ => none
  | n_2 + 1, inSets, x1, x2 =>
    if (9 : Int32) ≤ x2 then (some inSets)
    else ((o_ld inSets 9 x2).bind fun v2 =>
    (o_st inSets 9 x2 (v2 + ((x1 >>> (x2 &&& 31)) &&& (1 : Int32)))).bind fun w3 =>
    o_nm (x2 + (1 : Int32)) fun v4 =>
    f_X11_addTo_2  n_2 w3 x1 v4)
def f_X11_addTo (inSets : Nat → Int32) (x1 : Int32) : Option ((Nat → Int32)) :=
  f_X11_addTo_2 1000 inSets x1 (0 : Int32)
theorem hdS_X11_addTo : yX11_addTo.cls ≠ "java/lang/invoke/MethodHandle" ∧ yX11_addTo.cls ≠ "java/lang/invoke/VarHandle" ∧ (parseMethodDescriptor yX11_addTo.desc).map (fun d => d.parameters.length) = some 1 := by decide +kernel
theorem hdV_X11_addTo : yX11_addTo.cls = RX11 ∧ yX11_addTo.cls ≠ "java/lang/invoke/MethodHandle" ∧ yX11_addTo.cls ≠ "java/lang/invoke/VarHandle" ∧ (parseMethodDescriptor yX11_addTo.desc).map (fun d => d.parameters.length) = some 1 := ⟨rfl, hdS_X11_addTo⟩
set_option maxHeartbeats 4000000 in
set_option maxRecDepth 100000 in
theorem c_X11_addTo (l : Launch) (D : va_G) (a : Nat → ClassId) (t : Nat) (q_t : Nat) (q_w : Nat) (q_isKept : Nat) (t_all : Int32) (t_corners : Int32) (t_hearers : Int32) (t_newAll : Int32) (t_newCorners : Int32) (t_newHearers : Int32) (q_beer : Nat) (q_cold : Nat) (q_stands : Nat) (q_pinched : Nat) (q_says : Nat) (q_text : Nat) (t_textSize : Int32) (t_at : Int32) (t_first : Int32) (t_faultOf : Int32) (t_fault : Int32) (t_spoke : Int32) (t_holds : Int32) (t_undoMany : Int32) (q_seenDecree : Nat) (q_seenAt : Nat) (q_seenSpoke : Nat) (t_seen : Int32) (q_inSets : Nat) (q_book : Nat) (t_written : Int32) (inSets : Nat → Int32) (x1 : Int32) (o_inSets : Nat → Int32) (hf : f_X11_addTo inSets x1 = some o_inSets) : Kv l yX11_addTo wsX11_addTo 0 0 D a t [.ref q_t, .int x1] [(q_t, .inr (11, [.ref q_w, .ref q_isKept, .int t_all, .int t_corners, .int t_hearers, .int t_newAll, .int t_newCorners, .int t_newHearers, .ref q_beer, .ref q_cold, .ref q_stands, .ref q_pinched, .ref q_says, .ref q_text, .int t_textSize, .int t_at, .int t_first, .int t_faultOf, .int t_fault, .int t_spoke, .int t_holds, .int t_undoMany, .ref q_seenDecree, .ref q_seenAt, .ref q_seenSpoke, .int t_seen, .ref q_inSets, .ref q_book, .int t_written])), (q_inSets, .inl (a 0, 9, .inl inSets))] [(q_t, .inr (11, [.ref q_w, .ref q_isKept, .int t_all, .int t_corners, .int t_hearers, .int t_newAll, .int t_newCorners, .int t_newHearers, .ref q_beer, .ref q_cold, .ref q_stands, .ref q_pinched, .ref q_says, .ref q_text, .int t_textSize, .int t_at, .int t_first, .int t_faultOf, .int t_fault, .int t_spoke, .int t_holds, .int t_undoMany, .ref q_seenDecree, .ref q_seenAt, .ref q_seenSpoke, .int t_seen, .ref q_inSets, .ref q_book, .int t_written])), (q_inSets, .inl (a 0, 9, .inl o_inSets))] := by
  refine Kv.mk (cc := cX11_addTo) (nL := 3) (own := RX11) (by decide) rfl rfl (Nat.le_of_ble_eq_true rfl) ?_
  intro p e s m args below meth c A Q ls hX hP hD hS hl hret
  have hx := hX.1.1
  have hb := hX.1.2.1
  have hown := hX.1.2.2.2.1
  have hts := hX.1.2.2.2.2
  have hN := hX.2.2.1
  have hA := hX.2.2.2.2
  have hl : lv_has ls 3 [(0, .ref q_t), (1, .int x1)] := hl
  have hk1 := hts (.fieldLink RX11 48 "GainsaidOnceModel" "inSets" "[I") (List.mem_of_getElem? (i := 1) rfl)
  have hiX11 : ∀ w ∈ wsX110, w ∈ wsX11_addTo := (fun _ h => List.mem_cons_of_mem _ (List.mem_append_right _ h))
  have L_2 : ∀ (n_2 : Nat) (inSets : (Nat → Int32)) (x1 : Int32) (x2 : Int32) (H : Heap) (locs : List Loc) (ls : Array Slot), f_X11_addTo_2 n_2 inSets x1 x2 = some o_inSets → va_P D vwCl [(q_t, .inr (11, [.ref q_w, .ref q_isKept, .int t_all, .int t_corners, .int t_hearers, .int t_newAll, .int t_newCorners, .int t_newHearers, .ref q_beer, .ref q_cold, .ref q_stands, .ref q_pinched, .ref q_says, .ref q_text, .int t_textSize, .int t_at, .int t_first, .int t_faultOf, .int t_fault, .int t_spoke, .int t_holds, .int t_undoMany, .ref q_seenDecree, .ref q_seenAt, .ref q_seenSpoke, .int t_seen, .ref q_inSets, .ref q_book, .int t_written])), (q_inSets, .inl (a 0, 9, .inl inSets))] H → va_D A [(q_t, .inr (11, [.ref q_w, .ref q_isKept, .int t_all, .int t_corners, .int t_hearers, .int t_newAll, .int t_newCorners, .int t_newHearers, .ref q_beer, .ref q_cold, .ref q_stands, .ref q_pinched, .ref q_says, .ref q_text, .int t_textSize, .int t_at, .int t_first, .int t_faultOf, .int t_fault, .int t_spoke, .int t_holds, .int t_undoMany, .ref q_seenDecree, .ref q_seenAt, .ref q_seenSpoke, .int t_seen, .ref q_inSets, .ref q_book, .int t_written])), (q_inSets, .inl (a 0, 9, .inl inSets))] → va_S A s.heap H locs → lv_has ls 3 [(0, .ref q_t), (1, .int x1), (2, .int x2)] → W p l e { frames := 0, cells := 0, slots := 0, locals := 0 } s m args below meth c H locs 0 0 Q (F0 m 2 ls []) := by
    intro n_2
    induction n_2 with
    | zero => intro inSets x1 x2 H locs ls hf hP hD hS hl; rw [f_X11_addTo_2] at hf; cases hf
    | succ n_2 ih_2 =>
      intro inSets x1 x2 H locs ls hf hP hD hS hl
      rw [f_X11_addTo_2] at hf
      refine lv_iload_n hx hb dX11_addTo_2 rfl (lv_at hl 2 rfl) ?_
      refine lv_bipush (v := (9 : Int32)) hx hb dX11_addTo_3 (by decide) ?_
      refine lv_icmp_ge (tgt := 28) hx hb dX11_addTo_5 (by decide) (fun c1 => ?_) (fun c1 => ?_)
      · replace hf := o_ifp hf c1
        cases hf
        exact hret _ _ _ _ hP hD hS dX11_addTo_28
      replace hf := o_ifn hf c1
      refine lv_aload_n hx hb dX11_addTo_8 rfl (lv_at hl 0 rfl) ?_
      refine g_get hX hiX11 hP 0 rfl rfl 26 (by decide) hk1 rfl rfl dX11_addTo_9 ?_
      refine lv_iload_n hx hb dX11_addTo_12 rfl (lv_at hl 2 rfl) ?_
      refine lv_dup2_11 hx hb dX11_addTo_13 rfl rfl ?_
      obtain ⟨hiv2, hf⟩ := o_ldh hf
      refine g_iald hX hP 1 rfl hiv2 dX11_addTo_14 (fun v2 ev2 => ?_)
      replace hf := hf v2 ev2
      refine lv_iload_n hx hb dX11_addTo_15 rfl (lv_at hl 1 rfl) ?_
      refine lv_iload_n hx hb dX11_addTo_16 rfl (lv_at hl 2 rfl) ?_
      refine lv_ishr hx hb dX11_addTo_17 ?_
      refine lv_iconst (v := (1 : Int32)) hx hb dX11_addTo_18 (by decide) ?_
      refine lv_iand hx hb dX11_addTo_19 ?_
      refine lv_iadd hx hb dX11_addTo_20 ?_
      obtain ⟨hiw3, hf⟩ := o_sth hf
      refine g_iast hX hP hD hS 1 rfl hiw3 dX11_addTo_21 (fun w3 ew3 H locs hP hD hS => ?_)
      replace hf := hf w3 ew3
      replace hP : va_P D vwCl [(q_t, .inr (11, [.ref q_w, .ref q_isKept, .int t_all, .int t_corners, .int t_hearers, .int t_newAll, .int t_newCorners, .int t_newHearers, .ref q_beer, .ref q_cold, .ref q_stands, .ref q_pinched, .ref q_says, .ref q_text, .int t_textSize, .int t_at, .int t_first, .int t_faultOf, .int t_fault, .int t_spoke, .int t_holds, .int t_undoMany, .ref q_seenDecree, .ref q_seenAt, .ref q_seenSpoke, .int t_seen, .ref q_inSets, .ref q_book, .int t_written])), (q_inSets, .inl (a 0, 9, .inl w3))] H := hP
      replace hD : va_D A [(q_t, .inr (11, [.ref q_w, .ref q_isKept, .int t_all, .int t_corners, .int t_hearers, .int t_newAll, .int t_newCorners, .int t_newHearers, .ref q_beer, .ref q_cold, .ref q_stands, .ref q_pinched, .ref q_says, .ref q_text, .int t_textSize, .int t_at, .int t_first, .int t_faultOf, .int t_fault, .int t_spoke, .int t_holds, .int t_undoMany, .ref q_seenDecree, .ref q_seenAt, .ref q_seenSpoke, .int t_seen, .ref q_inSets, .ref q_book, .int t_written])), (q_inSets, .inl (a 0, 9, .inl w3))] := hD
      obtain ⟨v4, ev4⟩ : ∃ y : Int32, y = x2 + (1 : Int32) := ⟨_, rfl⟩
      replace hf := o_nmh hf v4 ev4
      refine lv_iinc (v := v4) (lv' := [(2, .int v4), (0, .ref q_t), (1, .int x1)]) hx hb dX11_addTo_22 hl (k := 2) rfl (by rw [ev4]; rfl) (by decide) rfl (fun ls hl => ?_)
      refine lv_goto (tgt := 2) hx hb dX11_addTo_25 (by decide) ?_
      exact ih_2 w3 x1 v4 _ _ _ hf hP hD hS (lv_sub hl [1, 2, 0] rfl)
  unfold f_X11_addTo at hf
  refine lv_iconst (v := (0 : Int32)) hx hb dX11_addTo_0 (by decide) ?_
  refine lv_istore_n (lv' := [(2, .int (0 : Int32)), (0, .ref q_t), (1, .int x1)]) hx hb dX11_addTo_1 rfl hl (by decide) rfl (fun ls hl => ?_)
  exact L_2 1000 inSets x1 (0 : Int32) _ _ _ hf hP hD hS (lv_sub hl [1, 2, 0] rfl)
def f_X11_behind_82 (t_hearers : Int32) (t_seen : Int32) (pinched : Nat → Int32) (seenAt : Nat → Int32) (seenDecree : Nat → Int32) (seenSpoke : Nat → Int32) (k_31 : (Nat → Int32) → (Nat → Int32) → Int32 → Int32 → Int32 → Int32 → Option (Int32 × (Nat → Int32) × (Nat → Int32))) (k_40 : (Nat → Int32) → (Nat → Int32) → Int32 → Int32 → Int32 → Int32 → Int32 → Option (Int32 × (Nat → Int32) × (Nat → Int32))) (inSets : (Nat → Int32)) (w : (Nat → Int32)) (x1 : Int32) (x2 : Int32) (x4 : Int32) (x5 : Int32) (s0 : Int32) : Option (Int32 × (Nat → Int32) × (Nat → Int32)) :=
  o_nm (x2 + (1 : Int32)) fun v1 =>
  (f_X11_addTo inSets x5).bind fun o2 =>
  o_nm (x5 + (1 : Int32)) fun v3 =>
  k_40 o2 w x1 v1 s0 x4 v3
def f_X11_behind_40 (t_hearers : Int32) (t_seen : Int32) (pinched : Nat → Int32) (seenAt : Nat → Int32) (seenDecree : Nat → Int32) (seenSpoke : Nat → Int32) (k_31 : (Nat → Int32) → (Nat → Int32) → Int32 → Int32 → Int32 → Int32 → Option (Int32 × (Nat → Int32) × (Nat → Int32))) : Nat → (Nat → Int32) → (Nat → Int32) → Int32 → Int32 → Int32 → Int32 → Int32 → Option (Int32 × (Nat → Int32) × (Nat → Int32))
  | 0, _, _, _, _, _, _, _ => none
  | n_40 + 1, inSets, w, x1, x2, x3, x4, x5 =>
    if ((1 : Int32) <<< (t_hearers &&& 31)) ≤ x5 then (o_nm (x4 + (1 : Int32)) fun v5 =>
    k_31 inSets w x1 x2 x3 v5)
    else ((f_X11_mayKeep w x5 x4).bind fun o6 =>
    if o6 = 0 then (o_nm (x5 + (1 : Int32)) fun v8 =>
    f_X11_behind_40 t_hearers t_seen pinched seenAt seenDecree seenSpoke k_31 n_40 inSets w x1 x2 x3 x4 v8)
    else ((f_X11_isAsSeen t_hearers t_seen pinched seenAt seenDecree seenSpoke w x5).bind fun o9 =>
    if o9.1 = 0 then (o_nm (x5 + (1 : Int32)) fun v11 =>
    f_X11_behind_40 t_hearers t_seen pinched seenAt seenDecree seenSpoke k_31 n_40 inSets o9.2 x1 x2 x3 x4 v11)
    else (if x2 = x1 then (f_X11_behind_82 t_hearers t_seen pinched seenAt seenDecree seenSpoke k_31 (f_X11_behind_40 t_hearers t_seen pinched seenAt seenDecree seenSpoke k_31 n_40) inSets o9.2 x1 x2 x4 x5 x5)
    else (f_X11_behind_82 t_hearers t_seen pinched seenAt seenDecree seenSpoke k_31 (f_X11_behind_40 t_hearers t_seen pinched seenAt seenDecree seenSpoke k_31 n_40) inSets o9.2 x1 x2 x4 x5 x3))))
def f_X11_behind_31 (t_hearers : Int32) (t_seen : Int32) (pinched : Nat → Int32) (seenAt : Nat → Int32) (seenDecree : Nat → Int32) (seenSpoke : Nat → Int32) : Nat → (Nat → Int32) → (Nat → Int32) → Int32 → Int32 → Int32 → Int32 → Option (Int32 × (Nat → Int32) × (Nat → Int32))
  | 0, _, _, _, _, _, _ => none
  | n_31 + 1, inSets, w, x1, x2, x3, x4 =>
    if (3 : Int32) ≤ x4 then (if x1 = (-1 : Int32) then (some (x2, inSets, w))
    else (if x1 = (-2 : Int32) then ((f_X11_look t_hearers inSets x2).bind fun o16 =>
    some (o16, inSets, w))
    else (some (x3, inSets, w))))
    else (f_X11_behind_40 t_hearers t_seen pinched seenAt seenDecree seenSpoke (f_X11_behind_31 t_hearers t_seen pinched seenAt seenDecree seenSpoke n_31) 1000 inSets w x1 x2 x3 x4 (0 : Int32))
def f_X11_behind_7 (t_hearers : Int32) (t_seen : Int32) (pinched : Nat → Int32) (seenAt : Nat → Int32) (seenDecree : Nat → Int32) (seenSpoke : Nat → Int32) : Nat → (Nat → Int32) → (Nat → Int32) → Int32 → Int32 → Int32 → Int32 → Option (Int32 × (Nat → Int32) × (Nat → Int32))
  | 0, _, _, _, _, _, _ => none
  | n_7 + 1, inSets, w, x1, x2, x3, x4 =>
    if (9 : Int32) ≤ x4 then (f_X11_behind_31 t_hearers t_seen pinched seenAt seenDecree seenSpoke 1000 inSets w x1 x2 x3 (0 : Int32))
    else ((o_st inSets 9 x4 (0 : Int32)).bind fun w18 =>
    o_nm (x4 + (1 : Int32)) fun v19 =>
    f_X11_behind_7 t_hearers t_seen pinched seenAt seenDecree seenSpoke n_7 w18 w x1 x2 x3 v19)
def f_X11_behind (t_hearers : Int32) (t_seen : Int32) (inSets : Nat → Int32) (pinched : Nat → Int32) (seenAt : Nat → Int32) (seenDecree : Nat → Int32) (seenSpoke : Nat → Int32) (w : Nat → Int32) (x1 : Int32) : Option (Int32 × (Nat → Int32) × (Nat → Int32)) :=
  f_X11_behind_7 t_hearers t_seen pinched seenAt seenDecree seenSpoke 1000 inSets w x1 (0 : Int32) (-1 : Int32) (0 : Int32)
theorem hdS_X11_behind : yX11_behind.cls ≠ "java/lang/invoke/MethodHandle" ∧ yX11_behind.cls ≠ "java/lang/invoke/VarHandle" ∧ (parseMethodDescriptor yX11_behind.desc).map (fun d => d.parameters.length) = some 1 := by decide +kernel
theorem hdV_X11_behind : yX11_behind.cls = RX11 ∧ yX11_behind.cls ≠ "java/lang/invoke/MethodHandle" ∧ yX11_behind.cls ≠ "java/lang/invoke/VarHandle" ∧ (parseMethodDescriptor yX11_behind.desc).map (fun d => d.parameters.length) = some 1 := ⟨rfl, hdS_X11_behind⟩
set_option maxHeartbeats 4000000 in
set_option maxRecDepth 100000 in
theorem c_X11_behind (l : Launch) (D : va_G) (a : Nat → ClassId) (t : Nat) (q_t : Nat) (q_w : Nat) (q_isKept : Nat) (t_all : Int32) (t_corners : Int32) (t_hearers : Int32) (t_newAll : Int32) (t_newCorners : Int32) (t_newHearers : Int32) (q_beer : Nat) (q_cold : Nat) (q_stands : Nat) (q_pinched : Nat) (q_says : Nat) (q_text : Nat) (t_textSize : Int32) (t_at : Int32) (t_first : Int32) (t_faultOf : Int32) (t_fault : Int32) (t_spoke : Int32) (t_holds : Int32) (t_undoMany : Int32) (q_seenDecree : Nat) (q_seenAt : Nat) (q_seenSpoke : Nat) (t_seen : Int32) (q_inSets : Nat) (q_book : Nat) (t_written : Int32) (inSets : Nat → Int32) (pinched : Nat → Int32) (seenAt : Nat → Int32) (seenDecree : Nat → Int32) (seenSpoke : Nat → Int32) (w : Nat → Int32) (x1 : Int32) (r : Int32) (o_inSets : Nat → Int32) (o_w : Nat → Int32) (hf : f_X11_behind t_hearers t_seen inSets pinched seenAt seenDecree seenSpoke w x1 = some (r, o_inSets, o_w)) : Ki l yX11_behind wsX11_behind 4 95 D a t [.ref q_t, .int x1] [(q_t, .inr (11, [.ref q_w, .ref q_isKept, .int t_all, .int t_corners, .int t_hearers, .int t_newAll, .int t_newCorners, .int t_newHearers, .ref q_beer, .ref q_cold, .ref q_stands, .ref q_pinched, .ref q_says, .ref q_text, .int t_textSize, .int t_at, .int t_first, .int t_faultOf, .int t_fault, .int t_spoke, .int t_holds, .int t_undoMany, .ref q_seenDecree, .ref q_seenAt, .ref q_seenSpoke, .int t_seen, .ref q_inSets, .ref q_book, .int t_written])), (q_inSets, .inl (a 0, 9, .inl inSets)), (q_pinched, .inl (a 0, 18, .inl pinched)), (q_seenAt, .inl (a 0, 6, .inl seenAt)), (q_seenDecree, .inl (a 0, 6, .inl seenDecree)), (q_seenSpoke, .inl (a 0, 6, .inl seenSpoke)), (q_w, .inl (a 0, 578, .inl w))] [(q_t, .inr (11, [.ref q_w, .ref q_isKept, .int t_all, .int t_corners, .int t_hearers, .int t_newAll, .int t_newCorners, .int t_newHearers, .ref q_beer, .ref q_cold, .ref q_stands, .ref q_pinched, .ref q_says, .ref q_text, .int t_textSize, .int t_at, .int t_first, .int t_faultOf, .int t_fault, .int t_spoke, .int t_holds, .int t_undoMany, .ref q_seenDecree, .ref q_seenAt, .ref q_seenSpoke, .int t_seen, .ref q_inSets, .ref q_book, .int t_written])), (q_inSets, .inl (a 0, 9, .inl o_inSets)), (q_pinched, .inl (a 0, 18, .inl pinched)), (q_seenAt, .inl (a 0, 6, .inl seenAt)), (q_seenDecree, .inl (a 0, 6, .inl seenDecree)), (q_seenSpoke, .inl (a 0, 6, .inl seenSpoke)), (q_w, .inl (a 0, 578, .inl o_w))] r := by
  refine Ki.mk (cc := cX11_behind) (nL := 6) (ty := .int) (own := RX11) (by decide) rfl rfl (Nat.le_of_ble_eq_true rfl) ?_
  intro p e s m args below meth c A Q ls hX hP hD hS hl hret
  have hx := hX.1.1
  have hb := hX.1.2.1
  have hown := hX.1.2.2.2.1
  have hts := hX.1.2.2.2.2
  have hN := hX.2.2.1
  have hA := hX.2.2.2.2
  have hl : lv_has ls 6 [(0, .ref q_t), (1, .int x1)] := hl
  have hk1 := hts (.fieldLink RX11 48 "GainsaidOnceModel" "inSets" "[I") (List.mem_of_getElem? (i := 1) rfl)
  have hk2 := hts (.fieldLink RX11 129 "GainsaidOnceModel" "hearers" "I") (List.mem_of_getElem? (i := 2) rfl)
  have hiX11 : ∀ w ∈ wsX110, w ∈ wsX11_behind := (fun _ h => List.mem_cons_of_mem _ (List.mem_append_right _ h))
  have L_31 : ∀ (n_31 : Nat) (inSets : (Nat → Int32)) (w : (Nat → Int32)) (x1 : Int32) (x2 : Int32) (x3 : Int32) (x4 : Int32) (H : Heap) (locs : List Loc) (ls : Array Slot), f_X11_behind_31 t_hearers t_seen pinched seenAt seenDecree seenSpoke n_31 inSets w x1 x2 x3 x4 = some (r, o_inSets, o_w) → va_P D vwCl [(q_t, .inr (11, [.ref q_w, .ref q_isKept, .int t_all, .int t_corners, .int t_hearers, .int t_newAll, .int t_newCorners, .int t_newHearers, .ref q_beer, .ref q_cold, .ref q_stands, .ref q_pinched, .ref q_says, .ref q_text, .int t_textSize, .int t_at, .int t_first, .int t_faultOf, .int t_fault, .int t_spoke, .int t_holds, .int t_undoMany, .ref q_seenDecree, .ref q_seenAt, .ref q_seenSpoke, .int t_seen, .ref q_inSets, .ref q_book, .int t_written])), (q_inSets, .inl (a 0, 9, .inl inSets)), (q_pinched, .inl (a 0, 18, .inl pinched)), (q_seenAt, .inl (a 0, 6, .inl seenAt)), (q_seenDecree, .inl (a 0, 6, .inl seenDecree)), (q_seenSpoke, .inl (a 0, 6, .inl seenSpoke)), (q_w, .inl (a 0, 578, .inl w))] H → va_D A [(q_t, .inr (11, [.ref q_w, .ref q_isKept, .int t_all, .int t_corners, .int t_hearers, .int t_newAll, .int t_newCorners, .int t_newHearers, .ref q_beer, .ref q_cold, .ref q_stands, .ref q_pinched, .ref q_says, .ref q_text, .int t_textSize, .int t_at, .int t_first, .int t_faultOf, .int t_fault, .int t_spoke, .int t_holds, .int t_undoMany, .ref q_seenDecree, .ref q_seenAt, .ref q_seenSpoke, .int t_seen, .ref q_inSets, .ref q_book, .int t_written])), (q_inSets, .inl (a 0, 9, .inl inSets)), (q_pinched, .inl (a 0, 18, .inl pinched)), (q_seenAt, .inl (a 0, 6, .inl seenAt)), (q_seenDecree, .inl (a 0, 6, .inl seenDecree)), (q_seenSpoke, .inl (a 0, 6, .inl seenSpoke)), (q_w, .inl (a 0, 578, .inl w))] → va_S A s.heap H locs → lv_has ls 6 [(0, .ref q_t), (1, .int x1), (2, .int x2), (3, .int x3), (4, .int x4)] → W p l e { frames := 4, cells := 0, slots := 0, locals := 95 } s m args below meth c H locs 0 0 Q (F0 m 31 ls []) := by
    intro n_31
    induction n_31 with
    | zero => intro inSets w x1 x2 x3 x4 H locs ls hf hP hD hS hl; rw [f_X11_behind_31] at hf; cases hf
    | succ n_31 ih_31 =>
      have L_40 : ∀ (n_40 : Nat) (inSets : (Nat → Int32)) (w : (Nat → Int32)) (x1 : Int32) (x2 : Int32) (x3 : Int32) (x4 : Int32) (x5 : Int32) (H : Heap) (locs : List Loc) (ls : Array Slot), f_X11_behind_40 t_hearers t_seen pinched seenAt seenDecree seenSpoke (f_X11_behind_31 t_hearers t_seen pinched seenAt seenDecree seenSpoke n_31) n_40 inSets w x1 x2 x3 x4 x5 = some (r, o_inSets, o_w) → va_P D vwCl [(q_t, .inr (11, [.ref q_w, .ref q_isKept, .int t_all, .int t_corners, .int t_hearers, .int t_newAll, .int t_newCorners, .int t_newHearers, .ref q_beer, .ref q_cold, .ref q_stands, .ref q_pinched, .ref q_says, .ref q_text, .int t_textSize, .int t_at, .int t_first, .int t_faultOf, .int t_fault, .int t_spoke, .int t_holds, .int t_undoMany, .ref q_seenDecree, .ref q_seenAt, .ref q_seenSpoke, .int t_seen, .ref q_inSets, .ref q_book, .int t_written])), (q_inSets, .inl (a 0, 9, .inl inSets)), (q_pinched, .inl (a 0, 18, .inl pinched)), (q_seenAt, .inl (a 0, 6, .inl seenAt)), (q_seenDecree, .inl (a 0, 6, .inl seenDecree)), (q_seenSpoke, .inl (a 0, 6, .inl seenSpoke)), (q_w, .inl (a 0, 578, .inl w))] H → va_D A [(q_t, .inr (11, [.ref q_w, .ref q_isKept, .int t_all, .int t_corners, .int t_hearers, .int t_newAll, .int t_newCorners, .int t_newHearers, .ref q_beer, .ref q_cold, .ref q_stands, .ref q_pinched, .ref q_says, .ref q_text, .int t_textSize, .int t_at, .int t_first, .int t_faultOf, .int t_fault, .int t_spoke, .int t_holds, .int t_undoMany, .ref q_seenDecree, .ref q_seenAt, .ref q_seenSpoke, .int t_seen, .ref q_inSets, .ref q_book, .int t_written])), (q_inSets, .inl (a 0, 9, .inl inSets)), (q_pinched, .inl (a 0, 18, .inl pinched)), (q_seenAt, .inl (a 0, 6, .inl seenAt)), (q_seenDecree, .inl (a 0, 6, .inl seenDecree)), (q_seenSpoke, .inl (a 0, 6, .inl seenSpoke)), (q_w, .inl (a 0, 578, .inl w))] → va_S A s.heap H locs → lv_has ls 6 [(0, .ref q_t), (1, .int x1), (2, .int x2), (3, .int x3), (4, .int x4), (5, .int x5)] → W p l e { frames := 4, cells := 0, slots := 0, locals := 95 } s m args below meth c H locs 0 0 Q (F0 m 40 ls []) := by
        intro n_40
        induction n_40 with
        | zero => intro inSets w x1 x2 x3 x4 x5 H locs ls hf hP hD hS hl; rw [f_X11_behind_40] at hf; cases hf
        | succ n_40 ih_40 =>
          have L_82 : ∀ (inSets : (Nat → Int32)) (w : (Nat → Int32)) (x1 : Int32) (x2 : Int32) (x4 : Int32) (x5 : Int32) (s0 : Int32) (H : Heap) (locs : List Loc) (ls : Array Slot), f_X11_behind_82 t_hearers t_seen pinched seenAt seenDecree seenSpoke (f_X11_behind_31 t_hearers t_seen pinched seenAt seenDecree seenSpoke n_31) (f_X11_behind_40 t_hearers t_seen pinched seenAt seenDecree seenSpoke (f_X11_behind_31 t_hearers t_seen pinched seenAt seenDecree seenSpoke n_31) n_40) inSets w x1 x2 x4 x5 s0 = some (r, o_inSets, o_w) → va_P D vwCl [(q_t, .inr (11, [.ref q_w, .ref q_isKept, .int t_all, .int t_corners, .int t_hearers, .int t_newAll, .int t_newCorners, .int t_newHearers, .ref q_beer, .ref q_cold, .ref q_stands, .ref q_pinched, .ref q_says, .ref q_text, .int t_textSize, .int t_at, .int t_first, .int t_faultOf, .int t_fault, .int t_spoke, .int t_holds, .int t_undoMany, .ref q_seenDecree, .ref q_seenAt, .ref q_seenSpoke, .int t_seen, .ref q_inSets, .ref q_book, .int t_written])), (q_inSets, .inl (a 0, 9, .inl inSets)), (q_pinched, .inl (a 0, 18, .inl pinched)), (q_seenAt, .inl (a 0, 6, .inl seenAt)), (q_seenDecree, .inl (a 0, 6, .inl seenDecree)), (q_seenSpoke, .inl (a 0, 6, .inl seenSpoke)), (q_w, .inl (a 0, 578, .inl w))] H → va_D A [(q_t, .inr (11, [.ref q_w, .ref q_isKept, .int t_all, .int t_corners, .int t_hearers, .int t_newAll, .int t_newCorners, .int t_newHearers, .ref q_beer, .ref q_cold, .ref q_stands, .ref q_pinched, .ref q_says, .ref q_text, .int t_textSize, .int t_at, .int t_first, .int t_faultOf, .int t_fault, .int t_spoke, .int t_holds, .int t_undoMany, .ref q_seenDecree, .ref q_seenAt, .ref q_seenSpoke, .int t_seen, .ref q_inSets, .ref q_book, .int t_written])), (q_inSets, .inl (a 0, 9, .inl inSets)), (q_pinched, .inl (a 0, 18, .inl pinched)), (q_seenAt, .inl (a 0, 6, .inl seenAt)), (q_seenDecree, .inl (a 0, 6, .inl seenDecree)), (q_seenSpoke, .inl (a 0, 6, .inl seenSpoke)), (q_w, .inl (a 0, 578, .inl w))] → va_S A s.heap H locs → lv_has ls 6 [(0, .ref q_t), (1, .int x1), (2, .int x2), (4, .int x4), (5, .int x5)] → W p l e { frames := 4, cells := 0, slots := 0, locals := 95 } s m args below meth c H locs 0 0 Q (F0 m 82 ls [.int s0]) := by
            intro inSets w x1 x2 x4 x5 s0 H locs ls hf hP hD hS hl
            unfold f_X11_behind_82 at hf
            refine lv_istore_n (lv' := [(3, .int s0), (0, .ref q_t), (1, .int x1), (2, .int x2), (4, .int x4), (5, .int x5)]) hx hb dX11_behind_82 rfl hl (by decide) rfl (fun ls hl => ?_)
            obtain ⟨v1, ev1⟩ : ∃ y : Int32, y = x2 + (1 : Int32) := ⟨_, rfl⟩
            replace hf := o_nmh hf v1 ev1
            refine lv_iinc (v := v1) (lv' := [(2, .int v1), (3, .int s0), (0, .ref q_t), (1, .int x1), (4, .int x4), (5, .int x5)]) hx hb dX11_behind_83 hl (k := 3) rfl (by rw [ev1]; rfl) (by decide) rfl (fun ls hl => ?_)
            refine lv_aload_n hx hb dX11_behind_86 rfl (lv_at hl 2 rfl) ?_
            refine lv_iload hx hb dX11_behind_87 (lv_at hl 5 rfl) ?_
            obtain ⟨o2, ho2, hf⟩ := o_bd hf
            refine call_vV (q0 := 0) (ci := 11) hX (c_X11_addTo l D a t q_t q_w q_isKept t_all t_corners t_hearers t_newAll t_newCorners t_newHearers q_beer q_cold q_stands q_pinched q_says q_text t_textSize t_at t_first t_faultOf t_fault t_spoke t_holds t_undoMany q_seenDecree q_seenAt q_seenSpoke t_seen q_inSets q_book t_written inSets x5 o2 ho2) (cwV 1 hts gX11_behind_X11_addTo rfl rfl rfl hdV_X11_addTo ⟨by decide, by decide⟩) (Cut.of hA hP hD hS [0, 1] (by decide) rfl rfl (W' := [(q_t, .inr (11, [.ref q_w, .ref q_isKept, .int t_all, .int t_corners, .int t_hearers, .int t_newAll, .int t_newCorners, .int t_newHearers, .ref q_beer, .ref q_cold, .ref q_stands, .ref q_pinched, .ref q_says, .ref q_text, .int t_textSize, .int t_at, .int t_first, .int t_faultOf, .int t_fault, .int t_spoke, .int t_holds, .int t_undoMany, .ref q_seenDecree, .ref q_seenAt, .ref q_seenSpoke, .int t_seen, .ref q_inSets, .ref q_book, .int t_written])), (q_inSets, .inl (a 0, 9, .inl o2)), (q_pinched, .inl (a 0, 18, .inl pinched)), (q_seenAt, .inl (a 0, 6, .inl seenAt)), (q_seenDecree, .inl (a 0, 6, .inl seenDecree)), (q_seenSpoke, .inl (a 0, 6, .inl seenSpoke)), (q_w, .inl (a 0, 578, .inl w))]) rfl) hS rfl rfl rfl hl.1 rfl (Nat.le_of_ble_eq_true rfl) dX11_behind_89 (by decide) (fun H locs hP hD hS => ?_)
            replace hP : va_P D vwCl [(q_t, .inr (11, [.ref q_w, .ref q_isKept, .int t_all, .int t_corners, .int t_hearers, .int t_newAll, .int t_newCorners, .int t_newHearers, .ref q_beer, .ref q_cold, .ref q_stands, .ref q_pinched, .ref q_says, .ref q_text, .int t_textSize, .int t_at, .int t_first, .int t_faultOf, .int t_fault, .int t_spoke, .int t_holds, .int t_undoMany, .ref q_seenDecree, .ref q_seenAt, .ref q_seenSpoke, .int t_seen, .ref q_inSets, .ref q_book, .int t_written])), (q_inSets, .inl (a 0, 9, .inl o2)), (q_pinched, .inl (a 0, 18, .inl pinched)), (q_seenAt, .inl (a 0, 6, .inl seenAt)), (q_seenDecree, .inl (a 0, 6, .inl seenDecree)), (q_seenSpoke, .inl (a 0, 6, .inl seenSpoke)), (q_w, .inl (a 0, 578, .inl w))] H := hP
            replace hD : va_D A [(q_t, .inr (11, [.ref q_w, .ref q_isKept, .int t_all, .int t_corners, .int t_hearers, .int t_newAll, .int t_newCorners, .int t_newHearers, .ref q_beer, .ref q_cold, .ref q_stands, .ref q_pinched, .ref q_says, .ref q_text, .int t_textSize, .int t_at, .int t_first, .int t_faultOf, .int t_fault, .int t_spoke, .int t_holds, .int t_undoMany, .ref q_seenDecree, .ref q_seenAt, .ref q_seenSpoke, .int t_seen, .ref q_inSets, .ref q_book, .int t_written])), (q_inSets, .inl (a 0, 9, .inl o2)), (q_pinched, .inl (a 0, 18, .inl pinched)), (q_seenAt, .inl (a 0, 6, .inl seenAt)), (q_seenDecree, .inl (a 0, 6, .inl seenDecree)), (q_seenSpoke, .inl (a 0, 6, .inl seenSpoke)), (q_w, .inl (a 0, 578, .inl w))] := hD
            obtain ⟨v3, ev3⟩ : ∃ y : Int32, y = x5 + (1 : Int32) := ⟨_, rfl⟩
            replace hf := o_nmh hf v3 ev3
            refine lv_iinc (v := v3) (lv' := [(5, .int v3), (2, .int v1), (3, .int s0), (0, .ref q_t), (1, .int x1), (4, .int x4)]) hx hb dX11_behind_92 hl (k := 5) rfl (by rw [ev3]; rfl) (by decide) rfl (fun ls hl => ?_)
            refine lv_goto (tgt := 40) hx hb dX11_behind_95 (by decide) ?_
            exact ih_40 o2 w x1 v1 s0 x4 v3 _ _ _ hf hP hD hS (lv_sub hl [3, 4, 1, 2, 5, 0] rfl)
          intro inSets w x1 x2 x3 x4 x5 H locs ls hf hP hD hS hl
          rw [f_X11_behind_40] at hf
          refine lv_iload hx hb dX11_behind_40 (lv_at hl 5 rfl) ?_
          refine lv_iconst (v := (1 : Int32)) hx hb dX11_behind_42 (by decide) ?_
          refine lv_aload_n hx hb dX11_behind_43 rfl (lv_at hl 0 rfl) ?_
          refine g_get hX hiX11 hP 0 rfl rfl 4 (by decide) hk2 rfl rfl dX11_behind_44 ?_
          refine lv_ishl hx hb dX11_behind_47 ?_
          refine lv_icmp_ge (tgt := 98) hx hb dX11_behind_48 (by decide) (fun c4 => ?_) (fun c4 => ?_)
          · replace hf := o_ifp hf c4
            obtain ⟨v5, ev5⟩ : ∃ y : Int32, y = x4 + (1 : Int32) := ⟨_, rfl⟩
            replace hf := o_nmh hf v5 ev5
            refine lv_iinc (v := v5) (lv' := [(4, .int v5), (0, .ref q_t), (1, .int x1), (2, .int x2), (3, .int x3), (5, .int x5)]) hx hb dX11_behind_98 hl (k := 4) rfl (by rw [ev5]; rfl) (by decide) rfl (fun ls hl => ?_)
            refine lv_goto (tgt := 31) hx hb dX11_behind_101 (by decide) ?_
            exact ih_31 inSets w x1 x2 x3 v5 _ _ _ hf hP hD hS (lv_sub hl [1, 2, 3, 4, 0] rfl)
          replace hf := o_ifn hf c4
          refine lv_aload_n hx hb dX11_behind_51 rfl (lv_at hl 0 rfl) ?_
          refine lv_iload hx hb dX11_behind_52 (lv_at hl 5 rfl) ?_
          refine lv_iload hx hb dX11_behind_54 (lv_at hl 4 rfl) ?_
          obtain ⟨o6, ho6, hf⟩ := o_bd hf
          refine call_iV (q0 := 0) (ci := 11) hX (c_X11_mayKeep l D a t q_t q_w q_isKept t_all t_corners t_hearers t_newAll t_newCorners t_newHearers q_beer q_cold q_stands q_pinched q_says q_text t_textSize t_at t_first t_faultOf t_fault t_spoke t_holds t_undoMany q_seenDecree q_seenAt q_seenSpoke t_seen q_inSets q_book t_written w x5 x4 o6 ho6) (cwV 2 hts gX11_behind_X11_mayKeep rfl rfl rfl hdV_X11_mayKeep ⟨by decide, by decide⟩) (Cut.of hA hP hD hS [0, 6] (by decide) rfl rfl (W' := [(q_t, .inr (11, [.ref q_w, .ref q_isKept, .int t_all, .int t_corners, .int t_hearers, .int t_newAll, .int t_newCorners, .int t_newHearers, .ref q_beer, .ref q_cold, .ref q_stands, .ref q_pinched, .ref q_says, .ref q_text, .int t_textSize, .int t_at, .int t_first, .int t_faultOf, .int t_fault, .int t_spoke, .int t_holds, .int t_undoMany, .ref q_seenDecree, .ref q_seenAt, .ref q_seenSpoke, .int t_seen, .ref q_inSets, .ref q_book, .int t_written])), (q_inSets, .inl (a 0, 9, .inl inSets)), (q_pinched, .inl (a 0, 18, .inl pinched)), (q_seenAt, .inl (a 0, 6, .inl seenAt)), (q_seenDecree, .inl (a 0, 6, .inl seenDecree)), (q_seenSpoke, .inl (a 0, 6, .inl seenSpoke)), (q_w, .inl (a 0, 578, .inl w))]) rfl) hS rfl rfl rfl hl.1 rfl (Nat.le_of_ble_eq_true rfl) dX11_behind_56 (by decide) (fun H locs hP hD hS => ?_)
          replace hP : va_P D vwCl [(q_t, .inr (11, [.ref q_w, .ref q_isKept, .int t_all, .int t_corners, .int t_hearers, .int t_newAll, .int t_newCorners, .int t_newHearers, .ref q_beer, .ref q_cold, .ref q_stands, .ref q_pinched, .ref q_says, .ref q_text, .int t_textSize, .int t_at, .int t_first, .int t_faultOf, .int t_fault, .int t_spoke, .int t_holds, .int t_undoMany, .ref q_seenDecree, .ref q_seenAt, .ref q_seenSpoke, .int t_seen, .ref q_inSets, .ref q_book, .int t_written])), (q_inSets, .inl (a 0, 9, .inl inSets)), (q_pinched, .inl (a 0, 18, .inl pinched)), (q_seenAt, .inl (a 0, 6, .inl seenAt)), (q_seenDecree, .inl (a 0, 6, .inl seenDecree)), (q_seenSpoke, .inl (a 0, 6, .inl seenSpoke)), (q_w, .inl (a 0, 578, .inl w))] H := hP
          replace hD : va_D A [(q_t, .inr (11, [.ref q_w, .ref q_isKept, .int t_all, .int t_corners, .int t_hearers, .int t_newAll, .int t_newCorners, .int t_newHearers, .ref q_beer, .ref q_cold, .ref q_stands, .ref q_pinched, .ref q_says, .ref q_text, .int t_textSize, .int t_at, .int t_first, .int t_faultOf, .int t_fault, .int t_spoke, .int t_holds, .int t_undoMany, .ref q_seenDecree, .ref q_seenAt, .ref q_seenSpoke, .int t_seen, .ref q_inSets, .ref q_book, .int t_written])), (q_inSets, .inl (a 0, 9, .inl inSets)), (q_pinched, .inl (a 0, 18, .inl pinched)), (q_seenAt, .inl (a 0, 6, .inl seenAt)), (q_seenDecree, .inl (a 0, 6, .inl seenDecree)), (q_seenSpoke, .inl (a 0, 6, .inl seenSpoke)), (q_w, .inl (a 0, 578, .inl w))] := hD
          refine lv_if_eq (tgt := 92) hx hb dX11_behind_59 (by decide) (fun c7 => ?_) (fun c7 => ?_)
          · replace hf := o_ifp hf c7
            obtain ⟨v8, ev8⟩ : ∃ y : Int32, y = x5 + (1 : Int32) := ⟨_, rfl⟩
            replace hf := o_nmh hf v8 ev8
            refine lv_iinc (v := v8) (lv' := [(5, .int v8), (0, .ref q_t), (1, .int x1), (2, .int x2), (3, .int x3), (4, .int x4)]) hx hb dX11_behind_92 hl (k := 5) rfl (by rw [ev8]; rfl) (by decide) rfl (fun ls hl => ?_)
            refine lv_goto (tgt := 40) hx hb dX11_behind_95 (by decide) ?_
            exact ih_40 inSets w x1 x2 x3 x4 v8 _ _ _ hf hP hD hS (lv_sub hl [1, 2, 3, 4, 5, 0] rfl)
          replace hf := o_ifn hf c7
          refine lv_aload_n hx hb dX11_behind_62 rfl (lv_at hl 0 rfl) ?_
          refine lv_iload hx hb dX11_behind_63 (lv_at hl 5 rfl) ?_
          obtain ⟨o9, ho9, hf⟩ := o_bd hf
          refine call_iV (q0 := 0) (ci := 11) hX (c_X11_isAsSeen l D a t q_t q_w q_isKept t_all t_corners t_hearers t_newAll t_newCorners t_newHearers q_beer q_cold q_stands q_pinched q_says q_text t_textSize t_at t_first t_faultOf t_fault t_spoke t_holds t_undoMany q_seenDecree q_seenAt q_seenSpoke t_seen q_inSets q_book t_written pinched seenAt seenDecree seenSpoke w x5 o9.1 o9.2 ho9) (cwV 1 hts gX11_behind_X11_isAsSeen rfl rfl rfl hdV_X11_isAsSeen ⟨by decide, by decide⟩) (Cut.of hA hP hD hS [0, 2, 3, 4, 5, 6] (by decide) rfl rfl (W' := [(q_t, .inr (11, [.ref q_w, .ref q_isKept, .int t_all, .int t_corners, .int t_hearers, .int t_newAll, .int t_newCorners, .int t_newHearers, .ref q_beer, .ref q_cold, .ref q_stands, .ref q_pinched, .ref q_says, .ref q_text, .int t_textSize, .int t_at, .int t_first, .int t_faultOf, .int t_fault, .int t_spoke, .int t_holds, .int t_undoMany, .ref q_seenDecree, .ref q_seenAt, .ref q_seenSpoke, .int t_seen, .ref q_inSets, .ref q_book, .int t_written])), (q_inSets, .inl (a 0, 9, .inl inSets)), (q_pinched, .inl (a 0, 18, .inl pinched)), (q_seenAt, .inl (a 0, 6, .inl seenAt)), (q_seenDecree, .inl (a 0, 6, .inl seenDecree)), (q_seenSpoke, .inl (a 0, 6, .inl seenSpoke)), (q_w, .inl (a 0, 578, .inl o9.2))]) rfl) hS rfl rfl rfl hl.1 rfl (Nat.le_of_ble_eq_true rfl) dX11_behind_65 (by decide) (fun H locs hP hD hS => ?_)
          replace hP : va_P D vwCl [(q_t, .inr (11, [.ref q_w, .ref q_isKept, .int t_all, .int t_corners, .int t_hearers, .int t_newAll, .int t_newCorners, .int t_newHearers, .ref q_beer, .ref q_cold, .ref q_stands, .ref q_pinched, .ref q_says, .ref q_text, .int t_textSize, .int t_at, .int t_first, .int t_faultOf, .int t_fault, .int t_spoke, .int t_holds, .int t_undoMany, .ref q_seenDecree, .ref q_seenAt, .ref q_seenSpoke, .int t_seen, .ref q_inSets, .ref q_book, .int t_written])), (q_inSets, .inl (a 0, 9, .inl inSets)), (q_pinched, .inl (a 0, 18, .inl pinched)), (q_seenAt, .inl (a 0, 6, .inl seenAt)), (q_seenDecree, .inl (a 0, 6, .inl seenDecree)), (q_seenSpoke, .inl (a 0, 6, .inl seenSpoke)), (q_w, .inl (a 0, 578, .inl o9.2))] H := hP
          replace hD : va_D A [(q_t, .inr (11, [.ref q_w, .ref q_isKept, .int t_all, .int t_corners, .int t_hearers, .int t_newAll, .int t_newCorners, .int t_newHearers, .ref q_beer, .ref q_cold, .ref q_stands, .ref q_pinched, .ref q_says, .ref q_text, .int t_textSize, .int t_at, .int t_first, .int t_faultOf, .int t_fault, .int t_spoke, .int t_holds, .int t_undoMany, .ref q_seenDecree, .ref q_seenAt, .ref q_seenSpoke, .int t_seen, .ref q_inSets, .ref q_book, .int t_written])), (q_inSets, .inl (a 0, 9, .inl inSets)), (q_pinched, .inl (a 0, 18, .inl pinched)), (q_seenAt, .inl (a 0, 6, .inl seenAt)), (q_seenDecree, .inl (a 0, 6, .inl seenDecree)), (q_seenSpoke, .inl (a 0, 6, .inl seenSpoke)), (q_w, .inl (a 0, 578, .inl o9.2))] := hD
          refine lv_if_eq (tgt := 92) hx hb dX11_behind_68 (by decide) (fun c10 => ?_) (fun c10 => ?_)
          · replace hf := o_ifp hf c10
            obtain ⟨v11, ev11⟩ : ∃ y : Int32, y = x5 + (1 : Int32) := ⟨_, rfl⟩
            replace hf := o_nmh hf v11 ev11
            refine lv_iinc (v := v11) (lv' := [(5, .int v11), (0, .ref q_t), (1, .int x1), (2, .int x2), (3, .int x3), (4, .int x4)]) hx hb dX11_behind_92 hl (k := 5) rfl (by rw [ev11]; rfl) (by decide) rfl (fun ls hl => ?_)
            refine lv_goto (tgt := 40) hx hb dX11_behind_95 (by decide) ?_
            exact ih_40 inSets o9.2 x1 x2 x3 x4 v11 _ _ _ hf hP hD hS (lv_sub hl [1, 2, 3, 4, 5, 0] rfl)
          replace hf := o_ifn hf c10
          refine lv_iload_n hx hb dX11_behind_71 rfl (lv_at hl 2 rfl) ?_
          refine lv_iload_n hx hb dX11_behind_72 rfl (lv_at hl 1 rfl) ?_
          refine lv_icmp_ne (tgt := 81) hx hb dX11_behind_73 (by decide) (fun c12 => ?_) (fun c12 => ?_)
          · replace hf := o_ifn hf c12
            refine lv_iload_n hx hb dX11_behind_81 rfl (lv_at hl 3 rfl) ?_
            exact L_82 inSets o9.2 x1 x2 x4 x5 x3 _ _ _ hf hP hD hS (lv_sub hl [0, 1, 2, 4, 5] rfl)
          replace hf := o_ifp hf c12
          refine lv_iload hx hb dX11_behind_76 (lv_at hl 5 rfl) ?_
          refine lv_goto (tgt := 82) hx hb dX11_behind_78 (by decide) ?_
          exact L_82 inSets o9.2 x1 x2 x4 x5 x5 _ _ _ hf hP hD hS (lv_sub hl [0, 1, 2, 4, 5] rfl)
      intro inSets w x1 x2 x3 x4 H locs ls hf hP hD hS hl
      rw [f_X11_behind_31] at hf
      refine lv_iload hx hb dX11_behind_31 (lv_at hl 4 rfl) ?_
      refine lv_iconst (v := (3 : Int32)) hx hb dX11_behind_33 (by decide) ?_
      refine lv_icmp_ge (tgt := 104) hx hb dX11_behind_34 (by decide) (fun c13 => ?_) (fun c13 => ?_)
      · replace hf := o_ifp hf c13
        refine lv_iload_n hx hb dX11_behind_104 rfl (lv_at hl 1 rfl) ?_
        refine lv_iconst (v := (-1 : Int32)) hx hb dX11_behind_105 (by decide) ?_
        refine lv_icmp_ne (tgt := 113) hx hb dX11_behind_106 (by decide) (fun c14 => ?_) (fun c14 => ?_)
        · replace hf := o_ifn hf c14
          refine lv_iload_n hx hb dX11_behind_113 rfl (lv_at hl 1 rfl) ?_
          refine lv_bipush (v := (-2 : Int32)) hx hb dX11_behind_114 (by decide) ?_
          refine lv_icmp_ne (tgt := 127) hx hb dX11_behind_116 (by decide) (fun c15 => ?_) (fun c15 => ?_)
          · replace hf := o_ifn hf c15
            refine lv_iload_n hx hb dX11_behind_127 rfl (lv_at hl 3 rfl) ?_
            cases hf
            exact hret _ _ _ _ (vp_nar_int _) hP hD hS dX11_behind_128
          replace hf := o_ifp hf c15
          refine lv_aload_n hx hb dX11_behind_119 rfl (lv_at hl 0 rfl) ?_
          refine lv_iload_n hx hb dX11_behind_120 rfl (lv_at hl 2 rfl) ?_
          obtain ⟨o16, ho16, hf⟩ := o_bd hf
          refine call_iV (q0 := 0) (ci := 11) hX (c_X11_look l D a t q_t q_w q_isKept t_all t_corners t_hearers t_newAll t_newCorners t_newHearers q_beer q_cold q_stands q_pinched q_says q_text t_textSize t_at t_first t_faultOf t_fault t_spoke t_holds t_undoMany q_seenDecree q_seenAt q_seenSpoke t_seen q_inSets q_book t_written inSets x2 o16 ho16) (cwV 1 hts gX11_behind_X11_look rfl rfl rfl hdV_X11_look ⟨by decide, by decide⟩) (Cut.of hA hP hD hS [0, 1] (by decide) rfl rfl (W' := [(q_t, .inr (11, [.ref q_w, .ref q_isKept, .int t_all, .int t_corners, .int t_hearers, .int t_newAll, .int t_newCorners, .int t_newHearers, .ref q_beer, .ref q_cold, .ref q_stands, .ref q_pinched, .ref q_says, .ref q_text, .int t_textSize, .int t_at, .int t_first, .int t_faultOf, .int t_fault, .int t_spoke, .int t_holds, .int t_undoMany, .ref q_seenDecree, .ref q_seenAt, .ref q_seenSpoke, .int t_seen, .ref q_inSets, .ref q_book, .int t_written])), (q_inSets, .inl (a 0, 9, .inl inSets)), (q_pinched, .inl (a 0, 18, .inl pinched)), (q_seenAt, .inl (a 0, 6, .inl seenAt)), (q_seenDecree, .inl (a 0, 6, .inl seenDecree)), (q_seenSpoke, .inl (a 0, 6, .inl seenSpoke)), (q_w, .inl (a 0, 578, .inl w))]) rfl) hS rfl rfl rfl hl.1 rfl (Nat.le_of_ble_eq_true rfl) dX11_behind_121 (by decide) (fun H locs hP hD hS => ?_)
          replace hP : va_P D vwCl [(q_t, .inr (11, [.ref q_w, .ref q_isKept, .int t_all, .int t_corners, .int t_hearers, .int t_newAll, .int t_newCorners, .int t_newHearers, .ref q_beer, .ref q_cold, .ref q_stands, .ref q_pinched, .ref q_says, .ref q_text, .int t_textSize, .int t_at, .int t_first, .int t_faultOf, .int t_fault, .int t_spoke, .int t_holds, .int t_undoMany, .ref q_seenDecree, .ref q_seenAt, .ref q_seenSpoke, .int t_seen, .ref q_inSets, .ref q_book, .int t_written])), (q_inSets, .inl (a 0, 9, .inl inSets)), (q_pinched, .inl (a 0, 18, .inl pinched)), (q_seenAt, .inl (a 0, 6, .inl seenAt)), (q_seenDecree, .inl (a 0, 6, .inl seenDecree)), (q_seenSpoke, .inl (a 0, 6, .inl seenSpoke)), (q_w, .inl (a 0, 578, .inl w))] H := hP
          replace hD : va_D A [(q_t, .inr (11, [.ref q_w, .ref q_isKept, .int t_all, .int t_corners, .int t_hearers, .int t_newAll, .int t_newCorners, .int t_newHearers, .ref q_beer, .ref q_cold, .ref q_stands, .ref q_pinched, .ref q_says, .ref q_text, .int t_textSize, .int t_at, .int t_first, .int t_faultOf, .int t_fault, .int t_spoke, .int t_holds, .int t_undoMany, .ref q_seenDecree, .ref q_seenAt, .ref q_seenSpoke, .int t_seen, .ref q_inSets, .ref q_book, .int t_written])), (q_inSets, .inl (a 0, 9, .inl inSets)), (q_pinched, .inl (a 0, 18, .inl pinched)), (q_seenAt, .inl (a 0, 6, .inl seenAt)), (q_seenDecree, .inl (a 0, 6, .inl seenDecree)), (q_seenSpoke, .inl (a 0, 6, .inl seenSpoke)), (q_w, .inl (a 0, 578, .inl w))] := hD
          refine lv_goto (tgt := 128) hx hb dX11_behind_124 (by decide) ?_
          cases hf
          exact hret _ _ _ _ (vp_nar_int _) hP hD hS dX11_behind_128
        replace hf := o_ifp hf c14
        refine lv_iload_n hx hb dX11_behind_109 rfl (lv_at hl 2 rfl) ?_
        refine lv_goto (tgt := 128) hx hb dX11_behind_110 (by decide) ?_
        cases hf
        exact hret _ _ _ _ (vp_nar_int _) hP hD hS dX11_behind_128
      replace hf := o_ifn hf c13
      refine lv_iconst (v := (0 : Int32)) hx hb dX11_behind_37 (by decide) ?_
      refine lv_istore (lv' := [(5, .int (0 : Int32)), (0, .ref q_t), (1, .int x1), (2, .int x2), (3, .int x3), (4, .int x4)]) hx hb dX11_behind_38 hl (by decide) rfl (fun ls hl => ?_)
      exact L_40 1000 inSets w x1 x2 x3 x4 (0 : Int32) _ _ _ hf hP hD hS (lv_sub hl [1, 2, 3, 4, 5, 0] rfl)
  have L_7 : ∀ (n_7 : Nat) (inSets : (Nat → Int32)) (w : (Nat → Int32)) (x1 : Int32) (x2 : Int32) (x3 : Int32) (x4 : Int32) (H : Heap) (locs : List Loc) (ls : Array Slot), f_X11_behind_7 t_hearers t_seen pinched seenAt seenDecree seenSpoke n_7 inSets w x1 x2 x3 x4 = some (r, o_inSets, o_w) → va_P D vwCl [(q_t, .inr (11, [.ref q_w, .ref q_isKept, .int t_all, .int t_corners, .int t_hearers, .int t_newAll, .int t_newCorners, .int t_newHearers, .ref q_beer, .ref q_cold, .ref q_stands, .ref q_pinched, .ref q_says, .ref q_text, .int t_textSize, .int t_at, .int t_first, .int t_faultOf, .int t_fault, .int t_spoke, .int t_holds, .int t_undoMany, .ref q_seenDecree, .ref q_seenAt, .ref q_seenSpoke, .int t_seen, .ref q_inSets, .ref q_book, .int t_written])), (q_inSets, .inl (a 0, 9, .inl inSets)), (q_pinched, .inl (a 0, 18, .inl pinched)), (q_seenAt, .inl (a 0, 6, .inl seenAt)), (q_seenDecree, .inl (a 0, 6, .inl seenDecree)), (q_seenSpoke, .inl (a 0, 6, .inl seenSpoke)), (q_w, .inl (a 0, 578, .inl w))] H → va_D A [(q_t, .inr (11, [.ref q_w, .ref q_isKept, .int t_all, .int t_corners, .int t_hearers, .int t_newAll, .int t_newCorners, .int t_newHearers, .ref q_beer, .ref q_cold, .ref q_stands, .ref q_pinched, .ref q_says, .ref q_text, .int t_textSize, .int t_at, .int t_first, .int t_faultOf, .int t_fault, .int t_spoke, .int t_holds, .int t_undoMany, .ref q_seenDecree, .ref q_seenAt, .ref q_seenSpoke, .int t_seen, .ref q_inSets, .ref q_book, .int t_written])), (q_inSets, .inl (a 0, 9, .inl inSets)), (q_pinched, .inl (a 0, 18, .inl pinched)), (q_seenAt, .inl (a 0, 6, .inl seenAt)), (q_seenDecree, .inl (a 0, 6, .inl seenDecree)), (q_seenSpoke, .inl (a 0, 6, .inl seenSpoke)), (q_w, .inl (a 0, 578, .inl w))] → va_S A s.heap H locs → lv_has ls 6 [(0, .ref q_t), (1, .int x1), (2, .int x2), (3, .int x3), (4, .int x4)] → W p l e { frames := 4, cells := 0, slots := 0, locals := 95 } s m args below meth c H locs 0 0 Q (F0 m 7 ls []) := by
    intro n_7
    induction n_7 with
    | zero => intro inSets w x1 x2 x3 x4 H locs ls hf hP hD hS hl; rw [f_X11_behind_7] at hf; cases hf
    | succ n_7 ih_7 =>
      intro inSets w x1 x2 x3 x4 H locs ls hf hP hD hS hl
      rw [f_X11_behind_7] at hf
      refine lv_iload hx hb dX11_behind_7 (lv_at hl 4 rfl) ?_
      refine lv_bipush (v := (9 : Int32)) hx hb dX11_behind_9 (by decide) ?_
      refine lv_icmp_ge (tgt := 28) hx hb dX11_behind_11 (by decide) (fun c17 => ?_) (fun c17 => ?_)
      · replace hf := o_ifp hf c17
        refine lv_iconst (v := (0 : Int32)) hx hb dX11_behind_28 (by decide) ?_
        refine lv_istore (lv' := [(4, .int (0 : Int32)), (0, .ref q_t), (1, .int x1), (2, .int x2), (3, .int x3)]) hx hb dX11_behind_29 hl (by decide) rfl (fun ls hl => ?_)
        exact L_31 1000 inSets w x1 x2 x3 (0 : Int32) _ _ _ hf hP hD hS (lv_sub hl [1, 2, 3, 4, 0] rfl)
      replace hf := o_ifn hf c17
      refine lv_aload_n hx hb dX11_behind_14 rfl (lv_at hl 0 rfl) ?_
      refine g_get hX hiX11 hP 0 rfl rfl 26 (by decide) hk1 rfl rfl dX11_behind_15 ?_
      refine lv_iload hx hb dX11_behind_18 (lv_at hl 4 rfl) ?_
      refine lv_iconst (v := (0 : Int32)) hx hb dX11_behind_20 (by decide) ?_
      obtain ⟨hiw18, hf⟩ := o_sth hf
      refine g_iast hX hP hD hS 1 rfl hiw18 dX11_behind_21 (fun w18 ew18 H locs hP hD hS => ?_)
      replace hf := hf w18 ew18
      replace hP : va_P D vwCl [(q_t, .inr (11, [.ref q_w, .ref q_isKept, .int t_all, .int t_corners, .int t_hearers, .int t_newAll, .int t_newCorners, .int t_newHearers, .ref q_beer, .ref q_cold, .ref q_stands, .ref q_pinched, .ref q_says, .ref q_text, .int t_textSize, .int t_at, .int t_first, .int t_faultOf, .int t_fault, .int t_spoke, .int t_holds, .int t_undoMany, .ref q_seenDecree, .ref q_seenAt, .ref q_seenSpoke, .int t_seen, .ref q_inSets, .ref q_book, .int t_written])), (q_inSets, .inl (a 0, 9, .inl w18)), (q_pinched, .inl (a 0, 18, .inl pinched)), (q_seenAt, .inl (a 0, 6, .inl seenAt)), (q_seenDecree, .inl (a 0, 6, .inl seenDecree)), (q_seenSpoke, .inl (a 0, 6, .inl seenSpoke)), (q_w, .inl (a 0, 578, .inl w))] H := hP
      replace hD : va_D A [(q_t, .inr (11, [.ref q_w, .ref q_isKept, .int t_all, .int t_corners, .int t_hearers, .int t_newAll, .int t_newCorners, .int t_newHearers, .ref q_beer, .ref q_cold, .ref q_stands, .ref q_pinched, .ref q_says, .ref q_text, .int t_textSize, .int t_at, .int t_first, .int t_faultOf, .int t_fault, .int t_spoke, .int t_holds, .int t_undoMany, .ref q_seenDecree, .ref q_seenAt, .ref q_seenSpoke, .int t_seen, .ref q_inSets, .ref q_book, .int t_written])), (q_inSets, .inl (a 0, 9, .inl w18)), (q_pinched, .inl (a 0, 18, .inl pinched)), (q_seenAt, .inl (a 0, 6, .inl seenAt)), (q_seenDecree, .inl (a 0, 6, .inl seenDecree)), (q_seenSpoke, .inl (a 0, 6, .inl seenSpoke)), (q_w, .inl (a 0, 578, .inl w))] := hD
      obtain ⟨v19, ev19⟩ : ∃ y : Int32, y = x4 + (1 : Int32) := ⟨_, rfl⟩
      replace hf := o_nmh hf v19 ev19
      refine lv_iinc (v := v19) (lv' := [(4, .int v19), (0, .ref q_t), (1, .int x1), (2, .int x2), (3, .int x3)]) hx hb dX11_behind_22 hl (k := 4) rfl (by rw [ev19]; rfl) (by decide) rfl (fun ls hl => ?_)
      refine lv_goto (tgt := 7) hx hb dX11_behind_25 (by decide) ?_
      exact ih_7 w18 w x1 x2 x3 v19 _ _ _ hf hP hD hS (lv_sub hl [1, 2, 3, 4, 0] rfl)
  unfold f_X11_behind at hf
  refine lv_iconst (v := (0 : Int32)) hx hb dX11_behind_0 (by decide) ?_
  refine lv_istore_n (lv' := [(2, .int (0 : Int32)), (0, .ref q_t), (1, .int x1)]) hx hb dX11_behind_1 rfl hl (by decide) rfl (fun ls hl => ?_)
  refine lv_iconst (v := (-1 : Int32)) hx hb dX11_behind_2 (by decide) ?_
  refine lv_istore_n (lv' := [(3, .int (-1 : Int32)), (2, .int (0 : Int32)), (0, .ref q_t), (1, .int x1)]) hx hb dX11_behind_3 rfl hl (by decide) rfl (fun ls hl => ?_)
  refine lv_iconst (v := (0 : Int32)) hx hb dX11_behind_4 (by decide) ?_
  refine lv_istore (lv' := [(4, .int (0 : Int32)), (3, .int (-1 : Int32)), (2, .int (0 : Int32)), (0, .ref q_t), (1, .int x1)]) hx hb dX11_behind_5 hl (by decide) rfl (fun ls hl => ?_)
  exact L_7 1000 inSets w x1 (0 : Int32) (-1 : Int32) (0 : Int32) _ _ _ hf hP hD hS (lv_sub hl [3, 4, 2, 1, 0] rfl)
def f_X11_write (t_written : Int32) (book : Nat → Int32) (x1 : Int32) : Option (Int32 × Int32 × (Nat → Int32)) :=
  (f_X11_in (Int32.toInt64 x1) (0 : Int64) (255 : Int64)).bind fun o1 =>
  if o1 = 0 then (some ((-1000000002 : Int32), t_written, book))
  else (if t_written = (20 : Int32) then (some ((-1000000004 : Int32), t_written, book))
  else ((o_st book 20 t_written x1).bind fun w4 =>
  o_nm ((t_written + (1 : Int32))) fun v5 =>
  some (v5, v5, w4)))
theorem hdS_X11_write : yX11_write.cls ≠ "java/lang/invoke/MethodHandle" ∧ yX11_write.cls ≠ "java/lang/invoke/VarHandle" ∧ (parseMethodDescriptor yX11_write.desc).map (fun d => d.parameters.length) = some 1 := by decide +kernel
theorem hdV_X11_write : yX11_write.cls = RX11 ∧ yX11_write.cls ≠ "java/lang/invoke/MethodHandle" ∧ yX11_write.cls ≠ "java/lang/invoke/VarHandle" ∧ (parseMethodDescriptor yX11_write.desc).map (fun d => d.parameters.length) = some 1 := ⟨rfl, hdS_X11_write⟩
set_option maxHeartbeats 4000000 in
set_option maxRecDepth 100000 in
theorem c_X11_write (l : Launch) (D : va_G) (a : Nat → ClassId) (t : Nat) (q_t : Nat) (q_w : Nat) (q_isKept : Nat) (t_all : Int32) (t_corners : Int32) (t_hearers : Int32) (t_newAll : Int32) (t_newCorners : Int32) (t_newHearers : Int32) (q_beer : Nat) (q_cold : Nat) (q_stands : Nat) (q_pinched : Nat) (q_says : Nat) (q_text : Nat) (t_textSize : Int32) (t_at : Int32) (t_first : Int32) (t_faultOf : Int32) (t_fault : Int32) (t_spoke : Int32) (t_holds : Int32) (t_undoMany : Int32) (q_seenDecree : Nat) (q_seenAt : Nat) (q_seenSpoke : Nat) (t_seen : Int32) (q_inSets : Nat) (q_book : Nat) (t_written : Int32) (book : Nat → Int32) (x1 : Int32) (r : Int32) (o_t_written : Int32) (o_book : Nat → Int32) (hf : f_X11_write t_written book x1 = some (r, o_t_written, o_book)) : Ki l yX11_write wsX11_write 1 25 D a t [.ref q_t, .int x1] [(q_t, .inr (11, [.ref q_w, .ref q_isKept, .int t_all, .int t_corners, .int t_hearers, .int t_newAll, .int t_newCorners, .int t_newHearers, .ref q_beer, .ref q_cold, .ref q_stands, .ref q_pinched, .ref q_says, .ref q_text, .int t_textSize, .int t_at, .int t_first, .int t_faultOf, .int t_fault, .int t_spoke, .int t_holds, .int t_undoMany, .ref q_seenDecree, .ref q_seenAt, .ref q_seenSpoke, .int t_seen, .ref q_inSets, .ref q_book, .int t_written])), (q_book, .inl (a 0, 20, .inl book))] [(q_t, .inr (11, [.ref q_w, .ref q_isKept, .int t_all, .int t_corners, .int t_hearers, .int t_newAll, .int t_newCorners, .int t_newHearers, .ref q_beer, .ref q_cold, .ref q_stands, .ref q_pinched, .ref q_says, .ref q_text, .int t_textSize, .int t_at, .int t_first, .int t_faultOf, .int t_fault, .int t_spoke, .int t_holds, .int t_undoMany, .ref q_seenDecree, .ref q_seenAt, .ref q_seenSpoke, .int t_seen, .ref q_inSets, .ref q_book, .int o_t_written])), (q_book, .inl (a 0, 20, .inl o_book))] r := by
  refine Ki.mk (cc := cX11_write) (nL := 2) (ty := .int) (own := RX11) (by decide) rfl rfl (Nat.le_of_ble_eq_true rfl) ?_
  intro p e s m args below meth c A Q ls hX hP hD hS hl hret
  have hx := hX.1.1
  have hb := hX.1.2.1
  have hown := hX.1.2.2.2.1
  have hts := hX.1.2.2.2.2
  have hN := hX.2.2.1
  have hA := hX.2.2.2.2
  have hl : lv_has ls 2 [(0, .ref q_t), (1, .int x1)] := hl
  have hk1 := hts (.constantLong RX11 58 (255)) (List.mem_of_getElem? (i := 1) rfl)
  have hk2 := hts (.constant RX11 64 (-1000000002)) (List.mem_of_getElem? (i := 2) rfl)
  have hk3 := hts (.fieldLink RX11 139 "GainsaidOnceModel" "written" "I") (List.mem_of_getElem? (i := 3) rfl)
  have hk4 := hts (.constant RX11 68 (-1000000004)) (List.mem_of_getElem? (i := 4) rfl)
  have hk5 := hts (.fieldLink RX11 51 "GainsaidOnceModel" "book" "[I") (List.mem_of_getElem? (i := 5) rfl)
  have hiX11 : ∀ w ∈ wsX110, w ∈ wsX11_write := (fun _ h => List.mem_cons_of_mem _ (List.mem_append_right _ h))
  unfold f_X11_write at hf
  refine lv_iload_n hx hb dX11_write_0 rfl (lv_at hl 1 rfl) ?_
  refine lv_i2l (v := Int32.toInt64 x1) hx hb dX11_write_1 rfl ?_
  refine lv_lconst (v := (0 : Int64)) hx hb dX11_write_2 (by decide) ?_
  refine lv_ldc2 (v := (255 : Int64)) hx hb hown hk1 dX11_write_3 ?_
  obtain ⟨o1, ho1, hf⟩ := o_bd hf
  refine call_iS hX (c_X11_in l D a t (Int32.toInt64 x1) (0 : Int64) (255 : Int64) o1 ho1) (va_cwS 3 hts gX11_write_X11_in rfl rfl rfl hdS_X11_in ⟨by decide, by decide⟩) (Cut.none hA hP hD hS) hS rfl hl.1 rfl (Nat.le_of_ble_eq_true rfl) dX11_write_6 (by decide) (fun H locs hP hD hS => ?_)
  refine lv_if_ne (tgt := 15) hx hb dX11_write_9 (by decide) (fun c2 => ?_) (fun c2 => ?_)
  · replace hf := o_ifn hf c2
    refine lv_aload_n hx hb dX11_write_15 rfl (lv_at hl 0 rfl) ?_
    refine g_get hX hiX11 hP 0 rfl rfl 28 (by decide) hk3 rfl rfl dX11_write_16 ?_
    refine lv_bipush (v := (20 : Int32)) hx hb dX11_write_19 (by decide) ?_
    refine lv_icmp_ne (tgt := 27) hx hb dX11_write_21 (by decide) (fun c3 => ?_) (fun c3 => ?_)
    · replace hf := o_ifn hf c3
      refine lv_aload_n hx hb dX11_write_27 rfl (lv_at hl 0 rfl) ?_
      refine g_get hX hiX11 hP 0 rfl rfl 27 (by decide) hk5 rfl rfl dX11_write_28 ?_
      refine lv_aload_n hx hb dX11_write_31 rfl (lv_at hl 0 rfl) ?_
      refine g_get hX hiX11 hP 0 rfl rfl 28 (by decide) hk3 rfl rfl dX11_write_32 ?_
      refine lv_iload_n hx hb dX11_write_35 rfl (lv_at hl 1 rfl) ?_
      obtain ⟨hiw4, hf⟩ := o_sth hf
      refine g_iast hX hP hD hS 1 rfl hiw4 dX11_write_36 (fun w4 ew4 H locs hP hD hS => ?_)
      replace hf := hf w4 ew4
      replace hP : va_P D vwCl [(q_t, .inr (11, [.ref q_w, .ref q_isKept, .int t_all, .int t_corners, .int t_hearers, .int t_newAll, .int t_newCorners, .int t_newHearers, .ref q_beer, .ref q_cold, .ref q_stands, .ref q_pinched, .ref q_says, .ref q_text, .int t_textSize, .int t_at, .int t_first, .int t_faultOf, .int t_fault, .int t_spoke, .int t_holds, .int t_undoMany, .ref q_seenDecree, .ref q_seenAt, .ref q_seenSpoke, .int t_seen, .ref q_inSets, .ref q_book, .int t_written])), (q_book, .inl (a 0, 20, .inl w4))] H := hP
      replace hD : va_D A [(q_t, .inr (11, [.ref q_w, .ref q_isKept, .int t_all, .int t_corners, .int t_hearers, .int t_newAll, .int t_newCorners, .int t_newHearers, .ref q_beer, .ref q_cold, .ref q_stands, .ref q_pinched, .ref q_says, .ref q_text, .int t_textSize, .int t_at, .int t_first, .int t_faultOf, .int t_fault, .int t_spoke, .int t_holds, .int t_undoMany, .ref q_seenDecree, .ref q_seenAt, .ref q_seenSpoke, .int t_seen, .ref q_inSets, .ref q_book, .int t_written])), (q_book, .inl (a 0, 20, .inl w4))] := hD
      refine lv_aload_n hx hb dX11_write_37 rfl (lv_at hl 0 rfl) ?_
      refine lv_dup hx hb dX11_write_38 rfl ?_
      refine g_get hX hiX11 hP 0 rfl rfl 28 (by decide) hk3 rfl rfl dX11_write_39 ?_
      refine lv_iconst (v := (1 : Int32)) hx hb dX11_write_42 (by decide) ?_
      refine lv_iadd hx hb dX11_write_43 ?_
      refine lv_topi (fun v5 ev5 => ?_)
      replace hf := o_nmh hf v5 ev5
      refine g_put hX hiX11 tyX11 tyX11_ok nmX11 hP hD hS 0 rfl rfl 28 (by decide) hk3 rfl rfl rfl rfl (Nat.le_of_ble_eq_true rfl) dX11_write_44 (fun H locs hP hD hS => ?_)
      replace hP : va_P D vwCl [(q_t, .inr (11, [.ref q_w, .ref q_isKept, .int t_all, .int t_corners, .int t_hearers, .int t_newAll, .int t_newCorners, .int t_newHearers, .ref q_beer, .ref q_cold, .ref q_stands, .ref q_pinched, .ref q_says, .ref q_text, .int t_textSize, .int t_at, .int t_first, .int t_faultOf, .int t_fault, .int t_spoke, .int t_holds, .int t_undoMany, .ref q_seenDecree, .ref q_seenAt, .ref q_seenSpoke, .int t_seen, .ref q_inSets, .ref q_book, .int v5])), (q_book, .inl (a 0, 20, .inl w4))] H := hP
      replace hD : va_D A [(q_t, .inr (11, [.ref q_w, .ref q_isKept, .int t_all, .int t_corners, .int t_hearers, .int t_newAll, .int t_newCorners, .int t_newHearers, .ref q_beer, .ref q_cold, .ref q_stands, .ref q_pinched, .ref q_says, .ref q_text, .int t_textSize, .int t_at, .int t_first, .int t_faultOf, .int t_fault, .int t_spoke, .int t_holds, .int t_undoMany, .ref q_seenDecree, .ref q_seenAt, .ref q_seenSpoke, .int t_seen, .ref q_inSets, .ref q_book, .int v5])), (q_book, .inl (a 0, 20, .inl w4))] := hD
      refine lv_aload_n hx hb dX11_write_47 rfl (lv_at hl 0 rfl) ?_
      refine g_get hX hiX11 hP 0 rfl rfl 28 (by decide) hk3 rfl rfl dX11_write_48 ?_
      cases hf
      exact hret _ _ _ _ (vp_nar_int _) hP hD hS dX11_write_51
    replace hf := o_ifp hf c3
    refine lv_ldc (v := (-1000000004 : Int32)) hx hb hown hk4 dX11_write_24 ?_
    cases hf
    exact hret _ _ _ _ (vp_nar_int _) hP hD hS dX11_write_26
  replace hf := o_ifp hf c2
  refine lv_ldc (v := (-1000000002 : Int32)) hx hb hown hk2 dX11_write_12 ?_
  cases hf
  exact hret _ _ _ _ (vp_nar_int _) hP hD hS dX11_write_14
def f_X11_judge_2 (t_written : Int32) (book : Nat → Int32) (w : Nat → Int32) : Nat → Int32 → Option (Int32)
  | 0, _ => none
  | n_2 + 1, x1 =>
    if t_written ≤ x1 then (some (-1 : Int32))
    else ((o_ld book 20 x1).bind fun v2 =>
    (o_ld w 578 (14 : Int32)).bind fun v3 =>
    if v2 = v3 then (o_nm (x1 + (1 : Int32)) fun v5 =>
    f_X11_judge_2 t_written book w n_2 v5)
    else (some x1))
def f_X11_judge (t_written : Int32) (book : Nat → Int32) (w : Nat → Int32) : Option (Int32) :=
  f_X11_judge_2 t_written book w 1000 (0 : Int32)
theorem hdS_X11_judge : yX11_judge.cls ≠ "java/lang/invoke/MethodHandle" ∧ yX11_judge.cls ≠ "java/lang/invoke/VarHandle" ∧ (parseMethodDescriptor yX11_judge.desc).map (fun d => d.parameters.length) = some 0 := by decide +kernel
theorem hdV_X11_judge : yX11_judge.cls = RX11 ∧ yX11_judge.cls ≠ "java/lang/invoke/MethodHandle" ∧ yX11_judge.cls ≠ "java/lang/invoke/VarHandle" ∧ (parseMethodDescriptor yX11_judge.desc).map (fun d => d.parameters.length) = some 0 := ⟨rfl, hdS_X11_judge⟩
set_option maxHeartbeats 4000000 in
set_option maxRecDepth 100000 in
theorem c_X11_judge (l : Launch) (D : va_G) (a : Nat → ClassId) (t : Nat) (q_t : Nat) (q_w : Nat) (q_isKept : Nat) (t_all : Int32) (t_corners : Int32) (t_hearers : Int32) (t_newAll : Int32) (t_newCorners : Int32) (t_newHearers : Int32) (q_beer : Nat) (q_cold : Nat) (q_stands : Nat) (q_pinched : Nat) (q_says : Nat) (q_text : Nat) (t_textSize : Int32) (t_at : Int32) (t_first : Int32) (t_faultOf : Int32) (t_fault : Int32) (t_spoke : Int32) (t_holds : Int32) (t_undoMany : Int32) (q_seenDecree : Nat) (q_seenAt : Nat) (q_seenSpoke : Nat) (t_seen : Int32) (q_inSets : Nat) (q_book : Nat) (t_written : Int32) (book : Nat → Int32) (w : Nat → Int32) (r : Int32) (hf : f_X11_judge t_written book w = some r) : Ki l yX11_judge wsX11_judge 0 0 D a t [.ref q_t] [(q_t, .inr (11, [.ref q_w, .ref q_isKept, .int t_all, .int t_corners, .int t_hearers, .int t_newAll, .int t_newCorners, .int t_newHearers, .ref q_beer, .ref q_cold, .ref q_stands, .ref q_pinched, .ref q_says, .ref q_text, .int t_textSize, .int t_at, .int t_first, .int t_faultOf, .int t_fault, .int t_spoke, .int t_holds, .int t_undoMany, .ref q_seenDecree, .ref q_seenAt, .ref q_seenSpoke, .int t_seen, .ref q_inSets, .ref q_book, .int t_written])), (q_book, .inl (a 0, 20, .inl book)), (q_w, .inl (a 0, 578, .inl w))] [(q_t, .inr (11, [.ref q_w, .ref q_isKept, .int t_all, .int t_corners, .int t_hearers, .int t_newAll, .int t_newCorners, .int t_newHearers, .ref q_beer, .ref q_cold, .ref q_stands, .ref q_pinched, .ref q_says, .ref q_text, .int t_textSize, .int t_at, .int t_first, .int t_faultOf, .int t_fault, .int t_spoke, .int t_holds, .int t_undoMany, .ref q_seenDecree, .ref q_seenAt, .ref q_seenSpoke, .int t_seen, .ref q_inSets, .ref q_book, .int t_written])), (q_book, .inl (a 0, 20, .inl book)), (q_w, .inl (a 0, 578, .inl w))] r := by
  refine Ki.mk (cc := cX11_judge) (nL := 2) (ty := .int) (own := RX11) (by decide) rfl rfl (Nat.le_of_ble_eq_true rfl) ?_
  intro p e s m args below meth c A Q ls hX hP hD hS hl hret
  have hx := hX.1.1
  have hb := hX.1.2.1
  have hown := hX.1.2.2.2.1
  have hts := hX.1.2.2.2.2
  have hN := hX.2.2.1
  have hA := hX.2.2.2.2
  have hl : lv_has ls 2 [(0, .ref q_t)] := hl
  have hk1 := hts (.fieldLink RX11 139 "GainsaidOnceModel" "written" "I") (List.mem_of_getElem? (i := 1) rfl)
  have hk2 := hts (.fieldLink RX11 51 "GainsaidOnceModel" "book" "[I") (List.mem_of_getElem? (i := 2) rfl)
  have hk3 := hts (.fieldLink RX11 7 "GainsaidOnceModel" "w" "[I") (List.mem_of_getElem? (i := 3) rfl)
  have hiX11 : ∀ w ∈ wsX110, w ∈ wsX11_judge := (fun _ h => List.mem_cons_of_mem _ (List.mem_append_right _ h))
  have L_2 : ∀ (n_2 : Nat) (x1 : Int32) (H : Heap) (locs : List Loc) (ls : Array Slot), f_X11_judge_2 t_written book w n_2 x1 = some r → va_P D vwCl [(q_t, .inr (11, [.ref q_w, .ref q_isKept, .int t_all, .int t_corners, .int t_hearers, .int t_newAll, .int t_newCorners, .int t_newHearers, .ref q_beer, .ref q_cold, .ref q_stands, .ref q_pinched, .ref q_says, .ref q_text, .int t_textSize, .int t_at, .int t_first, .int t_faultOf, .int t_fault, .int t_spoke, .int t_holds, .int t_undoMany, .ref q_seenDecree, .ref q_seenAt, .ref q_seenSpoke, .int t_seen, .ref q_inSets, .ref q_book, .int t_written])), (q_book, .inl (a 0, 20, .inl book)), (q_w, .inl (a 0, 578, .inl w))] H → va_D A [(q_t, .inr (11, [.ref q_w, .ref q_isKept, .int t_all, .int t_corners, .int t_hearers, .int t_newAll, .int t_newCorners, .int t_newHearers, .ref q_beer, .ref q_cold, .ref q_stands, .ref q_pinched, .ref q_says, .ref q_text, .int t_textSize, .int t_at, .int t_first, .int t_faultOf, .int t_fault, .int t_spoke, .int t_holds, .int t_undoMany, .ref q_seenDecree, .ref q_seenAt, .ref q_seenSpoke, .int t_seen, .ref q_inSets, .ref q_book, .int t_written])), (q_book, .inl (a 0, 20, .inl book)), (q_w, .inl (a 0, 578, .inl w))] → va_S A s.heap H locs → lv_has ls 2 [(0, .ref q_t), (1, .int x1)] → W p l e { frames := 0, cells := 0, slots := 0, locals := 0 } s m args below meth c H locs 0 0 Q (F0 m 2 ls []) := by
    intro n_2
    induction n_2 with
    | zero => intro x1 H locs ls hf hP hD hS hl; rw [f_X11_judge_2] at hf; cases hf
    | succ n_2 ih_2 =>
      intro x1 H locs ls hf hP hD hS hl
      rw [f_X11_judge_2] at hf
      refine lv_iload_n hx hb dX11_judge_2 rfl (lv_at hl 1 rfl) ?_
      refine lv_aload_n hx hb dX11_judge_3 rfl (lv_at hl 0 rfl) ?_
      refine g_get hX hiX11 hP 0 rfl rfl 28 (by decide) hk1 rfl rfl dX11_judge_4 ?_
      refine lv_icmp_ge (tgt := 34) hx hb dX11_judge_7 (by decide) (fun c1 => ?_) (fun c1 => ?_)
      · replace hf := o_ifp hf c1
        refine lv_iconst (v := (-1 : Int32)) hx hb dX11_judge_34 (by decide) ?_
        cases hf
        exact hret _ _ _ _ (vp_nar_int _) hP hD hS dX11_judge_35
      replace hf := o_ifn hf c1
      refine lv_aload_n hx hb dX11_judge_10 rfl (lv_at hl 0 rfl) ?_
      refine g_get hX hiX11 hP 0 rfl rfl 27 (by decide) hk2 rfl rfl dX11_judge_11 ?_
      refine lv_iload_n hx hb dX11_judge_14 rfl (lv_at hl 1 rfl) ?_
      obtain ⟨hiv2, hf⟩ := o_ldh hf
      refine g_iald hX hP 1 rfl hiv2 dX11_judge_15 (fun v2 ev2 => ?_)
      replace hf := hf v2 ev2
      refine lv_aload_n hx hb dX11_judge_16 rfl (lv_at hl 0 rfl) ?_
      refine g_get hX hiX11 hP 0 rfl rfl 0 (by decide) hk3 rfl rfl dX11_judge_17 ?_
      refine lv_bipush (v := (14 : Int32)) hx hb dX11_judge_20 (by decide) ?_
      obtain ⟨hiv3, hf⟩ := o_ldh hf
      refine g_iald hX hP 2 rfl hiv3 dX11_judge_22 (fun v3 ev3 => ?_)
      replace hf := hf v3 ev3
      refine lv_icmp_eq (tgt := 28) hx hb dX11_judge_23 (by decide) (fun c4 => ?_) (fun c4 => ?_)
      · replace hf := o_ifp hf c4
        obtain ⟨v5, ev5⟩ : ∃ y : Int32, y = x1 + (1 : Int32) := ⟨_, rfl⟩
        replace hf := o_nmh hf v5 ev5
        refine lv_iinc (v := v5) (lv' := [(1, .int v5), (0, .ref q_t)]) hx hb dX11_judge_28 hl (k := 1) rfl (by rw [ev5]; rfl) (by decide) rfl (fun ls hl => ?_)
        refine lv_goto (tgt := 2) hx hb dX11_judge_31 (by decide) ?_
        exact ih_2 v5 _ _ _ hf hP hD hS (lv_sub hl [1, 0] rfl)
      replace hf := o_ifn hf c4
      refine lv_iload_n hx hb dX11_judge_26 rfl (lv_at hl 1 rfl) ?_
      cases hf
      exact hret _ _ _ _ (vp_nar_int _) hP hD hS dX11_judge_27
  unfold f_X11_judge at hf
  refine lv_iconst (v := (0 : Int32)) hx hb dX11_judge_0 (by decide) ?_
  refine lv_istore_n (lv' := [(1, .int (0 : Int32)), (0, .ref q_t)]) hx hb dX11_judge_1 rfl hl (by decide) rfl (fun ls hl => ?_)
  exact L_2 1000 (0 : Int32) _ _ _ hf hP hD hS (lv_sub hl [1, 0] rfl)
def f_X11_tear (t_seen : Int32) (t_written : Int32) : Option (Int32 × Int32 × Int32) :=
  o_nm ((t_seen + t_written)) fun v1 =>
  some (v1, (0 : Int32), (0 : Int32))
theorem hdS_X11_tear : yX11_tear.cls ≠ "java/lang/invoke/MethodHandle" ∧ yX11_tear.cls ≠ "java/lang/invoke/VarHandle" ∧ (parseMethodDescriptor yX11_tear.desc).map (fun d => d.parameters.length) = some 0 := by decide +kernel
theorem hdV_X11_tear : yX11_tear.cls = RX11 ∧ yX11_tear.cls ≠ "java/lang/invoke/MethodHandle" ∧ yX11_tear.cls ≠ "java/lang/invoke/VarHandle" ∧ (parseMethodDescriptor yX11_tear.desc).map (fun d => d.parameters.length) = some 0 := ⟨rfl, hdS_X11_tear⟩
set_option maxHeartbeats 4000000 in
set_option maxRecDepth 100000 in
theorem c_X11_tear (l : Launch) (D : va_G) (a : Nat → ClassId) (t : Nat) (q_t : Nat) (q_w : Nat) (q_isKept : Nat) (t_all : Int32) (t_corners : Int32) (t_hearers : Int32) (t_newAll : Int32) (t_newCorners : Int32) (t_newHearers : Int32) (q_beer : Nat) (q_cold : Nat) (q_stands : Nat) (q_pinched : Nat) (q_says : Nat) (q_text : Nat) (t_textSize : Int32) (t_at : Int32) (t_first : Int32) (t_faultOf : Int32) (t_fault : Int32) (t_spoke : Int32) (t_holds : Int32) (t_undoMany : Int32) (q_seenDecree : Nat) (q_seenAt : Nat) (q_seenSpoke : Nat) (t_seen : Int32) (q_inSets : Nat) (q_book : Nat) (t_written : Int32) (r : Int32) (o_t_seen : Int32) (o_t_written : Int32) (hf : f_X11_tear t_seen t_written = some (r, o_t_seen, o_t_written)) : Ki l yX11_tear wsX11_tear 0 0 D a t [.ref q_t] [(q_t, .inr (11, [.ref q_w, .ref q_isKept, .int t_all, .int t_corners, .int t_hearers, .int t_newAll, .int t_newCorners, .int t_newHearers, .ref q_beer, .ref q_cold, .ref q_stands, .ref q_pinched, .ref q_says, .ref q_text, .int t_textSize, .int t_at, .int t_first, .int t_faultOf, .int t_fault, .int t_spoke, .int t_holds, .int t_undoMany, .ref q_seenDecree, .ref q_seenAt, .ref q_seenSpoke, .int t_seen, .ref q_inSets, .ref q_book, .int t_written]))] [(q_t, .inr (11, [.ref q_w, .ref q_isKept, .int t_all, .int t_corners, .int t_hearers, .int t_newAll, .int t_newCorners, .int t_newHearers, .ref q_beer, .ref q_cold, .ref q_stands, .ref q_pinched, .ref q_says, .ref q_text, .int t_textSize, .int t_at, .int t_first, .int t_faultOf, .int t_fault, .int t_spoke, .int t_holds, .int t_undoMany, .ref q_seenDecree, .ref q_seenAt, .ref q_seenSpoke, .int o_t_seen, .ref q_inSets, .ref q_book, .int o_t_written]))] r := by
  refine Ki.mk (cc := cX11_tear) (nL := 2) (ty := .int) (own := RX11) (by decide) rfl rfl (Nat.le_of_ble_eq_true rfl) ?_
  intro p e s m args below meth c A Q ls hX hP hD hS hl hret
  have hx := hX.1.1
  have hb := hX.1.2.1
  have hown := hX.1.2.2.2.1
  have hts := hX.1.2.2.2.2
  have hN := hX.2.2.1
  have hA := hX.2.2.2.2
  have hl : lv_has ls 2 [(0, .ref q_t)] := hl
  have hk1 := hts (.fieldLink RX11 136 "GainsaidOnceModel" "seen" "I") (List.mem_of_getElem? (i := 1) rfl)
  have hk2 := hts (.fieldLink RX11 139 "GainsaidOnceModel" "written" "I") (List.mem_of_getElem? (i := 2) rfl)
  have hiX11 : ∀ w ∈ wsX110, w ∈ wsX11_tear := (fun _ h => List.mem_cons_of_mem _ (List.mem_append_right _ h))
  unfold f_X11_tear at hf
  refine lv_aload_n hx hb dX11_tear_0 rfl (lv_at hl 0 rfl) ?_
  refine g_get hX hiX11 hP 0 rfl rfl 25 (by decide) hk1 rfl rfl dX11_tear_1 ?_
  refine lv_aload_n hx hb dX11_tear_4 rfl (lv_at hl 0 rfl) ?_
  refine g_get hX hiX11 hP 0 rfl rfl 28 (by decide) hk2 rfl rfl dX11_tear_5 ?_
  refine lv_iadd hx hb dX11_tear_8 ?_
  refine lv_topi (fun v1 ev1 => ?_)
  replace hf := o_nmh hf v1 ev1
  refine lv_istore_n (lv' := [(1, .int v1), (0, .ref q_t)]) hx hb dX11_tear_9 rfl hl (by decide) rfl (fun ls hl => ?_)
  refine lv_aload_n hx hb dX11_tear_10 rfl (lv_at hl 1 rfl) ?_
  refine lv_iconst (v := (0 : Int32)) hx hb dX11_tear_11 (by decide) ?_
  refine g_put hX hiX11 tyX11 tyX11_ok nmX11 hP hD hS 0 rfl rfl 25 (by decide) hk1 rfl rfl rfl rfl (Nat.le_of_ble_eq_true rfl) dX11_tear_12 (fun H locs hP hD hS => ?_)
  replace hP : va_P D vwCl [(q_t, .inr (11, [.ref q_w, .ref q_isKept, .int t_all, .int t_corners, .int t_hearers, .int t_newAll, .int t_newCorners, .int t_newHearers, .ref q_beer, .ref q_cold, .ref q_stands, .ref q_pinched, .ref q_says, .ref q_text, .int t_textSize, .int t_at, .int t_first, .int t_faultOf, .int t_fault, .int t_spoke, .int t_holds, .int t_undoMany, .ref q_seenDecree, .ref q_seenAt, .ref q_seenSpoke, .int (0 : Int32), .ref q_inSets, .ref q_book, .int t_written]))] H := hP
  replace hD : va_D A [(q_t, .inr (11, [.ref q_w, .ref q_isKept, .int t_all, .int t_corners, .int t_hearers, .int t_newAll, .int t_newCorners, .int t_newHearers, .ref q_beer, .ref q_cold, .ref q_stands, .ref q_pinched, .ref q_says, .ref q_text, .int t_textSize, .int t_at, .int t_first, .int t_faultOf, .int t_fault, .int t_spoke, .int t_holds, .int t_undoMany, .ref q_seenDecree, .ref q_seenAt, .ref q_seenSpoke, .int (0 : Int32), .ref q_inSets, .ref q_book, .int t_written]))] := hD
  refine lv_aload_n hx hb dX11_tear_15 rfl (lv_at hl 1 rfl) ?_
  refine lv_iconst (v := (0 : Int32)) hx hb dX11_tear_16 (by decide) ?_
  refine g_put hX hiX11 tyX11 tyX11_ok nmX11 hP hD hS 0 rfl rfl 28 (by decide) hk2 rfl rfl rfl rfl (Nat.le_of_ble_eq_true rfl) dX11_tear_17 (fun H locs hP hD hS => ?_)
  replace hP : va_P D vwCl [(q_t, .inr (11, [.ref q_w, .ref q_isKept, .int t_all, .int t_corners, .int t_hearers, .int t_newAll, .int t_newCorners, .int t_newHearers, .ref q_beer, .ref q_cold, .ref q_stands, .ref q_pinched, .ref q_says, .ref q_text, .int t_textSize, .int t_at, .int t_first, .int t_faultOf, .int t_fault, .int t_spoke, .int t_holds, .int t_undoMany, .ref q_seenDecree, .ref q_seenAt, .ref q_seenSpoke, .int (0 : Int32), .ref q_inSets, .ref q_book, .int (0 : Int32)]))] H := hP
  replace hD : va_D A [(q_t, .inr (11, [.ref q_w, .ref q_isKept, .int t_all, .int t_corners, .int t_hearers, .int t_newAll, .int t_newCorners, .int t_newHearers, .ref q_beer, .ref q_cold, .ref q_stands, .ref q_pinched, .ref q_says, .ref q_text, .int t_textSize, .int t_at, .int t_first, .int t_faultOf, .int t_fault, .int t_spoke, .int t_holds, .int t_undoMany, .ref q_seenDecree, .ref q_seenAt, .ref q_seenSpoke, .int (0 : Int32), .ref q_inSets, .ref q_book, .int (0 : Int32)]))] := hD
  refine lv_iload_n hx hb dX11_tear_20 rfl (lv_at hl 0 rfl) ?_
  cases hf
  exact hret _ _ _ _ (vp_nar_int _) hP hD hS dX11_tear_21
def f_X11_seed (w : Nat → Int32) (x1 : Int32) : Option (Int32 × (Nat → Int32)) :=
  if 0 ≤ x1 then ((o_ld w 578 (16 : Int32)).bind fun v2 =>
  (o_st w 578 (16 : Int32) x1).bind fun w3 =>
  some (v2, w3))
  else (some ((-1000000002 : Int32), w))
theorem hdS_X11_seed : yX11_seed.cls ≠ "java/lang/invoke/MethodHandle" ∧ yX11_seed.cls ≠ "java/lang/invoke/VarHandle" ∧ (parseMethodDescriptor yX11_seed.desc).map (fun d => d.parameters.length) = some 1 := by decide +kernel
theorem hdV_X11_seed : yX11_seed.cls = RX11 ∧ yX11_seed.cls ≠ "java/lang/invoke/MethodHandle" ∧ yX11_seed.cls ≠ "java/lang/invoke/VarHandle" ∧ (parseMethodDescriptor yX11_seed.desc).map (fun d => d.parameters.length) = some 1 := ⟨rfl, hdS_X11_seed⟩
set_option maxHeartbeats 4000000 in
set_option maxRecDepth 100000 in
theorem c_X11_seed (l : Launch) (D : va_G) (a : Nat → ClassId) (t : Nat) (q_t : Nat) (q_w : Nat) (q_isKept : Nat) (t_all : Int32) (t_corners : Int32) (t_hearers : Int32) (t_newAll : Int32) (t_newCorners : Int32) (t_newHearers : Int32) (q_beer : Nat) (q_cold : Nat) (q_stands : Nat) (q_pinched : Nat) (q_says : Nat) (q_text : Nat) (t_textSize : Int32) (t_at : Int32) (t_first : Int32) (t_faultOf : Int32) (t_fault : Int32) (t_spoke : Int32) (t_holds : Int32) (t_undoMany : Int32) (q_seenDecree : Nat) (q_seenAt : Nat) (q_seenSpoke : Nat) (t_seen : Int32) (q_inSets : Nat) (q_book : Nat) (t_written : Int32) (w : Nat → Int32) (x1 : Int32) (r : Int32) (o_w : Nat → Int32) (hf : f_X11_seed w x1 = some (r, o_w)) : Ki l yX11_seed wsX11_seed 0 0 D a t [.ref q_t, .int x1] [(q_t, .inr (11, [.ref q_w, .ref q_isKept, .int t_all, .int t_corners, .int t_hearers, .int t_newAll, .int t_newCorners, .int t_newHearers, .ref q_beer, .ref q_cold, .ref q_stands, .ref q_pinched, .ref q_says, .ref q_text, .int t_textSize, .int t_at, .int t_first, .int t_faultOf, .int t_fault, .int t_spoke, .int t_holds, .int t_undoMany, .ref q_seenDecree, .ref q_seenAt, .ref q_seenSpoke, .int t_seen, .ref q_inSets, .ref q_book, .int t_written])), (q_w, .inl (a 0, 578, .inl w))] [(q_t, .inr (11, [.ref q_w, .ref q_isKept, .int t_all, .int t_corners, .int t_hearers, .int t_newAll, .int t_newCorners, .int t_newHearers, .ref q_beer, .ref q_cold, .ref q_stands, .ref q_pinched, .ref q_says, .ref q_text, .int t_textSize, .int t_at, .int t_first, .int t_faultOf, .int t_fault, .int t_spoke, .int t_holds, .int t_undoMany, .ref q_seenDecree, .ref q_seenAt, .ref q_seenSpoke, .int t_seen, .ref q_inSets, .ref q_book, .int t_written])), (q_w, .inl (a 0, 578, .inl o_w))] r := by
  refine Ki.mk (cc := cX11_seed) (nL := 3) (ty := .int) (own := RX11) (by decide) rfl rfl (Nat.le_of_ble_eq_true rfl) ?_
  intro p e s m args below meth c A Q ls hX hP hD hS hl hret
  have hx := hX.1.1
  have hb := hX.1.2.1
  have hown := hX.1.2.2.2.1
  have hts := hX.1.2.2.2.2
  have hN := hX.2.2.1
  have hA := hX.2.2.2.2
  have hl : lv_has ls 3 [(0, .ref q_t), (1, .int x1)] := hl
  have hk1 := hts (.constant RX11 64 (-1000000002)) (List.mem_of_getElem? (i := 1) rfl)
  have hk2 := hts (.fieldLink RX11 7 "GainsaidOnceModel" "w" "[I") (List.mem_of_getElem? (i := 2) rfl)
  have hiX11 : ∀ w ∈ wsX110, w ∈ wsX11_seed := (fun _ h => List.mem_cons_of_mem _ (List.mem_append_right _ h))
  unfold f_X11_seed at hf
  refine lv_iload_n hx hb dX11_seed_0 rfl (lv_at hl 1 rfl) ?_
  refine lv_if_ge (tgt := 7) hx hb dX11_seed_1 (by decide) (fun c1 => ?_) (fun c1 => ?_)
  · replace hf := o_ifp hf c1
    refine lv_aload_n hx hb dX11_seed_7 rfl (lv_at hl 0 rfl) ?_
    refine g_get hX hiX11 hP 0 rfl rfl 0 (by decide) hk2 rfl rfl dX11_seed_8 ?_
    refine lv_bipush (v := (16 : Int32)) hx hb dX11_seed_11 (by decide) ?_
    obtain ⟨hiv2, hf⟩ := o_ldh hf
    refine g_iald hX hP 1 rfl hiv2 dX11_seed_13 (fun v2 ev2 => ?_)
    replace hf := hf v2 ev2
    refine lv_istore_n (lv' := [(2, .int v2), (0, .ref q_t), (1, .int x1)]) hx hb dX11_seed_14 rfl hl (by decide) rfl (fun ls hl => ?_)
    refine lv_aload_n hx hb dX11_seed_15 rfl (lv_at hl 1 rfl) ?_
    refine g_get hX hiX11 hP 0 rfl rfl 0 (by decide) hk2 rfl rfl dX11_seed_16 ?_
    refine lv_bipush (v := (16 : Int32)) hx hb dX11_seed_19 (by decide) ?_
    refine lv_iload_n hx hb dX11_seed_21 rfl (lv_at hl 2 rfl) ?_
    obtain ⟨hiw3, hf⟩ := o_sth hf
    refine g_iast hX hP hD hS 1 rfl hiw3 dX11_seed_22 (fun w3 ew3 H locs hP hD hS => ?_)
    replace hf := hf w3 ew3
    replace hP : va_P D vwCl [(q_t, .inr (11, [.ref q_w, .ref q_isKept, .int t_all, .int t_corners, .int t_hearers, .int t_newAll, .int t_newCorners, .int t_newHearers, .ref q_beer, .ref q_cold, .ref q_stands, .ref q_pinched, .ref q_says, .ref q_text, .int t_textSize, .int t_at, .int t_first, .int t_faultOf, .int t_fault, .int t_spoke, .int t_holds, .int t_undoMany, .ref q_seenDecree, .ref q_seenAt, .ref q_seenSpoke, .int t_seen, .ref q_inSets, .ref q_book, .int t_written])), (q_w, .inl (a 0, 578, .inl w3))] H := hP
    replace hD : va_D A [(q_t, .inr (11, [.ref q_w, .ref q_isKept, .int t_all, .int t_corners, .int t_hearers, .int t_newAll, .int t_newCorners, .int t_newHearers, .ref q_beer, .ref q_cold, .ref q_stands, .ref q_pinched, .ref q_says, .ref q_text, .int t_textSize, .int t_at, .int t_first, .int t_faultOf, .int t_fault, .int t_spoke, .int t_holds, .int t_undoMany, .ref q_seenDecree, .ref q_seenAt, .ref q_seenSpoke, .int t_seen, .ref q_inSets, .ref q_book, .int t_written])), (q_w, .inl (a 0, 578, .inl w3))] := hD
    refine lv_iload_n hx hb dX11_seed_23 rfl (lv_at hl 0 rfl) ?_
    cases hf
    exact hret _ _ _ _ (vp_nar_int _) hP hD hS dX11_seed_24
  replace hf := o_ifn hf c1
  refine lv_ldc (v := (-1000000002 : Int32)) hx hb hown hk1 dX11_seed_4 ?_
  cases hf
  exact hret _ _ _ _ (vp_nar_int _) hP hD hS dX11_seed_6
def f_X11_keep (t_undoMany : Int32) (isKept : Nat → Int32) (w : Nat → Int32) (x1 : Int32) : Option (Int32 × Int32 × (Nat → Int32) × (Nat → Int32)) :=
  (f_X11_in (Int32.toInt64 x1) (0 : Int64) (1 : Int64)).bind fun o1 =>
  if o1 = 0 then (some ((-1000000001 : Int32), t_undoMany, isKept, w))
  else ((f_X11_copy w (0 : Int32) ((34 : Int32) + ((17 : Int32) * x1))).bind fun o3 =>
  (o_st isKept 2 x1 (1 : Int32)).bind fun w4 =>
  some ((1 : Int32), (0 : Int32), w4, o3))
theorem hdS_X11_keep : yX11_keep.cls ≠ "java/lang/invoke/MethodHandle" ∧ yX11_keep.cls ≠ "java/lang/invoke/VarHandle" ∧ (parseMethodDescriptor yX11_keep.desc).map (fun d => d.parameters.length) = some 1 := by decide +kernel
theorem hdV_X11_keep : yX11_keep.cls = RX11 ∧ yX11_keep.cls ≠ "java/lang/invoke/MethodHandle" ∧ yX11_keep.cls ≠ "java/lang/invoke/VarHandle" ∧ (parseMethodDescriptor yX11_keep.desc).map (fun d => d.parameters.length) = some 1 := ⟨rfl, hdS_X11_keep⟩
set_option maxHeartbeats 4000000 in
set_option maxRecDepth 100000 in
theorem c_X11_keep (l : Launch) (D : va_G) (a : Nat → ClassId) (t : Nat) (q_t : Nat) (q_w : Nat) (q_isKept : Nat) (t_all : Int32) (t_corners : Int32) (t_hearers : Int32) (t_newAll : Int32) (t_newCorners : Int32) (t_newHearers : Int32) (q_beer : Nat) (q_cold : Nat) (q_stands : Nat) (q_pinched : Nat) (q_says : Nat) (q_text : Nat) (t_textSize : Int32) (t_at : Int32) (t_first : Int32) (t_faultOf : Int32) (t_fault : Int32) (t_spoke : Int32) (t_holds : Int32) (t_undoMany : Int32) (q_seenDecree : Nat) (q_seenAt : Nat) (q_seenSpoke : Nat) (t_seen : Int32) (q_inSets : Nat) (q_book : Nat) (t_written : Int32) (isKept : Nat → Int32) (w : Nat → Int32) (x1 : Int32) (r : Int32) (o_t_undoMany : Int32) (o_isKept : Nat → Int32) (o_w : Nat → Int32) (hf : f_X11_keep t_undoMany isKept w x1 = some (r, o_t_undoMany, o_isKept, o_w)) : Ki l yX11_keep wsX11_keep 1 25 D a t [.ref q_t, .int x1] [(q_t, .inr (11, [.ref q_w, .ref q_isKept, .int t_all, .int t_corners, .int t_hearers, .int t_newAll, .int t_newCorners, .int t_newHearers, .ref q_beer, .ref q_cold, .ref q_stands, .ref q_pinched, .ref q_says, .ref q_text, .int t_textSize, .int t_at, .int t_first, .int t_faultOf, .int t_fault, .int t_spoke, .int t_holds, .int t_undoMany, .ref q_seenDecree, .ref q_seenAt, .ref q_seenSpoke, .int t_seen, .ref q_inSets, .ref q_book, .int t_written])), (q_isKept, .inl (a 1, 2, .inl isKept)), (q_w, .inl (a 0, 578, .inl w))] [(q_t, .inr (11, [.ref q_w, .ref q_isKept, .int t_all, .int t_corners, .int t_hearers, .int t_newAll, .int t_newCorners, .int t_newHearers, .ref q_beer, .ref q_cold, .ref q_stands, .ref q_pinched, .ref q_says, .ref q_text, .int t_textSize, .int t_at, .int t_first, .int t_faultOf, .int t_fault, .int t_spoke, .int t_holds, .int o_t_undoMany, .ref q_seenDecree, .ref q_seenAt, .ref q_seenSpoke, .int t_seen, .ref q_inSets, .ref q_book, .int t_written])), (q_isKept, .inl (a 1, 2, .inl o_isKept)), (q_w, .inl (a 0, 578, .inl o_w))] r := by
  refine Ki.mk (cc := cX11_keep) (nL := 2) (ty := .int) (own := RX11) (by decide) rfl rfl (Nat.le_of_ble_eq_true rfl) ?_
  intro p e s m args below meth c A Q ls hX hP hD hS hl hret
  have hx := hX.1.1
  have hb := hX.1.2.1
  have hown := hX.1.2.2.2.1
  have hts := hX.1.2.2.2.2
  have hN := hX.2.2.1
  have hA := hX.2.2.2.2
  have hl : lv_has ls 2 [(0, .ref q_t), (1, .int x1)] := hl
  have hk1 := hts (.constant RX11 149 (-1000000001)) (List.mem_of_getElem? (i := 1) rfl)
  have hk2 := hts (.fieldLink RX11 13 "GainsaidOnceModel" "isKept" "[Z") (List.mem_of_getElem? (i := 2) rfl)
  have hk3 := hts (.fieldLink RX11 142 "GainsaidOnceModel" "undoMany" "I") (List.mem_of_getElem? (i := 3) rfl)
  have hiX11 : ∀ w ∈ wsX110, w ∈ wsX11_keep := (fun _ h => List.mem_cons_of_mem _ (List.mem_append_right _ h))
  unfold f_X11_keep at hf
  refine lv_iload_n hx hb dX11_keep_0 rfl (lv_at hl 1 rfl) ?_
  refine lv_i2l (v := Int32.toInt64 x1) hx hb dX11_keep_1 rfl ?_
  refine lv_lconst (v := (0 : Int64)) hx hb dX11_keep_2 (by decide) ?_
  refine lv_lconst (v := (1 : Int64)) hx hb dX11_keep_3 (by decide) ?_
  obtain ⟨o1, ho1, hf⟩ := o_bd hf
  refine call_iS hX (c_X11_in l D a t (Int32.toInt64 x1) (0 : Int64) (1 : Int64) o1 ho1) (va_cwS 3 hts gX11_keep_X11_in rfl rfl rfl hdS_X11_in ⟨by decide, by decide⟩) (Cut.none hA hP hD hS) hS rfl hl.1 rfl (Nat.le_of_ble_eq_true rfl) dX11_keep_4 (by decide) (fun H locs hP hD hS => ?_)
  refine lv_if_ne (tgt := 13) hx hb dX11_keep_7 (by decide) (fun c2 => ?_) (fun c2 => ?_)
  · replace hf := o_ifn hf c2
    refine lv_aload_n hx hb dX11_keep_13 rfl (lv_at hl 0 rfl) ?_
    refine lv_iconst (v := (0 : Int32)) hx hb dX11_keep_14 (by decide) ?_
    refine lv_bipush (v := (34 : Int32)) hx hb dX11_keep_15 (by decide) ?_
    refine lv_bipush (v := (17 : Int32)) hx hb dX11_keep_17 (by decide) ?_
    refine lv_iload_n hx hb dX11_keep_19 rfl (lv_at hl 1 rfl) ?_
    refine lv_imul hx hb dX11_keep_20 ?_
    refine lv_iadd hx hb dX11_keep_21 ?_
    obtain ⟨o3, ho3, hf⟩ := o_bd hf
    refine call_vV (q0 := 0) (ci := 11) hX (c_X11_copy l D a t q_t q_w q_isKept t_all t_corners t_hearers t_newAll t_newCorners t_newHearers q_beer q_cold q_stands q_pinched q_says q_text t_textSize t_at t_first t_faultOf t_fault t_spoke t_holds t_undoMany q_seenDecree q_seenAt q_seenSpoke t_seen q_inSets q_book t_written w (0 : Int32) ((34 : Int32) + ((17 : Int32) * x1)) o3 ho3) (cwV 2 hts gX11_keep_X11_copy rfl rfl rfl hdV_X11_copy ⟨by decide, by decide⟩) (Cut.of hA hP hD hS [0, 2] (by decide) rfl rfl (W' := [(q_t, .inr (11, [.ref q_w, .ref q_isKept, .int t_all, .int t_corners, .int t_hearers, .int t_newAll, .int t_newCorners, .int t_newHearers, .ref q_beer, .ref q_cold, .ref q_stands, .ref q_pinched, .ref q_says, .ref q_text, .int t_textSize, .int t_at, .int t_first, .int t_faultOf, .int t_fault, .int t_spoke, .int t_holds, .int t_undoMany, .ref q_seenDecree, .ref q_seenAt, .ref q_seenSpoke, .int t_seen, .ref q_inSets, .ref q_book, .int t_written])), (q_isKept, .inl (a 1, 2, .inl isKept)), (q_w, .inl (a 0, 578, .inl o3))]) rfl) hS rfl rfl rfl hl.1 rfl (Nat.le_of_ble_eq_true rfl) dX11_keep_22 (by decide) (fun H locs hP hD hS => ?_)
    replace hP : va_P D vwCl [(q_t, .inr (11, [.ref q_w, .ref q_isKept, .int t_all, .int t_corners, .int t_hearers, .int t_newAll, .int t_newCorners, .int t_newHearers, .ref q_beer, .ref q_cold, .ref q_stands, .ref q_pinched, .ref q_says, .ref q_text, .int t_textSize, .int t_at, .int t_first, .int t_faultOf, .int t_fault, .int t_spoke, .int t_holds, .int t_undoMany, .ref q_seenDecree, .ref q_seenAt, .ref q_seenSpoke, .int t_seen, .ref q_inSets, .ref q_book, .int t_written])), (q_isKept, .inl (a 1, 2, .inl isKept)), (q_w, .inl (a 0, 578, .inl o3))] H := hP
    replace hD : va_D A [(q_t, .inr (11, [.ref q_w, .ref q_isKept, .int t_all, .int t_corners, .int t_hearers, .int t_newAll, .int t_newCorners, .int t_newHearers, .ref q_beer, .ref q_cold, .ref q_stands, .ref q_pinched, .ref q_says, .ref q_text, .int t_textSize, .int t_at, .int t_first, .int t_faultOf, .int t_fault, .int t_spoke, .int t_holds, .int t_undoMany, .ref q_seenDecree, .ref q_seenAt, .ref q_seenSpoke, .int t_seen, .ref q_inSets, .ref q_book, .int t_written])), (q_isKept, .inl (a 1, 2, .inl isKept)), (q_w, .inl (a 0, 578, .inl o3))] := hD
    refine lv_aload_n hx hb dX11_keep_25 rfl (lv_at hl 0 rfl) ?_
    refine g_get hX hiX11 hP 0 rfl rfl 1 (by decide) hk2 rfl rfl dX11_keep_26 ?_
    refine lv_iload_n hx hb dX11_keep_29 rfl (lv_at hl 1 rfl) ?_
    refine lv_iconst (v := (1 : Int32)) hx hb dX11_keep_30 (by decide) ?_
    obtain ⟨hiw4, hf⟩ := o_sth hf
    refine g_zast hX hP hD hS 1 rfl rfl hiw4 dX11_keep_31 (fun w4 ew4 H locs hP hD hS => ?_)
    replace hf := hf w4 ew4
    replace hP : va_P D vwCl [(q_t, .inr (11, [.ref q_w, .ref q_isKept, .int t_all, .int t_corners, .int t_hearers, .int t_newAll, .int t_newCorners, .int t_newHearers, .ref q_beer, .ref q_cold, .ref q_stands, .ref q_pinched, .ref q_says, .ref q_text, .int t_textSize, .int t_at, .int t_first, .int t_faultOf, .int t_fault, .int t_spoke, .int t_holds, .int t_undoMany, .ref q_seenDecree, .ref q_seenAt, .ref q_seenSpoke, .int t_seen, .ref q_inSets, .ref q_book, .int t_written])), (q_isKept, .inl (a 1, 2, .inl w4)), (q_w, .inl (a 0, 578, .inl o3))] H := hP
    replace hD : va_D A [(q_t, .inr (11, [.ref q_w, .ref q_isKept, .int t_all, .int t_corners, .int t_hearers, .int t_newAll, .int t_newCorners, .int t_newHearers, .ref q_beer, .ref q_cold, .ref q_stands, .ref q_pinched, .ref q_says, .ref q_text, .int t_textSize, .int t_at, .int t_first, .int t_faultOf, .int t_fault, .int t_spoke, .int t_holds, .int t_undoMany, .ref q_seenDecree, .ref q_seenAt, .ref q_seenSpoke, .int t_seen, .ref q_inSets, .ref q_book, .int t_written])), (q_isKept, .inl (a 1, 2, .inl w4)), (q_w, .inl (a 0, 578, .inl o3))] := hD
    refine lv_aload_n hx hb dX11_keep_32 rfl (lv_at hl 0 rfl) ?_
    refine lv_iconst (v := (0 : Int32)) hx hb dX11_keep_33 (by decide) ?_
    refine g_put hX hiX11 tyX11 tyX11_ok nmX11 hP hD hS 0 rfl rfl 21 (by decide) hk3 rfl rfl rfl rfl (Nat.le_of_ble_eq_true rfl) dX11_keep_34 (fun H locs hP hD hS => ?_)
    replace hP : va_P D vwCl [(q_t, .inr (11, [.ref q_w, .ref q_isKept, .int t_all, .int t_corners, .int t_hearers, .int t_newAll, .int t_newCorners, .int t_newHearers, .ref q_beer, .ref q_cold, .ref q_stands, .ref q_pinched, .ref q_says, .ref q_text, .int t_textSize, .int t_at, .int t_first, .int t_faultOf, .int t_fault, .int t_spoke, .int t_holds, .int (0 : Int32), .ref q_seenDecree, .ref q_seenAt, .ref q_seenSpoke, .int t_seen, .ref q_inSets, .ref q_book, .int t_written])), (q_isKept, .inl (a 1, 2, .inl w4)), (q_w, .inl (a 0, 578, .inl o3))] H := hP
    replace hD : va_D A [(q_t, .inr (11, [.ref q_w, .ref q_isKept, .int t_all, .int t_corners, .int t_hearers, .int t_newAll, .int t_newCorners, .int t_newHearers, .ref q_beer, .ref q_cold, .ref q_stands, .ref q_pinched, .ref q_says, .ref q_text, .int t_textSize, .int t_at, .int t_first, .int t_faultOf, .int t_fault, .int t_spoke, .int t_holds, .int (0 : Int32), .ref q_seenDecree, .ref q_seenAt, .ref q_seenSpoke, .int t_seen, .ref q_inSets, .ref q_book, .int t_written])), (q_isKept, .inl (a 1, 2, .inl w4)), (q_w, .inl (a 0, 578, .inl o3))] := hD
    refine lv_iconst (v := (1 : Int32)) hx hb dX11_keep_37 (by decide) ?_
    cases hf
    exact hret _ _ _ _ (vp_nar_int _) hP hD hS dX11_keep_38
  replace hf := o_ifp hf c2
  refine lv_ldc (v := (-1000000001 : Int32)) hx hb hown hk1 dX11_keep_10 ?_
  cases hf
  exact hret _ _ _ _ (vp_nar_int _) hP hD hS dX11_keep_12
def f_X11_goBack (t_undoMany : Int32) (isKept : Nat → Int32) (w : Nat → Int32) (x1 : Int32) : Option (Int32 × Int32 × (Nat → Int32)) :=
  (f_X11_in (Int32.toInt64 x1) (0 : Int64) (1 : Int64)).bind fun o1 =>
  if o1 = 0 then (some ((-1000000001 : Int32), t_undoMany, w))
  else ((o_ld isKept 2 x1).bind fun v3 =>
  if v3 = 0 then (some ((-1000000003 : Int32), t_undoMany, w))
  else ((f_X11_copy w ((34 : Int32) + ((17 : Int32) * x1)) (0 : Int32)).bind fun o5 =>
  some ((1 : Int32), (0 : Int32), o5)))
theorem hdS_X11_goBack : yX11_goBack.cls ≠ "java/lang/invoke/MethodHandle" ∧ yX11_goBack.cls ≠ "java/lang/invoke/VarHandle" ∧ (parseMethodDescriptor yX11_goBack.desc).map (fun d => d.parameters.length) = some 1 := by decide +kernel
theorem hdV_X11_goBack : yX11_goBack.cls = RX11 ∧ yX11_goBack.cls ≠ "java/lang/invoke/MethodHandle" ∧ yX11_goBack.cls ≠ "java/lang/invoke/VarHandle" ∧ (parseMethodDescriptor yX11_goBack.desc).map (fun d => d.parameters.length) = some 1 := ⟨rfl, hdS_X11_goBack⟩
set_option maxHeartbeats 4000000 in
set_option maxRecDepth 100000 in
theorem c_X11_goBack (l : Launch) (D : va_G) (a : Nat → ClassId) (t : Nat) (q_t : Nat) (q_w : Nat) (q_isKept : Nat) (t_all : Int32) (t_corners : Int32) (t_hearers : Int32) (t_newAll : Int32) (t_newCorners : Int32) (t_newHearers : Int32) (q_beer : Nat) (q_cold : Nat) (q_stands : Nat) (q_pinched : Nat) (q_says : Nat) (q_text : Nat) (t_textSize : Int32) (t_at : Int32) (t_first : Int32) (t_faultOf : Int32) (t_fault : Int32) (t_spoke : Int32) (t_holds : Int32) (t_undoMany : Int32) (q_seenDecree : Nat) (q_seenAt : Nat) (q_seenSpoke : Nat) (t_seen : Int32) (q_inSets : Nat) (q_book : Nat) (t_written : Int32) (isKept : Nat → Int32) (w : Nat → Int32) (x1 : Int32) (r : Int32) (o_t_undoMany : Int32) (o_w : Nat → Int32) (hf : f_X11_goBack t_undoMany isKept w x1 = some (r, o_t_undoMany, o_w)) : Ki l yX11_goBack wsX11_goBack 1 25 D a t [.ref q_t, .int x1] [(q_t, .inr (11, [.ref q_w, .ref q_isKept, .int t_all, .int t_corners, .int t_hearers, .int t_newAll, .int t_newCorners, .int t_newHearers, .ref q_beer, .ref q_cold, .ref q_stands, .ref q_pinched, .ref q_says, .ref q_text, .int t_textSize, .int t_at, .int t_first, .int t_faultOf, .int t_fault, .int t_spoke, .int t_holds, .int t_undoMany, .ref q_seenDecree, .ref q_seenAt, .ref q_seenSpoke, .int t_seen, .ref q_inSets, .ref q_book, .int t_written])), (q_isKept, .inl (a 1, 2, .inl isKept)), (q_w, .inl (a 0, 578, .inl w))] [(q_t, .inr (11, [.ref q_w, .ref q_isKept, .int t_all, .int t_corners, .int t_hearers, .int t_newAll, .int t_newCorners, .int t_newHearers, .ref q_beer, .ref q_cold, .ref q_stands, .ref q_pinched, .ref q_says, .ref q_text, .int t_textSize, .int t_at, .int t_first, .int t_faultOf, .int t_fault, .int t_spoke, .int t_holds, .int o_t_undoMany, .ref q_seenDecree, .ref q_seenAt, .ref q_seenSpoke, .int t_seen, .ref q_inSets, .ref q_book, .int t_written])), (q_isKept, .inl (a 1, 2, .inl isKept)), (q_w, .inl (a 0, 578, .inl o_w))] r := by
  refine Ki.mk (cc := cX11_goBack) (nL := 2) (ty := .int) (own := RX11) (by decide) rfl rfl (Nat.le_of_ble_eq_true rfl) ?_
  intro p e s m args below meth c A Q ls hX hP hD hS hl hret
  have hx := hX.1.1
  have hb := hX.1.2.1
  have hown := hX.1.2.2.2.1
  have hts := hX.1.2.2.2.2
  have hN := hX.2.2.1
  have hA := hX.2.2.2.2
  have hl : lv_has ls 2 [(0, .ref q_t), (1, .int x1)] := hl
  have hk1 := hts (.constant RX11 149 (-1000000001)) (List.mem_of_getElem? (i := 1) rfl)
  have hk2 := hts (.fieldLink RX11 13 "GainsaidOnceModel" "isKept" "[Z") (List.mem_of_getElem? (i := 2) rfl)
  have hk3 := hts (.constant RX11 200 (-1000000003)) (List.mem_of_getElem? (i := 3) rfl)
  have hk4 := hts (.fieldLink RX11 142 "GainsaidOnceModel" "undoMany" "I") (List.mem_of_getElem? (i := 4) rfl)
  have hiX11 : ∀ w ∈ wsX110, w ∈ wsX11_goBack := (fun _ h => List.mem_cons_of_mem _ (List.mem_append_right _ h))
  unfold f_X11_goBack at hf
  refine lv_iload_n hx hb dX11_goBack_0 rfl (lv_at hl 1 rfl) ?_
  refine lv_i2l (v := Int32.toInt64 x1) hx hb dX11_goBack_1 rfl ?_
  refine lv_lconst (v := (0 : Int64)) hx hb dX11_goBack_2 (by decide) ?_
  refine lv_lconst (v := (1 : Int64)) hx hb dX11_goBack_3 (by decide) ?_
  obtain ⟨o1, ho1, hf⟩ := o_bd hf
  refine call_iS hX (c_X11_in l D a t (Int32.toInt64 x1) (0 : Int64) (1 : Int64) o1 ho1) (va_cwS 3 hts gX11_goBack_X11_in rfl rfl rfl hdS_X11_in ⟨by decide, by decide⟩) (Cut.none hA hP hD hS) hS rfl hl.1 rfl (Nat.le_of_ble_eq_true rfl) dX11_goBack_4 (by decide) (fun H locs hP hD hS => ?_)
  refine lv_if_ne (tgt := 13) hx hb dX11_goBack_7 (by decide) (fun c2 => ?_) (fun c2 => ?_)
  · replace hf := o_ifn hf c2
    refine lv_aload_n hx hb dX11_goBack_13 rfl (lv_at hl 0 rfl) ?_
    refine g_get hX hiX11 hP 0 rfl rfl 1 (by decide) hk2 rfl rfl dX11_goBack_14 ?_
    refine lv_iload_n hx hb dX11_goBack_17 rfl (lv_at hl 1 rfl) ?_
    obtain ⟨hiv3, hf⟩ := o_ldh hf
    refine g_zald hX hP 1 rfl hiv3 dX11_goBack_18 (fun v3 ev3 => ?_)
    replace hf := hf v3 ev3
    refine lv_if_ne (tgt := 25) hx hb dX11_goBack_19 (by decide) (fun c4 => ?_) (fun c4 => ?_)
    · replace hf := o_ifn hf c4
      refine lv_aload_n hx hb dX11_goBack_25 rfl (lv_at hl 0 rfl) ?_
      refine lv_bipush (v := (34 : Int32)) hx hb dX11_goBack_26 (by decide) ?_
      refine lv_bipush (v := (17 : Int32)) hx hb dX11_goBack_28 (by decide) ?_
      refine lv_iload_n hx hb dX11_goBack_30 rfl (lv_at hl 1 rfl) ?_
      refine lv_imul hx hb dX11_goBack_31 ?_
      refine lv_iadd hx hb dX11_goBack_32 ?_
      refine lv_iconst (v := (0 : Int32)) hx hb dX11_goBack_33 (by decide) ?_
      obtain ⟨o5, ho5, hf⟩ := o_bd hf
      refine call_vV (q0 := 0) (ci := 11) hX (c_X11_copy l D a t q_t q_w q_isKept t_all t_corners t_hearers t_newAll t_newCorners t_newHearers q_beer q_cold q_stands q_pinched q_says q_text t_textSize t_at t_first t_faultOf t_fault t_spoke t_holds t_undoMany q_seenDecree q_seenAt q_seenSpoke t_seen q_inSets q_book t_written w ((34 : Int32) + ((17 : Int32) * x1)) (0 : Int32) o5 ho5) (cwV 2 hts gX11_goBack_X11_copy rfl rfl rfl hdV_X11_copy ⟨by decide, by decide⟩) (Cut.of hA hP hD hS [0, 2] (by decide) rfl rfl (W' := [(q_t, .inr (11, [.ref q_w, .ref q_isKept, .int t_all, .int t_corners, .int t_hearers, .int t_newAll, .int t_newCorners, .int t_newHearers, .ref q_beer, .ref q_cold, .ref q_stands, .ref q_pinched, .ref q_says, .ref q_text, .int t_textSize, .int t_at, .int t_first, .int t_faultOf, .int t_fault, .int t_spoke, .int t_holds, .int t_undoMany, .ref q_seenDecree, .ref q_seenAt, .ref q_seenSpoke, .int t_seen, .ref q_inSets, .ref q_book, .int t_written])), (q_isKept, .inl (a 1, 2, .inl isKept)), (q_w, .inl (a 0, 578, .inl o5))]) rfl) hS rfl rfl rfl hl.1 rfl (Nat.le_of_ble_eq_true rfl) dX11_goBack_34 (by decide) (fun H locs hP hD hS => ?_)
      replace hP : va_P D vwCl [(q_t, .inr (11, [.ref q_w, .ref q_isKept, .int t_all, .int t_corners, .int t_hearers, .int t_newAll, .int t_newCorners, .int t_newHearers, .ref q_beer, .ref q_cold, .ref q_stands, .ref q_pinched, .ref q_says, .ref q_text, .int t_textSize, .int t_at, .int t_first, .int t_faultOf, .int t_fault, .int t_spoke, .int t_holds, .int t_undoMany, .ref q_seenDecree, .ref q_seenAt, .ref q_seenSpoke, .int t_seen, .ref q_inSets, .ref q_book, .int t_written])), (q_isKept, .inl (a 1, 2, .inl isKept)), (q_w, .inl (a 0, 578, .inl o5))] H := hP
      replace hD : va_D A [(q_t, .inr (11, [.ref q_w, .ref q_isKept, .int t_all, .int t_corners, .int t_hearers, .int t_newAll, .int t_newCorners, .int t_newHearers, .ref q_beer, .ref q_cold, .ref q_stands, .ref q_pinched, .ref q_says, .ref q_text, .int t_textSize, .int t_at, .int t_first, .int t_faultOf, .int t_fault, .int t_spoke, .int t_holds, .int t_undoMany, .ref q_seenDecree, .ref q_seenAt, .ref q_seenSpoke, .int t_seen, .ref q_inSets, .ref q_book, .int t_written])), (q_isKept, .inl (a 1, 2, .inl isKept)), (q_w, .inl (a 0, 578, .inl o5))] := hD
      refine lv_aload_n hx hb dX11_goBack_37 rfl (lv_at hl 0 rfl) ?_
      refine lv_iconst (v := (0 : Int32)) hx hb dX11_goBack_38 (by decide) ?_
      refine g_put hX hiX11 tyX11 tyX11_ok nmX11 hP hD hS 0 rfl rfl 21 (by decide) hk4 rfl rfl rfl rfl (Nat.le_of_ble_eq_true rfl) dX11_goBack_39 (fun H locs hP hD hS => ?_)
      replace hP : va_P D vwCl [(q_t, .inr (11, [.ref q_w, .ref q_isKept, .int t_all, .int t_corners, .int t_hearers, .int t_newAll, .int t_newCorners, .int t_newHearers, .ref q_beer, .ref q_cold, .ref q_stands, .ref q_pinched, .ref q_says, .ref q_text, .int t_textSize, .int t_at, .int t_first, .int t_faultOf, .int t_fault, .int t_spoke, .int t_holds, .int (0 : Int32), .ref q_seenDecree, .ref q_seenAt, .ref q_seenSpoke, .int t_seen, .ref q_inSets, .ref q_book, .int t_written])), (q_isKept, .inl (a 1, 2, .inl isKept)), (q_w, .inl (a 0, 578, .inl o5))] H := hP
      replace hD : va_D A [(q_t, .inr (11, [.ref q_w, .ref q_isKept, .int t_all, .int t_corners, .int t_hearers, .int t_newAll, .int t_newCorners, .int t_newHearers, .ref q_beer, .ref q_cold, .ref q_stands, .ref q_pinched, .ref q_says, .ref q_text, .int t_textSize, .int t_at, .int t_first, .int t_faultOf, .int t_fault, .int t_spoke, .int t_holds, .int (0 : Int32), .ref q_seenDecree, .ref q_seenAt, .ref q_seenSpoke, .int t_seen, .ref q_inSets, .ref q_book, .int t_written])), (q_isKept, .inl (a 1, 2, .inl isKept)), (q_w, .inl (a 0, 578, .inl o5))] := hD
      refine lv_iconst (v := (1 : Int32)) hx hb dX11_goBack_42 (by decide) ?_
      cases hf
      exact hret _ _ _ _ (vp_nar_int _) hP hD hS dX11_goBack_43
    replace hf := o_ifp hf c4
    refine lv_ldc (v := (-1000000003 : Int32)) hx hb hown hk3 dX11_goBack_22 ?_
    cases hf
    exact hret _ _ _ _ (vp_nar_int _) hP hD hS dX11_goBack_24
  replace hf := o_ifp hf c2
  refine lv_ldc (v := (-1000000001 : Int32)) hx hb hown hk1 dX11_goBack_10 ?_
  cases hf
  exact hret _ _ _ _ (vp_nar_int _) hP hD hS dX11_goBack_12
