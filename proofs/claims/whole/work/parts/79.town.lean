theorem p_town {x_ring_clauses : Int32} {x_ring_corners : Int32} {x_ring_hearers : Int32} {x_ring_beers : Nat → Int32} {x_ring_pinches : Nat → Int32} {x_ring_sayings : Nat → Int32} {m_t_all : Int32} {m_t_corners : Int32} {m_t_hearers : Int32} {m_beer : Nat → Int32} {m_pinched : Nat → Int32} {m_says : Nat → Int32} {x_now_rounds : Int32} {x_now_months : Int32} {x_now_law : Int32} {x_now_holds : Int32} {x_now_hoarse : Int32} {x_now_keptIn : Int32} {x_now_colds : Int32} {x_now_places : Nat → Int32} {m_w : Nat → Int32} {x_draws_value : Int32} {x_past_next : Int32} {x_past_count : Int32} {x_S : Nat → Nat → Int32} {x_SP : Nat → Nat → Int32} {m_t_undoMany : Int32} {x_images_i0_seedThen : Int32} {x_images_i0_isTaken : Int32} {x_images_i0_state_rounds : Int32} {x_images_i0_state_months : Int32} {x_images_i0_state_law : Int32} {x_images_i0_state_holds : Int32} {x_images_i0_state_hoarse : Int32} {x_images_i0_state_keptIn : Int32} {x_images_i0_state_colds : Int32} {x_images_i0_state_places : Nat → Int32} {x_images_i1_seedThen : Int32} {x_images_i1_isTaken : Int32} {x_images_i1_state_rounds : Int32} {x_images_i1_state_months : Int32} {x_images_i1_state_law : Int32} {x_images_i1_state_holds : Int32} {x_images_i1_state_hoarse : Int32} {x_images_i1_state_keptIn : Int32} {x_images_i1_state_colds : Int32} {x_images_i1_state_places : Nat → Int32} {m_isKept : Nat → Int32} {x_reader_letters_count : Int32} {x_reader_letters_items : Nat → Int32} {m_t_textSize : Int32} {m_text : Nat → Int32} {x_t_faultLetter : Int32} {m_t_fault : Int32} {x_witnesses_decrees_count : Int32} {x_witnesses_decrees_items : Nat → Int32} {x_witnesses_corners_count : Int32} {x_witnesses_corners_items : Nat → Int32} {x_witnesses_voices_count : Int32} {x_witnesses_voices_items : Nat → Int32} {m_t_seen : Int32} {m_seenDecree : Nat → Int32} {m_seenAt : Nat → Int32} {m_seenSpoke : Nat → Int32} {x_book_count : Int32} {x_book_items : Nat → Int32} {m_t_written : Int32} {m_book : Nat → Int32} (x_reader_here : Int32) (x_reader_faultNumber : Int32) (x_reader_faultAt : Int32) (x_ring_firstColds : Int32) (x_ring_firstPlaces : Nat → Int32) (x_draft_clauses : Int32) (x_draft_corners : Int32) (x_draft_hearers : Int32) (x_draft_firstColds : Int32) (x_draft_beers : Nat → Int32) (x_draft_firstPlaces : Nat → Int32) (x_draft_pinches : Nat → Int32) (x_draft_sayings : Nat → Int32) (m_t_newAll : Int32) (m_t_newCorners : Int32) (m_t_newHearers : Int32) (m_t_at : Int32) (m_t_first : Int32) (m_t_faultOf : Int32) (m_cold : Nat → Int32) (m_stands : Nat → Int32) (h : Inv x_ring_clauses x_ring_corners x_ring_hearers x_ring_beers x_ring_pinches x_ring_sayings m_t_all m_t_corners m_t_hearers m_beer m_pinched m_says x_now_rounds x_now_months x_now_law x_now_holds x_now_hoarse x_now_keptIn x_now_colds x_now_places m_w x_draws_value x_past_next x_past_count x_S x_SP m_t_undoMany x_images_i0_seedThen x_images_i0_isTaken x_images_i0_state_rounds x_images_i0_state_months x_images_i0_state_law x_images_i0_state_holds x_images_i0_state_hoarse x_images_i0_state_keptIn x_images_i0_state_colds x_images_i0_state_places x_images_i1_seedThen x_images_i1_isTaken x_images_i1_state_rounds x_images_i1_state_months x_images_i1_state_law x_images_i1_state_holds x_images_i1_state_hoarse x_images_i1_state_keptIn x_images_i1_state_colds x_images_i1_state_places m_isKept x_reader_letters_count x_reader_letters_items m_t_textSize m_text x_t_faultLetter m_t_fault x_witnesses_decrees_count x_witnesses_decrees_items x_witnesses_corners_count x_witnesses_corners_items x_witnesses_voices_count x_witnesses_voices_items m_t_seen m_seenDecree m_seenAt m_seenSpoke x_book_count x_book_items m_t_written m_book) : ∃ (r : Int32) (X : Int32 × Int32 × Int32 × Int32 × Int32 × Int32 × Int32 × Int32 × Int32 × Int32 × Int32 × Int32 × Int32 × Int32 × Int32 × Int32 × Int32 × Int32 × Int32 × Int32 × Int32 × (Nat → Int32) × (Nat → Int32) × (Nat → Int32) × (Nat → Int32) × Int32 × Int32 × (Nat → Int32) × Int32 × (Nat → Int32) × (Nat → Int32) × (Nat → Int32) × (Nat → Int32) × Int32 × Int32 × Int32) (M : Int32 × Int32 × Int32 × Int32 × Int32 × Int32 × Int32 × Int32 × Int32 × Int32 × Int32 × Int32 × Int32 × Int32 × (Nat → Int32) × (Nat → Int32) × (Nat → Int32) × (Nat → Int32) × (Nat → Int32) × (Nat → Int32) × (Nat → Int32)), f_X10_town x_t_faultLetter x_book_count x_draft_clauses x_draft_corners x_draft_hearers x_draft_firstColds x_now_rounds x_now_months x_now_law x_now_holds x_now_hoarse x_now_keptIn x_now_colds x_past_count x_reader_here x_reader_faultNumber x_reader_faultAt x_ring_clauses x_ring_corners x_ring_hearers x_ring_firstColds x_draft_beers x_draft_firstPlaces x_draft_pinches x_draft_sayings x_images_i0_isTaken x_images_i1_isTaken x_now_places x_reader_letters_count x_ring_beers x_ring_firstPlaces x_ring_pinches x_ring_sayings x_witnesses_corners_count x_witnesses_decrees_count x_witnesses_voices_count x_reader_letters_items = some (r, X) ∧ f_X11_town m_t_all m_t_corners m_t_hearers m_t_newAll m_t_newCorners m_t_newHearers m_t_textSize m_t_at m_t_first m_t_faultOf m_t_fault m_t_undoMany m_t_seen m_t_written m_beer m_cold m_isKept m_pinched m_says m_stands m_text m_w = some (r, M) ∧ Inv X.2.2.2.2.2.2.2.2.2.2.2.2.2.2.2.2.2.1 X.2.2.2.2.2.2.2.2.2.2.2.2.2.2.2.2.2.2.1 X.2.2.2.2.2.2.2.2.2.2.2.2.2.2.2.2.2.2.2.1 X.2.2.2.2.2.2.2.2.2.2.2.2.2.2.2.2.2.2.2.2.2.2.2.2.2.2.2.2.2.1 X.2.2.2.2.2.2.2.2.2.2.2.2.2.2.2.2.2.2.2.2.2.2.2.2.2.2.2.2.2.2.2.1 X.2.2.2.2.2.2.2.2.2.2.2.2.2.2.2.2.2.2.2.2.2.2.2.2.2.2.2.2.2.2.2.2.1 M.1 M.2.1 M.2.2.1 M.2.2.2.2.2.2.2.2.2.2.2.2.2.2.1 M.2.2.2.2.2.2.2.2.2.2.2.2.2.2.2.2.2.1 M.2.2.2.2.2.2.2.2.2.2.2.2.2.2.2.2.2.2.1 X.2.2.2.2.2.2.1 X.2.2.2.2.2.2.2.1 X.2.2.2.2.2.2.2.2.1 X.2.2.2.2.2.2.2.2.2.1 X.2.2.2.2.2.2.2.2.2.2.1 X.2.2.2.2.2.2.2.2.2.2.2.1 X.2.2.2.2.2.2.2.2.2.2.2.2.1 X.2.2.2.2.2.2.2.2.2.2.2.2.2.2.2.2.2.2.2.2.2.2.2.2.2.2.2.1 M.2.2.2.2.2.2.2.2.2.2.2.2.2.2.2.2.2.2.2.2 x_draws_value x_past_next X.2.2.2.2.2.2.2.2.2.2.2.2.2.1 x_S x_SP M.2.2.2.2.2.2.2.2.2.2.2.1 x_images_i0_seedThen X.2.2.2.2.2.2.2.2.2.2.2.2.2.2.2.2.2.2.2.2.2.2.2.2.2.1 x_images_i0_state_rounds x_images_i0_state_months x_images_i0_state_law x_images_i0_state_holds x_images_i0_state_hoarse x_images_i0_state_keptIn x_images_i0_state_colds x_images_i0_state_places x_images_i1_seedThen X.2.2.2.2.2.2.2.2.2.2.2.2.2.2.2.2.2.2.2.2.2.2.2.2.2.2.1 x_images_i1_state_rounds x_images_i1_state_months x_images_i1_state_law x_images_i1_state_holds x_images_i1_state_hoarse x_images_i1_state_keptIn x_images_i1_state_colds x_images_i1_state_places M.2.2.2.2.2.2.2.2.2.2.2.2.2.2.2.2.1 X.2.2.2.2.2.2.2.2.2.2.2.2.2.2.2.2.2.2.2.2.2.2.2.2.2.2.2.2.1 x_reader_letters_items M.2.2.2.2.2.2.1 m_text X.1 M.2.2.2.2.2.2.2.2.2.2.1 X.2.2.2.2.2.2.2.2.2.2.2.2.2.2.2.2.2.2.2.2.2.2.2.2.2.2.2.2.2.2.2.2.2.2.1 x_witnesses_decrees_items X.2.2.2.2.2.2.2.2.2.2.2.2.2.2.2.2.2.2.2.2.2.2.2.2.2.2.2.2.2.2.2.2.2.1 x_witnesses_corners_items X.2.2.2.2.2.2.2.2.2.2.2.2.2.2.2.2.2.2.2.2.2.2.2.2.2.2.2.2.2.2.2.2.2.2.2 x_witnesses_voices_items M.2.2.2.2.2.2.2.2.2.2.2.2.1 m_seenDecree m_seenAt m_seenSpoke X.2.1 x_book_items M.2.2.2.2.2.2.2.2.2.2.2.2.2.1 m_book := by
  obtain ⟨u, c, h, hT, hN, hSd, hPa, hI0, hI1, hTx, hF, hSe, hB⟩ := h
  obtain ⟨n, hn, t1, t2, hx⟩ := hTx
  subst t1 t2
  have H : tw_RTx n x_reader_letters_items m_text := ⟨hn, hx⟩
  obtain ⟨b, s1, s2, s3, s4, s5⟩ := tw_sk (a := 0) H (by omega)
  obtain ⟨F, A, here, cl, co, he, fc, beers, fp, pi, sa, nA, nC, nH, at', fi, beer, cold, pinched, says, stands, r1, r2, r3, r4, r5⟩ := tw_loopT H (al := m_t_all) (mco := m_t_corners) (mhe := m_t_hearers) (um := m_t_undoMany) (se := m_t_seen) (wr := m_t_written) (isKept := m_isKept) (w := m_w) 1000 0 0 b 0 0 0 (-1) m_t_first 0 x_draft_beers x_draft_firstPlaces x_draft_pinches x_draft_sayings m_beer m_cold m_pinched m_says m_stands (by omega) (by omega) s2 (by omega) s4 s5 (by omega) (by omega) (by omega) ⟨fun k hk => absurd hk (by omega), rfl⟩ (fun k hk => absurd hk (by omega))
  rw [nI_0] at r1 r2 s3
  have q1 : f_X4_readInto x_reader_here x_reader_faultNumber x_reader_faultAt (nI n) x_reader_letters_items x_draft_clauses x_draft_corners x_draft_hearers x_draft_firstColds x_draft_beers x_draft_firstPlaces x_draft_pinches x_draft_sayings = some (F, here, F, A, cl, co, he, fc, beers, fp, pi, sa) := by
    unfold f_X4_readInto f_X7_clear
    rw [Option.bind_some, s3, Option.bind_some]
    dsimp only
    exact r1
  rcases r3 with ⟨z, u', c', h', w1, w2, w3, w4, w5, w6, w7, w8, w9, rc, rh⟩ | ⟨z1, z2⟩
  · subst z w4 w5 w6 w7 w8 w9
    obtain ⟨beer2, cold2, isKept2, pinched2, says2, stands2, ww, k1, kb, kh, k9, k10, k11, k12, k13, k14, k15, kw, kp0, kp1⟩ := tw_take_all w2 m_t_all m_t_corners m_t_hearers (nI u') (nI h') m_t_undoMany m_t_seen m_t_written beer cold m_isKept pinched says stands m_w
    refine ⟨nI c', (A, 0, nI u', nI c', nI h', fc, 0, 0, -1, 0, 0, 0, fc, 0, here, 0, A, nI u', nI c', nI h', fc, beers, fp, pi, sa, 0, 0, (fun j => if j < 9 then (if j < 9 then fp j else x_ring_firstPlaces j) else x_now_places j), 0, (fun j => if j < 8 then beers j else x_ring_beers j), (fun j => if j < 9 then fp j else x_ring_firstPlaces j), (fun j => if j < 9 then pi j else x_ring_pinches j), (fun j => if j < 9 then sa j else x_ring_sayings j), 0, 0, 0), (nI u', nI c', nI h', nI u', nI c', nI h', 0, at', fi, 0, A, 0, 0, 0, beer2, cold2, isKept2, pinched2, says2, stands2, ww), ?_, ?_, ?_⟩
    · unfold f_X10_town f_X9_forget f_X5_clear f_X3_forget f_X10_forgetImages
      rw [q1, Option.bind_some, Option.bind_some]
      dsimp only
      rw [if_pos rfl, tw_bec7, Option.bind_some]
      dsimp only
      rw [tw_beg6]
      simp only [Option.bind_some]
    · unfold f_X11_town
      rw [r2]
      unfold f_X11_town_94
      rw [if_pos (show (0 : Int32) ≤ 0 by decide), k1]
      rfl
    · refine mkInv (u := u') (c := c') (h := h') ⟨w1, w2, w3, rfl, rfl, rfl, rfl, rfl, rfl, fun k hk => ?_, fun j hj => ?_⟩ (rs_mk0 k12.symm k13.symm k14.symm k15.symm k9.symm k10.symm ?_ (fun j hj => ?_) ⟨0, by decide, rfl⟩) ⟨hSd.1.trans (kw 16 (by omega)).symm, hSd.2⟩ ?_ ⟨kp0.symm, Or.inl rfl, fun z => absurd rfl z⟩ ⟨kp1.symm, Or.inl rfl, fun z => absurd rfl z⟩ ⟨0, by omega, rfl, rfl, fun j hj => absurd hj (by omega)⟩ rfl ⟨0, by omega, rfl, rfl, rfl, rfl, fun j hj => absurd hj (by omega)⟩ ⟨0, by omega, rfl, rfl, fun j hj => absurd hj (by omega)⟩
      · obtain ⟨a1, a2⟩ := rc.1 k hk
        show (if k < 8 then beers k else x_ring_beers k) = beer2 k ∧ ∃ b, b < 100 ∧ beer2 k = nI b
        rw [if_pos (by omega), kb k (by omega)]
        exact ⟨a1, a2⟩
      · obtain ⟨a1, a2, a3, q, a4, a5, a6⟩ := rh j hj
        obtain ⟨b1, b2, b3⟩ := kh j (by omega)
        show (if j < 9 then pi j else x_ring_pinches j) = pinched2 j ∧ (∃ x, x < 256 ∧ pinched2 j = nI x) ∧ ∃ q, q < 9 ∧ says2 j = nI q ∧ (if j < 9 then sa j else x_ring_sayings j) = if q = 8 then (-1 : Int32) else nI q
        rw [if_pos (by omega), if_pos (by omega), b1, b2]
        exact ⟨a2, a3, q, a4, a5, a6⟩
      · show fc = ww 11
        rw [k11, rc.2]
      · obtain ⟨a1, a2, a3, q, a4, a5, a6⟩ := rh j hj
        obtain ⟨b1, b2, b3⟩ := kh j (by omega)
        show (if j < 9 then (if j < 9 then fp j else x_ring_firstPlaces j) else x_now_places j) = ww j
        rw [if_pos (by omega), if_pos (by omega), b3]
        exact a1
      · obtain ⟨nx, ct, p1, p2, p3, p4, p5, p6⟩ := hPa
        exact ⟨nx, 0, p1, by omega, p3, rfl, rfl, fun j hj => absurd hj (by omega)⟩
  · have z3 : ¬ F ≤ 0 := Int32.not_le.mpr z2
    refine ⟨-10 - F, (A, x_book_count, cl, co, he, fc, x_now_rounds, x_now_months, x_now_law, x_now_holds, x_now_hoarse, x_now_keptIn, x_now_colds, x_past_count, here, F, A, x_ring_clauses, x_ring_corners, x_ring_hearers, x_ring_firstColds, beers, fp, pi, sa, x_images_i0_isTaken, x_images_i1_isTaken, x_now_places, 0, x_ring_beers, x_ring_firstPlaces, x_ring_pinches, x_ring_sayings, x_witnesses_corners_count, x_witnesses_decrees_count, x_witnesses_voices_count), (m_t_all, m_t_corners, m_t_hearers, nA, nC, nH, 0, at', fi, F, A, m_t_undoMany, m_t_seen, m_t_written, beer, cold, m_isKept, pinched, says, stands, m_w), ?_, ?_, ?_⟩
    · unfold f_X10_town f_X5_clear
      rw [q1, Option.bind_some, Option.bind_some]
      dsimp only
      rw [if_neg z1]
    · unfold f_X11_town
      rw [r2]
      unfold f_X11_town_94
      rw [if_neg z3]
    · obtain ⟨hu, hc, hh, e1, e2, e3, e4, e5, e6, hBr, hHr⟩ := hT
      refine mkInv (u := u) (c := c) (h := h) ⟨hu, hc, hh, e1, e2, e3, e4, e5, e6, fun k hk => ?_, fun j hj => ?_⟩ hN hSd hPa hI0 hI1 ⟨0, by omega, rfl, rfl, fun j hj => absurd hj (by omega)⟩ rfl hSe hB
      · show x_ring_beers k = beer k ∧ ∃ b, b < 100 ∧ beer k = nI b
        rw [r4 k (by omega)]
        exact hBr k hk
      · show x_ring_pinches j = pinched j ∧ (∃ x, x < 256 ∧ pinched j = nI x) ∧ ∃ q, q < 9 ∧ says j = nI q ∧ x_ring_sayings j = if q = 8 then (-1 : Int32) else nI q
        rw [(r5 j (by omega)).1, (r5 j (by omega)).2]
        exact hHr j hj
