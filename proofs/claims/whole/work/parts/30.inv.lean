/-! the relation between the class's state and the reference's -/
/-- the town -/
def RT (u c h : Nat) (clauses corners hearers : Int32) (beers pinches sayings : Nat → Int32) (all mco mhe : Int32) (beer pinched says : Nat → Int32) : Prop :=
  u < 256 ∧ c ≤ 8 ∧ h ≤ 9 ∧ clauses = nI u ∧ corners = nI c ∧ hearers = nI h ∧ all = nI u ∧ mco = nI c ∧ mhe = nI h ∧
  (∀ k, k < c → beers k = beer k ∧ ∃ b, b < 100 ∧ beer k = nI b) ∧
  (∀ j, j < h → pinches j = pinched j ∧ (∃ x, x < 256 ∧ pinched j = nI x) ∧ ∃ q, q < 9 ∧ says j = nI q ∧ sayings j = if q = 8 then (-1 : Int32) else nI q)
/-- a state: rounds, months, law, holds, hoarse, keptIn, colds in s, places in p; the reference's row at o -/
def RS (h : Nat) (s p w : Nat → Int32) (o : Nat) : Prop :=
  s 0 = w (o + 12) ∧ s 1 = w (o + 13) ∧ s 2 = w (o + 14) ∧ s 3 = w (o + 15) ∧ s 4 = w (o + 9) ∧ s 5 = w (o + 10) ∧ s 6 = w (o + 11) ∧ (∀ j, j < h → p j = w (o + j)) ∧ ∃ x, x < 512 ∧ s 4 = nI x
/-- the latest deeds: a ring here, a row of rows there -/
def RP (h : Nat) (next count : Int32) (S SP : Nat → Nat → Int32) (und : Int32) (w : Nat → Int32) : Prop :=
  ∃ nx ct : Nat, nx < 30 ∧ ct ≤ 30 ∧ next = nI nx ∧ count = nI ct ∧ und = nI ct ∧ ∀ j, j < ct → RS h (S ((nx + 30 - ct + j) % 30)) (SP ((nx + 30 - ct + j) % 30)) w (68 + 17 * j)
/-- an image -/
def RI (h : Nat) (seed taken : Int32) (s p : Nat → Int32) (kept : Int32) (w : Nat → Int32) (o : Nat) : Prop :=
  taken = kept ∧ (taken = 0 ∨ taken = 1) ∧ (¬ taken = 0 → RS h s p w o ∧ seed = w (o + 16) ∧ ∃ v, v < 2147483648 ∧ seed = nI v)
def RX (count : Int32) (items : Nat → Int32) (size : Int32) (text : Nat → Int32) : Prop :=
  ∃ n : Nat, n ≤ 230 ∧ count = nI n ∧ size = nI n ∧ ∀ j, j < n → items j = text j ∧ ∃ x, x < 256 ∧ text j = nI x
def RSe (dc : Int32) (d : Nat → Int32) (cc : Int32) (c : Nat → Int32) (vc : Int32) (v : Nat → Int32) (seen : Int32) (sd sa ss : Nat → Int32) : Prop :=
  ∃ n : Nat, n ≤ 6 ∧ dc = nI n ∧ cc = nI n ∧ vc = nI n ∧ seen = nI n ∧ ∀ j, j < n → d j = sd j ∧ c j = sa j ∧ v j = ss j ∧ (∃ x, x < 256 ∧ sd j = nI x) ∧ ∃ k, k < 8 ∧ sa j = nI k
def RB (count : Int32) (items : Nat → Int32) (written : Int32) (book : Nat → Int32) : Prop :=
  ∃ n : Nat, n ≤ 20 ∧ count = nI n ∧ written = nI n ∧ ∀ j, j < n → items j = book j
def Inv (x_ring_clauses : Int32) (x_ring_corners : Int32) (x_ring_hearers : Int32) (x_ring_beers : Nat → Int32) (x_ring_pinches : Nat → Int32) (x_ring_sayings : Nat → Int32) (m_t_all : Int32) (m_t_corners : Int32) (m_t_hearers : Int32) (m_beer : Nat → Int32) (m_pinched : Nat → Int32) (m_says : Nat → Int32) (x_now_rounds : Int32) (x_now_months : Int32) (x_now_law : Int32) (x_now_holds : Int32) (x_now_hoarse : Int32) (x_now_keptIn : Int32) (x_now_colds : Int32) (x_now_places : Nat → Int32) (m_w : Nat → Int32) (x_draws_value : Int32) (x_past_next : Int32) (x_past_count : Int32) (x_S : Nat → Nat → Int32) (x_SP : Nat → Nat → Int32) (m_t_undoMany : Int32) (x_images_i0_seedThen : Int32) (x_images_i0_isTaken : Int32) (x_images_i0_state_rounds : Int32) (x_images_i0_state_months : Int32) (x_images_i0_state_law : Int32) (x_images_i0_state_holds : Int32) (x_images_i0_state_hoarse : Int32) (x_images_i0_state_keptIn : Int32) (x_images_i0_state_colds : Int32) (x_images_i0_state_places : Nat → Int32) (x_images_i1_seedThen : Int32) (x_images_i1_isTaken : Int32) (x_images_i1_state_rounds : Int32) (x_images_i1_state_months : Int32) (x_images_i1_state_law : Int32) (x_images_i1_state_holds : Int32) (x_images_i1_state_hoarse : Int32) (x_images_i1_state_keptIn : Int32) (x_images_i1_state_colds : Int32) (x_images_i1_state_places : Nat → Int32) (m_isKept : Nat → Int32) (x_reader_letters_count : Int32) (x_reader_letters_items : Nat → Int32) (m_t_textSize : Int32) (m_text : Nat → Int32) (x_t_faultLetter : Int32) (m_t_fault : Int32) (x_witnesses_decrees_count : Int32) (x_witnesses_decrees_items : Nat → Int32) (x_witnesses_corners_count : Int32) (x_witnesses_corners_items : Nat → Int32) (x_witnesses_voices_count : Int32) (x_witnesses_voices_items : Nat → Int32) (m_t_seen : Int32) (m_seenDecree : Nat → Int32) (m_seenAt : Nat → Int32) (m_seenSpoke : Nat → Int32) (x_book_count : Int32) (x_book_items : Nat → Int32) (m_t_written : Int32) (m_book : Nat → Int32) : Prop :=
  ∃ u c h : Nat, RT u c h x_ring_clauses x_ring_corners x_ring_hearers x_ring_beers x_ring_pinches x_ring_sayings m_t_all m_t_corners m_t_hearers m_beer m_pinched m_says ∧
  RS h (srow x_now_rounds x_now_months x_now_law x_now_holds x_now_hoarse x_now_keptIn x_now_colds) x_now_places m_w 0 ∧
  (x_draws_value = m_w 16 ∧ ∃ v, v < 2147483648 ∧ x_draws_value = nI v) ∧
  RP h x_past_next x_past_count x_S x_SP m_t_undoMany m_w ∧
  RI h x_images_i0_seedThen x_images_i0_isTaken (srow x_images_i0_state_rounds x_images_i0_state_months x_images_i0_state_law x_images_i0_state_holds x_images_i0_state_hoarse x_images_i0_state_keptIn x_images_i0_state_colds) x_images_i0_state_places (m_isKept 0) m_w 34 ∧
  RI h x_images_i1_seedThen x_images_i1_isTaken (srow x_images_i1_state_rounds x_images_i1_state_months x_images_i1_state_law x_images_i1_state_holds x_images_i1_state_hoarse x_images_i1_state_keptIn x_images_i1_state_colds) x_images_i1_state_places (m_isKept 1) m_w 51 ∧
  RX x_reader_letters_count x_reader_letters_items m_t_textSize m_text ∧ x_t_faultLetter = m_t_fault ∧
  RSe x_witnesses_decrees_count x_witnesses_decrees_items x_witnesses_corners_count x_witnesses_corners_items x_witnesses_voices_count x_witnesses_voices_items m_t_seen m_seenDecree m_seenAt m_seenSpoke ∧
  RB x_book_count x_book_items m_t_written m_book
