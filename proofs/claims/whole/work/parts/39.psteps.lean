set_option maxRecDepth 10000 in
theorem P_init : Rel 0 0 (fun _ => 0) 0 5 (fun _ => 0) (fun _ => 0) (fun _ => 0) (fun _ => 0) (fun _ => 0) (fun _ => 0) 0 0 0 0 (fun _ => 0) (fun _ => 0) 0 0 0 0 0 (fun _ => 0) (fun _ => 0) 0 0 0 0 0 (fun _ => 0) (fun _ => 0) 0 (fun _ => 0) (fun _ => 0) 0 0 (fun _ => 0) 0 5 0 0 0 0 0 0 0 (fun _ => 0) (fun _ => 0) (fun _ => 0) (fun _ => 0) (fun _ => 0) (fun _ => 0) (fun _ => 0) (fun _ => 0) (fun _ => 0) (fun _ => 0) (fun _ => 0) (fun _ => 0) (fun _ => 0) := by
  exact ⟨⟨0, fun _ => 0, by decide, rfl, rfl, fun j hj => absurd hj (Nat.not_lt_zero j)⟩, ⟨5, by decide, rfl, rfl⟩, ⟨0, fun _ => 0, fun _ => 0, fun _ => 0, fun _ => 0, fun _ => 0, fun _ => 0, fun _ => 0, fun _ => 0, ⟨by decide, rfl, rfl, fun p hp => absurd hp (Nat.not_lt_zero p)⟩, fun p hp => absurd hp (Nat.not_lt_zero p), ⟨rfl, Or.inl rfl, fun e => absurd e (by decide)⟩, ⟨rfl, Or.inl rfl, fun e => absurd e (by decide)⟩⟩, ⟨rfl, rfl, rfl, rfl⟩, ⟨0, fun _ => 0, fun _ => 0, by decide, rfl, rfl, fun i hi => absurd hi (Nat.not_lt_zero i)⟩, ⟨0, 0, fun _ => 0, by decide, by decide, rfl, rfl, rfl, fun i hi => absurd hi (Nat.not_lt_zero i)⟩⟩
set_option maxHeartbeats 1000000 in
set_option maxRecDepth 10000 in
theorem P_write (N : Nat) (hN : N < 4000) (tx_length : Int32) (tx_bytes : Nat → Int32) (ro_pupils : Int32) (ro_mood : Int32) (ro_letters : Nat → Int32) (ro_rows : Nat → Int32) (ro_columns : Nat → Int32) (ro_tenths : Nat → Int32) (ro_needs : Nat → Int32) (ro_toldDares : Nat → Int32) (le_seed : Int64) (le_questions : Int32) (le_rightOnes : Int32) (le_wrongOnes : Int32) (le_isKept : Int32) (le_dares : Nat → Int32) (le_times : Nat → Int32) (ha_cells : Nat → Int64) (ch_pupils : Int32) (ch_rule : Int32) (ch_ranks : Nat → Int32) (ch_eligible : Nat → Int32) (ch_eligibleAndRight : Nat → Int32) (ch_cells : Nat → Int64) (s1_seed : Int64) (s1_questions : Int32) (s1_rightOnes : Int32) (s1_wrongOnes : Int32) (s1_isKept : Int32) (s1_dares : Nat → Int32) (s1_times : Nat → Int32) (s2_seed : Int64) (s2_questions : Int32) (s2_rightOnes : Int32) (s2_wrongOnes : Int32) (s2_isKept : Int32) (s2_dares : Nat → Int32) (s2_times : Nat → Int32) (ta_size : Int32) (ta_hands : Nat → Int32) (ta_ones : Nat → Int32) (ta_cells : Nat → Int64) (tr_waited : Int32) (tr_size : Int32) (tr_hands : Nat → Int32) (m_readMany : Int32) (m_pupils : Int32) (m_mood : Int32) (m_length : Int32) (m_at : Int32) (m_faultAt : Int32) (m_drawn : Int64) (m_questions : Int32) (m_rights : Int32) (m_wrongs : Int32) (m_tapes : Int32) (m_trials : Int32) (m_read : Nat → Int32) (m_pupil : Nat → Int32) (m_dares : Nat → Int32) (m_times : Nat → Int32) (m_text : Nat → Int32) (m_joint : Nat → Int64) (m_others : Nat → Int64) (m_tapeHands : Nat → Int32) (m_tapeTaken : Nat → Int32) (m_trialHands : Nat → Int32) (m_trialWaited : Nat → Int32) (m_isKept : Nat → Int32) (m_keptDares : Nat → Int32) (m_keptTimes : Nat → Int32) (m_keptDrawn : Nat → Int64) (m_keptLesson : Nat → Int32) (p1 : Int32) (p2 : Int64) (hR : Rel N tx_length tx_bytes ro_pupils ro_mood ro_letters ro_rows ro_columns ro_tenths ro_needs ro_toldDares le_seed le_questions le_rightOnes le_wrongOnes le_dares le_times s1_seed s1_questions s1_rightOnes s1_wrongOnes s1_isKept s1_dares s1_times s2_seed s2_questions s2_rightOnes s2_wrongOnes s2_isKept s2_dares s2_times ta_size ta_hands ta_ones tr_waited tr_size tr_hands m_pupils m_mood m_length m_drawn m_questions m_rights m_wrongs m_tapes m_trials m_pupil m_dares m_times m_text m_tapeHands m_tapeTaken m_trialHands m_trialWaited m_isKept m_keptDares m_keptTimes m_keptDrawn m_keptLesson) : ∃ (u : Int32 × (Nat → Int32) × Int32) (v : Int32 × (Nat → Int32) × Int32), FX8_write tx_length tx_bytes p1 p2 = some u ∧ FX9_write m_length m_text p1 p2 = some v ∧ u.1 = v.1 ∧ Rel (N + 1) u.2.2 u.2.1 ro_pupils ro_mood ro_letters ro_rows ro_columns ro_tenths ro_needs ro_toldDares le_seed le_questions le_rightOnes le_wrongOnes le_dares le_times s1_seed s1_questions s1_rightOnes s1_wrongOnes s1_isKept s1_dares s1_times s2_seed s2_questions s2_rightOnes s2_wrongOnes s2_isKept s2_dares s2_times ta_size ta_hands ta_ones tr_waited tr_size tr_hands m_pupils m_mood v.2.2 m_drawn m_questions m_rights m_wrongs m_tapes m_trials m_pupil m_dares m_times v.2.1 m_tapeHands m_tapeTaken m_trialHands m_trialWaited m_isKept m_keptDares m_keptTimes m_keptDrawn m_keptLesson := by
  obtain ⟨hTx, hr⟩ := Rel_mono hR (Nat.le_succ N)
  rcases rng p1 1 8 1 8 1 8 rfl rfl rfl rfl (by decide) (by decide) with ⟨g8, g9⟩ | ⟨k, hk1, hk, rfl, g8, g9⟩
  · exact ⟨(-2, tx_bytes, tx_length), (-2, m_text, m_length), by unfold FX8_write; rw [if_pos g8], by unfold FX9_write; rw [if_neg g9], rfl, hTx, hr⟩
  · obtain ⟨X, hX, rfl⟩ := wb_of p2
    have hTx0 := hTx
    obtain ⟨n, b, hn, htl, hml, hb⟩ := hTx0
    by_cases c : n + k ≤ 72
    · have c8 : tx_length + nI k ≤ (72 : Int32) := by rw [htl, nI_add]; exact nI_le c (by decide)
      have c9 : m_length + nI k ≤ (72 : Int32) := by rw [hml, nI_add]; exact nI_le c (by decide)
      refine ⟨(nI (n + k), wrB X n k tx_bytes 0, nI (n + k)), (nI (n + k), wrB X n k m_text 0, nI (n + k)), ?_, ?_, rfl, ⟨n + k, fun j => if n ≤ j then X / 2 ^ (8 * (k - 1 - (j - n))) % 256 else b j, c, rfl, rfl, fun j hj => ?_⟩, hr⟩
      · unfold FX8_write FX6_append
        rw [if_neg g8, if_pos c8, htl, wr8 hX hk c]
        rfl
      · unfold FX9_write
        rw [if_pos g9, if_pos c9, hml, wr9 hk c]
        rfl
      · by_cases cj : n ≤ j
        · have h1 : n ≤ j ∧ j < n + (k - 0) := by omega
          simp only [if_pos cj, wrB, if_pos h1]
          exact ⟨Nat.mod_lt _ (by decide), trivial, trivial⟩
        · have h1 : ¬ (n ≤ j ∧ j < n + (k - 0)) := by omega
          simp only [if_neg cj, wrB, if_neg h1]
          exact hb j (by omega)
    · have c8 : ¬ tx_length + nI k ≤ (72 : Int32) := by rw [htl, nI_add]; exact nI_ge (show 72 < n + k by omega) (by omega)
      have c9 : ¬ m_length + nI k ≤ (72 : Int32) := by rw [hml, nI_add]; exact nI_ge (show 72 < n + k by omega) (by omega)
      exact ⟨(-4, tx_bytes, tx_length), (-4, m_text, m_length), by unfold FX8_write FX6_append; rw [if_neg g8, if_neg c8]; rfl, by unfold FX9_write; rw [if_pos g9, if_neg c9], rfl, hTx, hr⟩
set_option maxHeartbeats 1000000 in
set_option maxRecDepth 10000 in
theorem P_wipe (N : Nat) (hN : N < 4000) (tx_length : Int32) (tx_bytes : Nat → Int32) (ro_pupils : Int32) (ro_mood : Int32) (ro_letters : Nat → Int32) (ro_rows : Nat → Int32) (ro_columns : Nat → Int32) (ro_tenths : Nat → Int32) (ro_needs : Nat → Int32) (ro_toldDares : Nat → Int32) (le_seed : Int64) (le_questions : Int32) (le_rightOnes : Int32) (le_wrongOnes : Int32) (le_isKept : Int32) (le_dares : Nat → Int32) (le_times : Nat → Int32) (ha_cells : Nat → Int64) (ch_pupils : Int32) (ch_rule : Int32) (ch_ranks : Nat → Int32) (ch_eligible : Nat → Int32) (ch_eligibleAndRight : Nat → Int32) (ch_cells : Nat → Int64) (s1_seed : Int64) (s1_questions : Int32) (s1_rightOnes : Int32) (s1_wrongOnes : Int32) (s1_isKept : Int32) (s1_dares : Nat → Int32) (s1_times : Nat → Int32) (s2_seed : Int64) (s2_questions : Int32) (s2_rightOnes : Int32) (s2_wrongOnes : Int32) (s2_isKept : Int32) (s2_dares : Nat → Int32) (s2_times : Nat → Int32) (ta_size : Int32) (ta_hands : Nat → Int32) (ta_ones : Nat → Int32) (ta_cells : Nat → Int64) (tr_waited : Int32) (tr_size : Int32) (tr_hands : Nat → Int32) (m_readMany : Int32) (m_pupils : Int32) (m_mood : Int32) (m_length : Int32) (m_at : Int32) (m_faultAt : Int32) (m_drawn : Int64) (m_questions : Int32) (m_rights : Int32) (m_wrongs : Int32) (m_tapes : Int32) (m_trials : Int32) (m_read : Nat → Int32) (m_pupil : Nat → Int32) (m_dares : Nat → Int32) (m_times : Nat → Int32) (m_text : Nat → Int32) (m_joint : Nat → Int64) (m_others : Nat → Int64) (m_tapeHands : Nat → Int32) (m_tapeTaken : Nat → Int32) (m_trialHands : Nat → Int32) (m_trialWaited : Nat → Int32) (m_isKept : Nat → Int32) (m_keptDares : Nat → Int32) (m_keptTimes : Nat → Int32) (m_keptDrawn : Nat → Int64) (m_keptLesson : Nat → Int32)  (hR : Rel N tx_length tx_bytes ro_pupils ro_mood ro_letters ro_rows ro_columns ro_tenths ro_needs ro_toldDares le_seed le_questions le_rightOnes le_wrongOnes le_dares le_times s1_seed s1_questions s1_rightOnes s1_wrongOnes s1_isKept s1_dares s1_times s2_seed s2_questions s2_rightOnes s2_wrongOnes s2_isKept s2_dares s2_times ta_size ta_hands ta_ones tr_waited tr_size tr_hands m_pupils m_mood m_length m_drawn m_questions m_rights m_wrongs m_tapes m_trials m_pupil m_dares m_times m_text m_tapeHands m_tapeTaken m_trialHands m_trialWaited m_isKept m_keptDares m_keptTimes m_keptDrawn m_keptLesson) : ∃ (u : Int32 × Int32) (v : Int32 × Int32), FX8_wipe tx_length = u ∧ FX9_wipe m_length = v ∧ u.1 = v.1 ∧ Rel (N + 1) u.2 tx_bytes ro_pupils ro_mood ro_letters ro_rows ro_columns ro_tenths ro_needs ro_toldDares le_seed le_questions le_rightOnes le_wrongOnes le_dares le_times s1_seed s1_questions s1_rightOnes s1_wrongOnes s1_isKept s1_dares s1_times s2_seed s2_questions s2_rightOnes s2_wrongOnes s2_isKept s2_dares s2_times ta_size ta_hands ta_ones tr_waited tr_size tr_hands m_pupils m_mood v.2 m_drawn m_questions m_rights m_wrongs m_tapes m_trials m_pupil m_dares m_times m_text m_tapeHands m_tapeTaken m_trialHands m_trialWaited m_isKept m_keptDares m_keptTimes m_keptDrawn m_keptLesson := by
  obtain ⟨⟨n, b, h1, h2, h3, h4⟩, hr⟩ := Rel_mono hR (Nat.le_succ N)
  exact ⟨(tx_length, 0), (m_length, 0), rfl, rfl, by show tx_length = m_length; rw [h2, h3], ⟨0, b, by decide, rfl, rfl, fun j hj => absurd hj (Nat.not_lt_zero j)⟩, hr⟩
set_option maxHeartbeats 1000000 in
set_option maxRecDepth 10000 in
theorem P_fault (N : Nat) (hN : N < 4000) (tx_length : Int32) (tx_bytes : Nat → Int32) (ro_pupils : Int32) (ro_mood : Int32) (ro_letters : Nat → Int32) (ro_rows : Nat → Int32) (ro_columns : Nat → Int32) (ro_tenths : Nat → Int32) (ro_needs : Nat → Int32) (ro_toldDares : Nat → Int32) (le_seed : Int64) (le_questions : Int32) (le_rightOnes : Int32) (le_wrongOnes : Int32) (le_isKept : Int32) (le_dares : Nat → Int32) (le_times : Nat → Int32) (ha_cells : Nat → Int64) (ch_pupils : Int32) (ch_rule : Int32) (ch_ranks : Nat → Int32) (ch_eligible : Nat → Int32) (ch_eligibleAndRight : Nat → Int32) (ch_cells : Nat → Int64) (s1_seed : Int64) (s1_questions : Int32) (s1_rightOnes : Int32) (s1_wrongOnes : Int32) (s1_isKept : Int32) (s1_dares : Nat → Int32) (s1_times : Nat → Int32) (s2_seed : Int64) (s2_questions : Int32) (s2_rightOnes : Int32) (s2_wrongOnes : Int32) (s2_isKept : Int32) (s2_dares : Nat → Int32) (s2_times : Nat → Int32) (ta_size : Int32) (ta_hands : Nat → Int32) (ta_ones : Nat → Int32) (ta_cells : Nat → Int64) (tr_waited : Int32) (tr_size : Int32) (tr_hands : Nat → Int32) (m_readMany : Int32) (m_pupils : Int32) (m_mood : Int32) (m_length : Int32) (m_at : Int32) (m_faultAt : Int32) (m_drawn : Int64) (m_questions : Int32) (m_rights : Int32) (m_wrongs : Int32) (m_tapes : Int32) (m_trials : Int32) (m_read : Nat → Int32) (m_pupil : Nat → Int32) (m_dares : Nat → Int32) (m_times : Nat → Int32) (m_text : Nat → Int32) (m_joint : Nat → Int64) (m_others : Nat → Int64) (m_tapeHands : Nat → Int32) (m_tapeTaken : Nat → Int32) (m_trialHands : Nat → Int32) (m_trialWaited : Nat → Int32) (m_isKept : Nat → Int32) (m_keptDares : Nat → Int32) (m_keptTimes : Nat → Int32) (m_keptDrawn : Nat → Int64) (m_keptLesson : Nat → Int32)  (hR : Rel N tx_length tx_bytes ro_pupils ro_mood ro_letters ro_rows ro_columns ro_tenths ro_needs ro_toldDares le_seed le_questions le_rightOnes le_wrongOnes le_dares le_times s1_seed s1_questions s1_rightOnes s1_wrongOnes s1_isKept s1_dares s1_times s2_seed s2_questions s2_rightOnes s2_wrongOnes s2_isKept s2_dares s2_times ta_size ta_hands ta_ones tr_waited tr_size tr_hands m_pupils m_mood m_length m_drawn m_questions m_rights m_wrongs m_tapes m_trials m_pupil m_dares m_times m_text m_tapeHands m_tapeTaken m_trialHands m_trialWaited m_isKept m_keptDares m_keptTimes m_keptDrawn m_keptLesson) : ∃ (u : Int32) (v : Int32 × Int32 × Int32 × Int32 × (Nat → Int32)), FX8_fault tx_length tx_bytes = some u ∧ FX9_fault m_length m_read m_text = some v ∧ u = v.1 ∧ Rel (N + 1) tx_length tx_bytes ro_pupils ro_mood ro_letters ro_rows ro_columns ro_tenths ro_needs ro_toldDares le_seed le_questions le_rightOnes le_wrongOnes le_dares le_times s1_seed s1_questions s1_rightOnes s1_wrongOnes s1_isKept s1_dares s1_times s2_seed s2_questions s2_rightOnes s2_wrongOnes s2_isKept s2_dares s2_times ta_size ta_hands ta_ones tr_waited tr_size tr_hands m_pupils m_mood m_length m_drawn m_questions m_rights m_wrongs m_tapes m_trials m_pupil m_dares m_times m_text m_tapeHands m_tapeTaken m_trialHands m_trialWaited m_isKept m_keptDares m_keptTimes m_keptDrawn m_keptLesson := by
  have hR' := Rel_mono hR (Nat.le_succ N)
  obtain ⟨⟨n, b, hn, htl, hml, hb⟩, -⟩ := hR
  have hb8 : ∀ j, j < n → b j < 256 ∧ tx_bytes j = nI (b j) := fun j hj => ⟨(hb j hj).1, (hb j hj).2.1⟩
  have hb9 : ∀ j, j < n → b j < 256 ∧ m_text j = nI (b j) := fun j hj => ⟨(hb j hj).1, (hb j hj).2.2⟩
  obtain ⟨F, h1, h2, h3⟩ := firstF (okN b) n
  obtain ⟨a, q, rd2, k1, -⟩ := read_n hn hb9 h1 h2 h3 m_read
  refine ⟨fauN n F, (fauN n F, a, fauN n F, q, rd2), ?_, ?_, rfl, hR'⟩
  · unfold FX8_fault
    rw [htl, fau8 hn hb8 h1 h2 h3]
    rfl
  · unfold FX9_fault
    rw [hml, k1]
    rfl
set_option maxHeartbeats 1000000 in
set_option maxRecDepth 10000 in
theorem P_room (N : Nat) (hN : N < 4000) (tx_length : Int32) (tx_bytes : Nat → Int32) (ro_pupils : Int32) (ro_mood : Int32) (ro_letters : Nat → Int32) (ro_rows : Nat → Int32) (ro_columns : Nat → Int32) (ro_tenths : Nat → Int32) (ro_needs : Nat → Int32) (ro_toldDares : Nat → Int32) (le_seed : Int64) (le_questions : Int32) (le_rightOnes : Int32) (le_wrongOnes : Int32) (le_isKept : Int32) (le_dares : Nat → Int32) (le_times : Nat → Int32) (ha_cells : Nat → Int64) (ch_pupils : Int32) (ch_rule : Int32) (ch_ranks : Nat → Int32) (ch_eligible : Nat → Int32) (ch_eligibleAndRight : Nat → Int32) (ch_cells : Nat → Int64) (s1_seed : Int64) (s1_questions : Int32) (s1_rightOnes : Int32) (s1_wrongOnes : Int32) (s1_isKept : Int32) (s1_dares : Nat → Int32) (s1_times : Nat → Int32) (s2_seed : Int64) (s2_questions : Int32) (s2_rightOnes : Int32) (s2_wrongOnes : Int32) (s2_isKept : Int32) (s2_dares : Nat → Int32) (s2_times : Nat → Int32) (ta_size : Int32) (ta_hands : Nat → Int32) (ta_ones : Nat → Int32) (ta_cells : Nat → Int64) (tr_waited : Int32) (tr_size : Int32) (tr_hands : Nat → Int32) (m_readMany : Int32) (m_pupils : Int32) (m_mood : Int32) (m_length : Int32) (m_at : Int32) (m_faultAt : Int32) (m_drawn : Int64) (m_questions : Int32) (m_rights : Int32) (m_wrongs : Int32) (m_tapes : Int32) (m_trials : Int32) (m_read : Nat → Int32) (m_pupil : Nat → Int32) (m_dares : Nat → Int32) (m_times : Nat → Int32) (m_text : Nat → Int32) (m_joint : Nat → Int64) (m_others : Nat → Int64) (m_tapeHands : Nat → Int32) (m_tapeTaken : Nat → Int32) (m_trialHands : Nat → Int32) (m_trialWaited : Nat → Int32) (m_isKept : Nat → Int32) (m_keptDares : Nat → Int32) (m_keptTimes : Nat → Int32) (m_keptDrawn : Nat → Int64) (m_keptLesson : Nat → Int32)  (hR : Rel N tx_length tx_bytes ro_pupils ro_mood ro_letters ro_rows ro_columns ro_tenths ro_needs ro_toldDares le_seed le_questions le_rightOnes le_wrongOnes le_dares le_times s1_seed s1_questions s1_rightOnes s1_wrongOnes s1_isKept s1_dares s1_times s2_seed s2_questions s2_rightOnes s2_wrongOnes s2_isKept s2_dares s2_times ta_size ta_hands ta_ones tr_waited tr_size tr_hands m_pupils m_mood m_length m_drawn m_questions m_rights m_wrongs m_tapes m_trials m_pupil m_dares m_times m_text m_tapeHands m_tapeTaken m_trialHands m_trialWaited m_isKept m_keptDares m_keptTimes m_keptDrawn m_keptLesson) : ∃ (u : Int32 × Int32 × (Nat → Int32) × Int64 × Int32 × Int32 × Int32 × (Nat → Int32) × (Nat → Int32) × (Nat → Int32) × (Nat → Int32) × (Nat → Int32) × (Nat → Int32) × (Nat → Int32) × Int32 × Int32) (v : Int32 × Int32 × Int32 × Int32 × (Nat → Int32) × (Nat → Int32) × Int32 × (Nat → Int32) × (Nat → Int32) × Int64 × Int32 × Int32 × Int32 × (Nat → Int32)), FX8_room tx_length tx_bytes ro_pupils ro_letters ro_rows ro_columns ro_tenths ro_needs ro_toldDares le_seed le_questions le_rightOnes le_wrongOnes le_dares le_times s1_isKept s2_isKept = some u ∧ FX9_room m_pupils m_length m_drawn m_questions m_rights m_wrongs m_read m_text m_pupil m_dares m_times m_isKept = some v ∧ u.1 = v.1 ∧ Rel (N + 1) tx_length tx_bytes u.2.1 ro_mood u.2.2.2.2.2.2.2.1 u.2.2.2.2.2.2.2.2.1 u.2.2.2.2.2.2.2.2.2.1 u.2.2.2.2.2.2.2.2.2.2.1 u.2.2.2.2.2.2.2.2.2.2.2.1 u.2.2.2.2.2.2.2.2.2.2.2.2.1 u.2.2.2.1 u.2.2.2.2.1 u.2.2.2.2.2.1 u.2.2.2.2.2.2.1 u.2.2.2.2.2.2.2.2.2.2.2.2.2.1 u.2.2.1 s1_seed s1_questions s1_rightOnes s1_wrongOnes u.2.2.2.2.2.2.2.2.2.2.2.2.2.2.1 s1_dares s1_times s2_seed s2_questions s2_rightOnes s2_wrongOnes u.2.2.2.2.2.2.2.2.2.2.2.2.2.2.2 s2_dares s2_times ta_size ta_hands ta_ones tr_waited tr_size tr_hands v.2.2.2.2.2.2.1 m_mood m_length v.2.2.2.2.2.2.2.2.2.1 v.2.2.2.2.2.2.2.2.2.2.1 v.2.2.2.2.2.2.2.2.2.2.2.1 v.2.2.2.2.2.2.2.2.2.2.2.2.1 m_tapes m_trials v.2.2.2.2.2.1 v.2.2.2.2.2.2.2.1 v.2.2.2.2.2.2.2.2.1 m_text m_tapeHands m_tapeTaken m_trialHands m_trialWaited v.2.2.2.2.2.2.2.2.2.2.2.2.2 m_keptDares m_keptTimes m_keptDrawn m_keptLesson := by
  have hR' := Rel_mono hR (Nat.le_succ N)
  obtain ⟨hTx, hM, ⟨P0, r0, c0, k0, q0, d0, f0, da0, ti0, hRo, hle, hs1, hs2⟩, hL, hTa, hTr⟩ := hR'
  have hTx0 := hTx
  obtain ⟨n, b, hn, htl, hml, hb⟩ := hTx0
  have hb8 : ∀ j, j < n → b j < 256 ∧ tx_bytes j = nI (b j) := fun j hj => ⟨(hb j hj).1, (hb j hj).2.1⟩
  have hb9 : ∀ j, j < n → b j < 256 ∧ m_text j = nI (b j) := fun j hj => ⟨(hb j hj).1, (hb j hj).2.2⟩
  obtain ⟨F, h1, h2, h3⟩ := firstF (okN b) n
  obtain ⟨a, qq, rd2, k1, k2⟩ := read_n hn hb9 h1 h2 h3 m_read
  have k8 := fau8 hn hb8 h1 h2 h3
  by_cases hc : F = n ∧ n % 6 = 0
  · have hf : fauN n F = -9 := by unfold fauN; rw [if_pos hc]
    obtain ⟨hFn, h6⟩ := hc
    obtain ⟨hq, hrd⟩ := k2 ⟨hFn, h6⟩
    rw [hFn] at h2
    have ks := seat8 (F := F) hn hb8 h6 h2 le_times ro_letters ro_rows ro_columns ro_tenths ro_needs ro_toldDares le_dares
    rw [hf] at k1 k8
    refine ⟨(nI (n / 6), nI (n / 6), gfill le_times 12 0, (0 : Int64), (0 : Int32), (0 : Int32), (0 : Int32), cpN (n / 6) (fun p => nI (b (6 * p))) ro_letters, cpN (n / 6) (fun p => nI (fg b (6 * p + 1))) ro_rows, cpN (n / 6) (fun p => nI (fg b (6 * p + 2))) ro_columns, cpN (n / 6) (fun p => nI (fg b (6 * p + 3))) ro_tenths, cpN (n / 6) (fun p => nI (fg b (6 * p + 4))) ro_needs, cpN (n / 6) (fun p => nI (fg b (6 * p + 5))) ro_toldDares, cpN (n / 6) (fun p => nI (fg b (6 * p + 5))) le_dares, (0 : Int32), (0 : Int32)), (qq, a, (-9 : Int32), qq, rd2, cpN 72 rd2 m_pupil, qq, cpN 12 (fun p => cpN 72 rd2 m_pupil (6 * p + 4)) m_dares, cpN 12 (fun _ => (0 : Int32)) m_times, (0 : Int64), (0 : Int32), (0 : Int32), (0 : Int32), upd (upd m_isKept 0 0) 1 0), ?_, ?_, ?_, hTx, hM, ⟨n / 6, fun p => fg b (6 * p + 1), fun p => fg b (6 * p + 2), fun p => fg b (6 * p + 3), fun p => fg b (6 * p + 4), fun p => fg b (6 * p + 5), fun p => if b (6 * p) = 70 then 1 else 0, fun p => fg b (6 * p + 5), fun _ => 0, ⟨by omega, rfl, hq, fun p hp => ?_⟩, fun p hp => ?_, ⟨?_, Or.inl rfl, fun e => absurd (show (0 : Int32) = 1 from e) (by decide)⟩, ⟨?_, Or.inl rfl, fun e => absurd (show (0 : Int32) = 1 from e) (by decide)⟩⟩, ⟨rfl, rfl, rfl, rfl⟩, hTa, hTr⟩
    · unfold FX8_room
      rw [htl, k8, Option.bind_some, if_pos rfl, ks]
      rfl
    · unfold FX9_room
      rw [hml, k1, Option.bind_some]
      dsimp only
      rw [if_pos rfl, room9a, Option.bind_some, room9b, Option.bind_some, bool0]
      rfl
    · exact hq.symm
    · obtain ⟨a1, a2, -⟩ := ok_1 (h2 (6 * p + 1) (by omega))
      obtain ⟨a3, a4, -⟩ := ok_2 (h2 (6 * p + 2) (by omega))
      have a5 := ok_3 (j := 6 * p + 3) (by omega) (h2 (6 * p + 3) (by omega))
      have a6 := ok_3 (j := 6 * p + 4) (by omega) (h2 (6 * p + 4) (by omega))
      have a7 := ok_3 (j := 6 * p + 5) (by omega) (h2 (6 * p + 5) (by omega))
      have hl := ok_0 (h2 (6 * p) (by omega))
      obtain ⟨q1, q2, q3, q4, q5, q6⟩ := hrd p hp
      dsimp only
      rw [cpN_at hp, cpN_at hp, cpN_at hp, cpN_at hp, cpN_at hp, cpN_at hp, cpN_at (by omega), cpN_at (by omega), cpN_at (by omega), cpN_at (by omega), cpN_at (by omega), cpN_at (by omega), q1, q2, q3, q4, q5, q6]
      refine ⟨⟨by unfold fg; omega, by unfold fg; omega, by unfold fg; omega, by unfold fg; omega, by unfold fg; omega, ?_⟩, ?_, ⟨rfl, rfl, rfl, rfl, rfl⟩, rfl, rfl, rfl, rfl, rfl, ?_⟩
      · by_cases c : b (6 * p) = 70
        · rw [if_pos c]; decide
        · rw [if_neg c]; decide
      · show nI (b (6 * p)) = if (if b (6 * p) = 70 then (1 : Nat) else 0) = 1 then (70 : Int32) else 80
        by_cases c : b (6 * p) = 70
        · rw [if_pos c, if_pos rfl, c]; rfl
        · have c8 : b (6 * p) = 80 := hl.resolve_right c
          rw [if_neg c, if_neg (by decide), c8]; rfl
      · by_cases c : b (6 * p) = 70
        · rw [if_pos c, if_pos c]; rfl
        · rw [if_neg c, if_neg c]; rfl
    · have a7 := ok_3 (j := 6 * p + 5) (by omega) (h2 (6 * p + 5) (by omega))
      obtain ⟨q1, q2, q3, q4, q5, q6⟩ := hrd p hp
      dsimp only
      rw [cpN_at hp, cpN_at (n := 12) (by omega), cpN_at (n := 12) (by omega), gfill_at (by omega), cpN_at (n := 72) (by omega), q5]
      exact ⟨by unfold fg; omega, Nat.zero_le _, rfl, rfl, rfl, rfl⟩
    · dsimp only
      rw [upd_n (by decide), upd_s]
    · dsimp only
      rw [upd_s]
  · have hf : ¬ fauN n F = -9 := by unfold fauN; rw [if_neg hc]; exact nne9 (by omega)
    refine ⟨(-3, ro_pupils, le_times, le_seed, le_questions, le_rightOnes, le_wrongOnes, ro_letters, ro_rows, ro_columns, ro_tenths, ro_needs, ro_toldDares, le_dares, s1_isKept, s2_isKept), (-3, a, fauN n F, qq, rd2, m_pupil, m_pupils, m_dares, m_times, m_drawn, m_questions, m_rights, m_wrongs, m_isKept), ?_, ?_, rfl, hTx, hM, ⟨P0, r0, c0, k0, q0, d0, f0, da0, ti0, hRo, hle, hs1, hs2⟩, hL, hTa, hTr⟩
    · unfold FX8_room
      rw [htl, k8, Option.bind_some, if_neg hf]
    · unfold FX9_room
      rw [hml, k1, Option.bind_some]
      dsimp only
      rw [if_neg hf]
set_option maxHeartbeats 1000000 in
set_option maxRecDepth 10000 in
theorem P_about (N : Nat) (hN : N < 4000) (tx_length : Int32) (tx_bytes : Nat → Int32) (ro_pupils : Int32) (ro_mood : Int32) (ro_letters : Nat → Int32) (ro_rows : Nat → Int32) (ro_columns : Nat → Int32) (ro_tenths : Nat → Int32) (ro_needs : Nat → Int32) (ro_toldDares : Nat → Int32) (le_seed : Int64) (le_questions : Int32) (le_rightOnes : Int32) (le_wrongOnes : Int32) (le_isKept : Int32) (le_dares : Nat → Int32) (le_times : Nat → Int32) (ha_cells : Nat → Int64) (ch_pupils : Int32) (ch_rule : Int32) (ch_ranks : Nat → Int32) (ch_eligible : Nat → Int32) (ch_eligibleAndRight : Nat → Int32) (ch_cells : Nat → Int64) (s1_seed : Int64) (s1_questions : Int32) (s1_rightOnes : Int32) (s1_wrongOnes : Int32) (s1_isKept : Int32) (s1_dares : Nat → Int32) (s1_times : Nat → Int32) (s2_seed : Int64) (s2_questions : Int32) (s2_rightOnes : Int32) (s2_wrongOnes : Int32) (s2_isKept : Int32) (s2_dares : Nat → Int32) (s2_times : Nat → Int32) (ta_size : Int32) (ta_hands : Nat → Int32) (ta_ones : Nat → Int32) (ta_cells : Nat → Int64) (tr_waited : Int32) (tr_size : Int32) (tr_hands : Nat → Int32) (m_readMany : Int32) (m_pupils : Int32) (m_mood : Int32) (m_length : Int32) (m_at : Int32) (m_faultAt : Int32) (m_drawn : Int64) (m_questions : Int32) (m_rights : Int32) (m_wrongs : Int32) (m_tapes : Int32) (m_trials : Int32) (m_read : Nat → Int32) (m_pupil : Nat → Int32) (m_dares : Nat → Int32) (m_times : Nat → Int32) (m_text : Nat → Int32) (m_joint : Nat → Int64) (m_others : Nat → Int64) (m_tapeHands : Nat → Int32) (m_tapeTaken : Nat → Int32) (m_trialHands : Nat → Int32) (m_trialWaited : Nat → Int32) (m_isKept : Nat → Int32) (m_keptDares : Nat → Int32) (m_keptTimes : Nat → Int32) (m_keptDrawn : Nat → Int64) (m_keptLesson : Nat → Int32) (p1 : Int32) (p2 : Int32) (hR : Rel N tx_length tx_bytes ro_pupils ro_mood ro_letters ro_rows ro_columns ro_tenths ro_needs ro_toldDares le_seed le_questions le_rightOnes le_wrongOnes le_dares le_times s1_seed s1_questions s1_rightOnes s1_wrongOnes s1_isKept s1_dares s1_times s2_seed s2_questions s2_rightOnes s2_wrongOnes s2_isKept s2_dares s2_times ta_size ta_hands ta_ones tr_waited tr_size tr_hands m_pupils m_mood m_length m_drawn m_questions m_rights m_wrongs m_tapes m_trials m_pupil m_dares m_times m_text m_tapeHands m_tapeTaken m_trialHands m_trialWaited m_isKept m_keptDares m_keptTimes m_keptDrawn m_keptLesson) : ∃ (u : Int32) (v : Int32), FX8_about ro_pupils ro_letters ro_rows ro_columns ro_tenths ro_needs ro_toldDares le_dares le_times p1 p2 = u ∧ FX9_about m_pupils m_times m_dares m_pupil p1 p2 = some v ∧ u = v ∧ Rel (N + 1) tx_length tx_bytes ro_pupils ro_mood ro_letters ro_rows ro_columns ro_tenths ro_needs ro_toldDares le_seed le_questions le_rightOnes le_wrongOnes le_dares le_times s1_seed s1_questions s1_rightOnes s1_wrongOnes s1_isKept s1_dares s1_times s2_seed s2_questions s2_rightOnes s2_wrongOnes s2_isKept s2_dares s2_times ta_size ta_hands ta_ones tr_waited tr_size tr_hands m_pupils m_mood m_length m_drawn m_questions m_rights m_wrongs m_tapes m_trials m_pupil m_dares m_times m_text m_tapeHands m_tapeTaken m_trialHands m_trialWaited m_isKept m_keptDares m_keptTimes m_keptDrawn m_keptLesson := by
  have hR' := Rel_mono hR (Nat.le_succ N)
  obtain ⟨-, -, ⟨P, r, c, k, q, d, f, da, ti, ⟨hP, hpu, hmpu, hro⟩, hle, -, -⟩, -, -, -⟩ := hR
  have key : ∃ x, FX8_about ro_pupils ro_letters ro_rows ro_columns ro_tenths ro_needs ro_toldDares le_dares le_times p1 p2 = x ∧ FX9_about m_pupils m_times m_dares m_pupil p1 p2 = some x := by
    unfold FX8_about FX9_about FX3_lacks FX9_isPupil
    rw [hpu, hmpu]
    rcases rngP p1 P (by omega) with ⟨h8, h9⟩ | ⟨p, hp, rfl, h8, h9⟩
    · rw [if_pos h8, if_neg h9]; exact ⟨_, rfl, rfl⟩
    · rw [if_neg h8, if_pos h9]
      rcases rng p2 0 7 0 7 0 7 rfl rfl rfl rfl (by decide) (by decide) with ⟨g8, g9⟩ | ⟨j, -, hj, rfl, g8, g9⟩
      · rw [if_pos g8, if_neg g9]; exact ⟨_, rfl, rfl⟩
      · rw [if_neg g8, if_pos g9]
        obtain ⟨⟨b1, b2, b3, b4, b5, b6⟩, hlt, ⟨hrw, hcl, htn, hnd, htd⟩, q0, q1, q2, q3, q4, q5⟩ := hro p hp
        obtain ⟨-, -, hld, hmd, hlt2, hmt⟩ := hle p hp
        have hp12 : p < 12 := by omega
        have e : (6 : Int32) * nI p + nI j = nI (6 * p + j) := by rw [nmul 6 p, nI_add]
        have fin : ∀ {x y : Int32}, x = y → ∃ z, x = z ∧ some y = some z := fun h => ⟨_, rfl, by rw [h]⟩
        unfold FX3_tell
        rcases (show j = 0 ∨ j = 1 ∨ j = 2 ∨ j = 3 ∨ j = 4 ∨ j = 5 ∨ j = 6 ∨ j = 7 by omega) with rfl | rfl | rfl | rfl | rfl | rfl | rfl | rfl
        · rw [if_pos (by decide), if_neg (by decide), e, gdI (by omega) (by decide), nI_clamp (by omega), gat_n hp12 (by decide)]
          exact fin (by rw [hrw]; exact q0.symm)
        · rw [if_neg (by decide), if_pos (by decide), if_neg (by decide), e, gdI (by omega) (by decide), nI_clamp (by omega), gat_n hp12 (by decide)]
          exact fin (by rw [hcl]; exact q1.symm)
        · rw [if_neg (by decide), if_neg (by decide), if_pos (by decide), if_neg (by decide), e, gdI (by omega) (by decide), nI_clamp (by omega), gat_n hp12 (by decide)]
          exact fin (by rw [htn]; exact q2.symm)
        · rw [if_neg (by decide), if_neg (by decide), if_neg (by decide), if_pos (by decide), if_neg (by decide), e, gdI (by omega) (by decide), nI_clamp (by omega), gat_n hp12 (by decide)]
          exact fin (by rw [hnd]; exact q3.symm)
        · rw [if_neg (by decide), if_neg (by decide), if_neg (by decide), if_neg (by decide), if_pos (by decide), if_neg (by decide), e, gdI (by omega) (by decide), nI_clamp (by omega), gat_n hp12 (by decide)]
          exact fin (by rw [htd]; exact q4.symm)
        · rw [if_neg (by decide), if_neg (by decide), if_neg (by decide), if_neg (by decide), if_neg (by decide), if_pos (by decide), isF_n hp12 hlt, if_neg (show ¬ (6 : Int32) ≤ nI 5 by decide), e, gdI (by omega) (by decide), nI_clamp (by omega), q5]
          refine fin ?_
          by_cases cf : f p = 1
          · rw [cf]; rfl
          · have cf0 : f p = 0 := by omega
            rw [cf0]; rfl
        · rw [if_neg (by decide), if_neg (by decide), if_neg (by decide), if_neg (by decide), if_neg (by decide), if_neg (by decide), if_pos (by decide), if_pos (by decide), if_pos (by decide), gdI hp12 (by decide), nI_clamp (by omega), gat_n hp12 (by decide)]
          exact fin (by rw [hld]; exact hmd.symm)
        · rw [if_neg (by decide), if_neg (by decide), if_neg (by decide), if_neg (by decide), if_neg (by decide), if_neg (by decide), if_neg (by decide), if_pos (by decide), if_neg (by decide), gdI hp12 (by decide), nI_clamp (by omega), gat_n hp12 (by decide)]
          exact fin (by rw [hlt2]; exact hmt.symm)
  obtain ⟨x, a, b⟩ := key
  exact ⟨x, x, a, b, rfl, hR'⟩
set_option maxHeartbeats 1000000 in
set_option maxRecDepth 10000 in
theorem P_mood (N : Nat) (hN : N < 4000) (tx_length : Int32) (tx_bytes : Nat → Int32) (ro_pupils : Int32) (ro_mood : Int32) (ro_letters : Nat → Int32) (ro_rows : Nat → Int32) (ro_columns : Nat → Int32) (ro_tenths : Nat → Int32) (ro_needs : Nat → Int32) (ro_toldDares : Nat → Int32) (le_seed : Int64) (le_questions : Int32) (le_rightOnes : Int32) (le_wrongOnes : Int32) (le_isKept : Int32) (le_dares : Nat → Int32) (le_times : Nat → Int32) (ha_cells : Nat → Int64) (ch_pupils : Int32) (ch_rule : Int32) (ch_ranks : Nat → Int32) (ch_eligible : Nat → Int32) (ch_eligibleAndRight : Nat → Int32) (ch_cells : Nat → Int64) (s1_seed : Int64) (s1_questions : Int32) (s1_rightOnes : Int32) (s1_wrongOnes : Int32) (s1_isKept : Int32) (s1_dares : Nat → Int32) (s1_times : Nat → Int32) (s2_seed : Int64) (s2_questions : Int32) (s2_rightOnes : Int32) (s2_wrongOnes : Int32) (s2_isKept : Int32) (s2_dares : Nat → Int32) (s2_times : Nat → Int32) (ta_size : Int32) (ta_hands : Nat → Int32) (ta_ones : Nat → Int32) (ta_cells : Nat → Int64) (tr_waited : Int32) (tr_size : Int32) (tr_hands : Nat → Int32) (m_readMany : Int32) (m_pupils : Int32) (m_mood : Int32) (m_length : Int32) (m_at : Int32) (m_faultAt : Int32) (m_drawn : Int64) (m_questions : Int32) (m_rights : Int32) (m_wrongs : Int32) (m_tapes : Int32) (m_trials : Int32) (m_read : Nat → Int32) (m_pupil : Nat → Int32) (m_dares : Nat → Int32) (m_times : Nat → Int32) (m_text : Nat → Int32) (m_joint : Nat → Int64) (m_others : Nat → Int64) (m_tapeHands : Nat → Int32) (m_tapeTaken : Nat → Int32) (m_trialHands : Nat → Int32) (m_trialWaited : Nat → Int32) (m_isKept : Nat → Int32) (m_keptDares : Nat → Int32) (m_keptTimes : Nat → Int32) (m_keptDrawn : Nat → Int64) (m_keptLesson : Nat → Int32) (p1 : Int32) (hR : Rel N tx_length tx_bytes ro_pupils ro_mood ro_letters ro_rows ro_columns ro_tenths ro_needs ro_toldDares le_seed le_questions le_rightOnes le_wrongOnes le_dares le_times s1_seed s1_questions s1_rightOnes s1_wrongOnes s1_isKept s1_dares s1_times s2_seed s2_questions s2_rightOnes s2_wrongOnes s2_isKept s2_dares s2_times ta_size ta_hands ta_ones tr_waited tr_size tr_hands m_pupils m_mood m_length m_drawn m_questions m_rights m_wrongs m_tapes m_trials m_pupil m_dares m_times m_text m_tapeHands m_tapeTaken m_trialHands m_trialWaited m_isKept m_keptDares m_keptTimes m_keptDrawn m_keptLesson) : ∃ (u : Int32 × Int32) (v : Int32 × Int32), FX8_mood ro_mood p1 = u ∧ FX9_mood m_mood p1 = v ∧ u.1 = v.1 ∧ Rel (N + 1) tx_length tx_bytes ro_pupils u.2 ro_letters ro_rows ro_columns ro_tenths ro_needs ro_toldDares le_seed le_questions le_rightOnes le_wrongOnes le_dares le_times s1_seed s1_questions s1_rightOnes s1_wrongOnes s1_isKept s1_dares s1_times s2_seed s2_questions s2_rightOnes s2_wrongOnes s2_isKept s2_dares s2_times ta_size ta_hands ta_ones tr_waited tr_size tr_hands m_pupils v.2 m_length m_drawn m_questions m_rights m_wrongs m_tapes m_trials m_pupil m_dares m_times m_text m_tapeHands m_tapeTaken m_trialHands m_trialWaited m_isKept m_keptDares m_keptTimes m_keptDrawn m_keptLesson := by
  obtain ⟨hT, ⟨mo, hmo, h1, h2⟩, hr⟩ := Rel_mono hR (Nat.le_succ N)
  rcases rng p1 0 9 0 9 0 9 rfl rfl rfl rfl (by decide) (by decide) with ⟨h8, h9⟩ | ⟨j, -, hj, rfl, h8, h9⟩
  · exact ⟨(-2, ro_mood), (-2, m_mood), by unfold FX8_mood; rw [if_pos h8], by unfold FX9_mood; rw [if_neg h9], rfl, hT, ⟨mo, hmo, h1, h2⟩, hr⟩
  · exact ⟨(ro_mood, nI j), (m_mood, nI j), by unfold FX8_mood; rw [if_neg h8], by unfold FX9_mood; rw [if_pos h9], by show ro_mood = m_mood; rw [h1, h2], hT, ⟨j, hj, rfl, rfl⟩, hr⟩
set_option maxHeartbeats 1000000 in
set_option maxRecDepth 10000 in
theorem P_up (N : Nat) (hN : N < 4000) (tx_length : Int32) (tx_bytes : Nat → Int32) (ro_pupils : Int32) (ro_mood : Int32) (ro_letters : Nat → Int32) (ro_rows : Nat → Int32) (ro_columns : Nat → Int32) (ro_tenths : Nat → Int32) (ro_needs : Nat → Int32) (ro_toldDares : Nat → Int32) (le_seed : Int64) (le_questions : Int32) (le_rightOnes : Int32) (le_wrongOnes : Int32) (le_isKept : Int32) (le_dares : Nat → Int32) (le_times : Nat → Int32) (ha_cells : Nat → Int64) (ch_pupils : Int32) (ch_rule : Int32) (ch_ranks : Nat → Int32) (ch_eligible : Nat → Int32) (ch_eligibleAndRight : Nat → Int32) (ch_cells : Nat → Int64) (s1_seed : Int64) (s1_questions : Int32) (s1_rightOnes : Int32) (s1_wrongOnes : Int32) (s1_isKept : Int32) (s1_dares : Nat → Int32) (s1_times : Nat → Int32) (s2_seed : Int64) (s2_questions : Int32) (s2_rightOnes : Int32) (s2_wrongOnes : Int32) (s2_isKept : Int32) (s2_dares : Nat → Int32) (s2_times : Nat → Int32) (ta_size : Int32) (ta_hands : Nat → Int32) (ta_ones : Nat → Int32) (ta_cells : Nat → Int64) (tr_waited : Int32) (tr_size : Int32) (tr_hands : Nat → Int32) (m_readMany : Int32) (m_pupils : Int32) (m_mood : Int32) (m_length : Int32) (m_at : Int32) (m_faultAt : Int32) (m_drawn : Int64) (m_questions : Int32) (m_rights : Int32) (m_wrongs : Int32) (m_tapes : Int32) (m_trials : Int32) (m_read : Nat → Int32) (m_pupil : Nat → Int32) (m_dares : Nat → Int32) (m_times : Nat → Int32) (m_text : Nat → Int32) (m_joint : Nat → Int64) (m_others : Nat → Int64) (m_tapeHands : Nat → Int32) (m_tapeTaken : Nat → Int32) (m_trialHands : Nat → Int32) (m_trialWaited : Nat → Int32) (m_isKept : Nat → Int32) (m_keptDares : Nat → Int32) (m_keptTimes : Nat → Int32) (m_keptDrawn : Nat → Int64) (m_keptLesson : Nat → Int32) (p1 : Int32) (p2 : Int32) (hR : Rel N tx_length tx_bytes ro_pupils ro_mood ro_letters ro_rows ro_columns ro_tenths ro_needs ro_toldDares le_seed le_questions le_rightOnes le_wrongOnes le_dares le_times s1_seed s1_questions s1_rightOnes s1_wrongOnes s1_isKept s1_dares s1_times s2_seed s2_questions s2_rightOnes s2_wrongOnes s2_isKept s2_dares s2_times ta_size ta_hands ta_ones tr_waited tr_size tr_hands m_pupils m_mood m_length m_drawn m_questions m_rights m_wrongs m_tapes m_trials m_pupil m_dares m_times m_text m_tapeHands m_tapeTaken m_trialHands m_trialWaited m_isKept m_keptDares m_keptTimes m_keptDrawn m_keptLesson) : ∃ (u : Int32) (v : Int32), FX8_up ro_pupils ro_mood ro_letters ro_tenths ro_needs le_dares p1 p2 = u ∧ FX9_up m_pupils m_mood m_pupil m_dares p1 p2 = some v ∧ u = v ∧ Rel (N + 1) tx_length tx_bytes ro_pupils ro_mood ro_letters ro_rows ro_columns ro_tenths ro_needs ro_toldDares le_seed le_questions le_rightOnes le_wrongOnes le_dares le_times s1_seed s1_questions s1_rightOnes s1_wrongOnes s1_isKept s1_dares s1_times s2_seed s2_questions s2_rightOnes s2_wrongOnes s2_isKept s2_dares s2_times ta_size ta_hands ta_ones tr_waited tr_size tr_hands m_pupils m_mood m_length m_drawn m_questions m_rights m_wrongs m_tapes m_trials m_pupil m_dares m_times m_text m_tapeHands m_tapeTaken m_trialHands m_trialWaited m_isKept m_keptDares m_keptTimes m_keptDrawn m_keptLesson := by
  have hR' := Rel_mono hR (Nat.le_succ N)
  obtain ⟨-, ⟨mo, hmo, hm1, hm2⟩, ⟨P, r, c, k, q, d, f, da, ti, ⟨hP, hpu, hmpu, hro⟩, hle, -, -⟩, -, -, -⟩ := hR
  have key : ∃ x, FX8_up ro_pupils ro_mood ro_letters ro_tenths ro_needs le_dares p1 p2 = x ∧ FX9_up m_pupils m_mood m_pupil m_dares p1 p2 = some x := by
    unfold FX8_up FX9_up FX3_lacks FX9_isPupil FX8_noSeconds FX9_isWait
    rw [hpu, hmpu]
    rcases rngP p1 P (by omega) with ⟨h8, h9⟩ | ⟨p, hp, rfl, h8, h9⟩
    · rw [if_pos h8, if_neg h9]; exact ⟨_, rfl, rfl⟩
    · rw [if_neg h8, if_pos h9]
      rcases rng p2 0 9 0 9 0 9 rfl rfl rfl rfl (by decide) (by decide) with ⟨g8, g9⟩ | ⟨w, -, hw, rfl, g8, g9⟩
      · rw [if_pos g8, if_neg g9]; exact ⟨_, rfl, rfl⟩
      · rw [if_neg g8, if_pos g9]
        obtain ⟨⟨b1, b2, b3, b4, b5, b6⟩, hlt, ⟨hrw, hcl, htn, hnd, htd⟩, q0, q1, q2, q3, q4, q5⟩ := hro p hp
        obtain ⟨hd9, -, hld, hmd, -, -⟩ := hle p hp
        rw [upTenths_n (by omega) hm1 hmo hld hd9 hlt hnd b4 htn b3 hw, upOf_n (by omega) hm2 hmo hmd hd9 q5 b6 q3 b4 q2 hw]
        exact ⟨_, rfl, rfl⟩
  obtain ⟨x, a, b⟩ := key
  exact ⟨x, x, a, b, rfl, hR'⟩
set_option maxHeartbeats 1000000 in
set_option maxRecDepth 10000 in
theorem P_mean (N : Nat) (hN : N < 4000) (tx_length : Int32) (tx_bytes : Nat → Int32) (ro_pupils : Int32) (ro_mood : Int32) (ro_letters : Nat → Int32) (ro_rows : Nat → Int32) (ro_columns : Nat → Int32) (ro_tenths : Nat → Int32) (ro_needs : Nat → Int32) (ro_toldDares : Nat → Int32) (le_seed : Int64) (le_questions : Int32) (le_rightOnes : Int32) (le_wrongOnes : Int32) (le_isKept : Int32) (le_dares : Nat → Int32) (le_times : Nat → Int32) (ha_cells : Nat → Int64) (ch_pupils : Int32) (ch_rule : Int32) (ch_ranks : Nat → Int32) (ch_eligible : Nat → Int32) (ch_eligibleAndRight : Nat → Int32) (ch_cells : Nat → Int64) (s1_seed : Int64) (s1_questions : Int32) (s1_rightOnes : Int32) (s1_wrongOnes : Int32) (s1_isKept : Int32) (s1_dares : Nat → Int32) (s1_times : Nat → Int32) (s2_seed : Int64) (s2_questions : Int32) (s2_rightOnes : Int32) (s2_wrongOnes : Int32) (s2_isKept : Int32) (s2_dares : Nat → Int32) (s2_times : Nat → Int32) (ta_size : Int32) (ta_hands : Nat → Int32) (ta_ones : Nat → Int32) (ta_cells : Nat → Int64) (tr_waited : Int32) (tr_size : Int32) (tr_hands : Nat → Int32) (m_readMany : Int32) (m_pupils : Int32) (m_mood : Int32) (m_length : Int32) (m_at : Int32) (m_faultAt : Int32) (m_drawn : Int64) (m_questions : Int32) (m_rights : Int32) (m_wrongs : Int32) (m_tapes : Int32) (m_trials : Int32) (m_read : Nat → Int32) (m_pupil : Nat → Int32) (m_dares : Nat → Int32) (m_times : Nat → Int32) (m_text : Nat → Int32) (m_joint : Nat → Int64) (m_others : Nat → Int64) (m_tapeHands : Nat → Int32) (m_tapeTaken : Nat → Int32) (m_trialHands : Nat → Int32) (m_trialWaited : Nat → Int32) (m_isKept : Nat → Int32) (m_keptDares : Nat → Int32) (m_keptTimes : Nat → Int32) (m_keptDrawn : Nat → Int64) (m_keptLesson : Nat → Int32) (p1 : Int32) (hR : Rel N tx_length tx_bytes ro_pupils ro_mood ro_letters ro_rows ro_columns ro_tenths ro_needs ro_toldDares le_seed le_questions le_rightOnes le_wrongOnes le_dares le_times s1_seed s1_questions s1_rightOnes s1_wrongOnes s1_isKept s1_dares s1_times s2_seed s2_questions s2_rightOnes s2_wrongOnes s2_isKept s2_dares s2_times ta_size ta_hands ta_ones tr_waited tr_size tr_hands m_pupils m_mood m_length m_drawn m_questions m_rights m_wrongs m_tapes m_trials m_pupil m_dares m_times m_text m_tapeHands m_tapeTaken m_trialHands m_trialWaited m_isKept m_keptDares m_keptTimes m_keptDrawn m_keptLesson) : ∃ (u : Int32) (v : Int32), FX8_mean ro_pupils ro_mood ro_letters ro_tenths ro_needs le_dares p1 = some u ∧ FX9_mean m_pupils m_mood m_pupil m_dares p1 = some v ∧ u = v ∧ Rel (N + 1) tx_length tx_bytes ro_pupils ro_mood ro_letters ro_rows ro_columns ro_tenths ro_needs ro_toldDares le_seed le_questions le_rightOnes le_wrongOnes le_dares le_times s1_seed s1_questions s1_rightOnes s1_wrongOnes s1_isKept s1_dares s1_times s2_seed s2_questions s2_rightOnes s2_wrongOnes s2_isKept s2_dares s2_times ta_size ta_hands ta_ones tr_waited tr_size tr_hands m_pupils m_mood m_length m_drawn m_questions m_rights m_wrongs m_tapes m_trials m_pupil m_dares m_times m_text m_tapeHands m_tapeTaken m_trialHands m_trialWaited m_isKept m_keptDares m_keptTimes m_keptDrawn m_keptLesson := by
  have hR' := Rel_mono hR (Nat.le_succ N)
  obtain ⟨-, ⟨mo, hMo⟩, ⟨P, r, c, k, q, d, f, da, ti, hRo, hle, -, -⟩, -, -, -⟩ := hR
  have key : ∃ x, FX8_mean ro_pupils ro_mood ro_letters ro_tenths ro_needs le_dares p1 = some x ∧ FX9_mean m_pupils m_mood m_pupil m_dares p1 = some x := by
    unfold FX8_mean FX9_mean FX8_noSeconds FX9_isWait
    rcases rng p1 0 9 0 9 0 9 rfl rfl rfl rfl (by decide) (by decide) with ⟨g8, g9⟩ | ⟨w, -, hw, rfl, g8, g9⟩
    · rw [if_pos g8, if_neg g9]; exact ⟨_, rfl, rfl⟩
    · rw [if_neg g8, if_pos g9, ro_all hRo hle hMo hw, mo_all hRo hle hMo hw]; exact ⟨_, rfl, rfl⟩
  obtain ⟨x, a, b⟩ := key
  exact ⟨x, x, a, b, rfl, hR'⟩
set_option maxHeartbeats 1000000 in
set_option maxRecDepth 10000 in
theorem P_quiet (N : Nat) (hN : N < 4000) (tx_length : Int32) (tx_bytes : Nat → Int32) (ro_pupils : Int32) (ro_mood : Int32) (ro_letters : Nat → Int32) (ro_rows : Nat → Int32) (ro_columns : Nat → Int32) (ro_tenths : Nat → Int32) (ro_needs : Nat → Int32) (ro_toldDares : Nat → Int32) (le_seed : Int64) (le_questions : Int32) (le_rightOnes : Int32) (le_wrongOnes : Int32) (le_isKept : Int32) (le_dares : Nat → Int32) (le_times : Nat → Int32) (ha_cells : Nat → Int64) (ch_pupils : Int32) (ch_rule : Int32) (ch_ranks : Nat → Int32) (ch_eligible : Nat → Int32) (ch_eligibleAndRight : Nat → Int32) (ch_cells : Nat → Int64) (s1_seed : Int64) (s1_questions : Int32) (s1_rightOnes : Int32) (s1_wrongOnes : Int32) (s1_isKept : Int32) (s1_dares : Nat → Int32) (s1_times : Nat → Int32) (s2_seed : Int64) (s2_questions : Int32) (s2_rightOnes : Int32) (s2_wrongOnes : Int32) (s2_isKept : Int32) (s2_dares : Nat → Int32) (s2_times : Nat → Int32) (ta_size : Int32) (ta_hands : Nat → Int32) (ta_ones : Nat → Int32) (ta_cells : Nat → Int64) (tr_waited : Int32) (tr_size : Int32) (tr_hands : Nat → Int32) (m_readMany : Int32) (m_pupils : Int32) (m_mood : Int32) (m_length : Int32) (m_at : Int32) (m_faultAt : Int32) (m_drawn : Int64) (m_questions : Int32) (m_rights : Int32) (m_wrongs : Int32) (m_tapes : Int32) (m_trials : Int32) (m_read : Nat → Int32) (m_pupil : Nat → Int32) (m_dares : Nat → Int32) (m_times : Nat → Int32) (m_text : Nat → Int32) (m_joint : Nat → Int64) (m_others : Nat → Int64) (m_tapeHands : Nat → Int32) (m_tapeTaken : Nat → Int32) (m_trialHands : Nat → Int32) (m_trialWaited : Nat → Int32) (m_isKept : Nat → Int32) (m_keptDares : Nat → Int32) (m_keptTimes : Nat → Int32) (m_keptDrawn : Nat → Int64) (m_keptLesson : Nat → Int32) (p1 : Int32) (hR : Rel N tx_length tx_bytes ro_pupils ro_mood ro_letters ro_rows ro_columns ro_tenths ro_needs ro_toldDares le_seed le_questions le_rightOnes le_wrongOnes le_dares le_times s1_seed s1_questions s1_rightOnes s1_wrongOnes s1_isKept s1_dares s1_times s2_seed s2_questions s2_rightOnes s2_wrongOnes s2_isKept s2_dares s2_times ta_size ta_hands ta_ones tr_waited tr_size tr_hands m_pupils m_mood m_length m_drawn m_questions m_rights m_wrongs m_tapes m_trials m_pupil m_dares m_times m_text m_tapeHands m_tapeTaken m_trialHands m_trialWaited m_isKept m_keptDares m_keptTimes m_keptDrawn m_keptLesson) : ∃ (u : Int32) (v : Int32), FX8_quiet ro_pupils ro_mood ro_letters ro_tenths ro_needs le_dares p1 = some u ∧ FX9_quiet m_pupils m_mood m_dares m_pupil p1 = some v ∧ u = v ∧ Rel (N + 1) tx_length tx_bytes ro_pupils ro_mood ro_letters ro_rows ro_columns ro_tenths ro_needs ro_toldDares le_seed le_questions le_rightOnes le_wrongOnes le_dares le_times s1_seed s1_questions s1_rightOnes s1_wrongOnes s1_isKept s1_dares s1_times s2_seed s2_questions s2_rightOnes s2_wrongOnes s2_isKept s2_dares s2_times ta_size ta_hands ta_ones tr_waited tr_size tr_hands m_pupils m_mood m_length m_drawn m_questions m_rights m_wrongs m_tapes m_trials m_pupil m_dares m_times m_text m_tapeHands m_tapeTaken m_trialHands m_trialWaited m_isKept m_keptDares m_keptTimes m_keptDrawn m_keptLesson := by
  have hR' := Rel_mono hR (Nat.le_succ N)
  obtain ⟨-, ⟨mo, hMo⟩, ⟨P, r, c, k, q, d, f, da, ti, hRo, hle, -, -⟩, -, -, -⟩ := hR
  have key : ∃ x, FX8_quiet ro_pupils ro_mood ro_letters ro_tenths ro_needs le_dares p1 = some x ∧ FX9_quiet m_pupils m_mood m_dares m_pupil p1 = some x := by
    unfold FX8_quiet FX9_quiet FX8_noSeconds FX9_isWait
    rcases rng p1 0 9 0 9 0 9 rfl rfl rfl rfl (by decide) (by decide) with ⟨g8, g9⟩ | ⟨w, -, hw, rfl, g8, g9⟩
    · rw [if_pos g8, if_neg g9]; exact ⟨_, rfl, rfl⟩
    · rw [if_neg g8, if_pos g9, ro_silent hRo hle hMo hw, mo_silent hRo hle hMo hw]; exact ⟨_, rfl, rfl⟩
  obtain ⟨x, a, b⟩ := key
  exact ⟨x, x, a, b, rfl, hR'⟩
set_option maxHeartbeats 1000000 in
set_option maxRecDepth 10000 in
theorem P_hands (N : Nat) (hN : N < 4000) (tx_length : Int32) (tx_bytes : Nat → Int32) (ro_pupils : Int32) (ro_mood : Int32) (ro_letters : Nat → Int32) (ro_rows : Nat → Int32) (ro_columns : Nat → Int32) (ro_tenths : Nat → Int32) (ro_needs : Nat → Int32) (ro_toldDares : Nat → Int32) (le_seed : Int64) (le_questions : Int32) (le_rightOnes : Int32) (le_wrongOnes : Int32) (le_isKept : Int32) (le_dares : Nat → Int32) (le_times : Nat → Int32) (ha_cells : Nat → Int64) (ch_pupils : Int32) (ch_rule : Int32) (ch_ranks : Nat → Int32) (ch_eligible : Nat → Int32) (ch_eligibleAndRight : Nat → Int32) (ch_cells : Nat → Int64) (s1_seed : Int64) (s1_questions : Int32) (s1_rightOnes : Int32) (s1_wrongOnes : Int32) (s1_isKept : Int32) (s1_dares : Nat → Int32) (s1_times : Nat → Int32) (s2_seed : Int64) (s2_questions : Int32) (s2_rightOnes : Int32) (s2_wrongOnes : Int32) (s2_isKept : Int32) (s2_dares : Nat → Int32) (s2_times : Nat → Int32) (ta_size : Int32) (ta_hands : Nat → Int32) (ta_ones : Nat → Int32) (ta_cells : Nat → Int64) (tr_waited : Int32) (tr_size : Int32) (tr_hands : Nat → Int32) (m_readMany : Int32) (m_pupils : Int32) (m_mood : Int32) (m_length : Int32) (m_at : Int32) (m_faultAt : Int32) (m_drawn : Int64) (m_questions : Int32) (m_rights : Int32) (m_wrongs : Int32) (m_tapes : Int32) (m_trials : Int32) (m_read : Nat → Int32) (m_pupil : Nat → Int32) (m_dares : Nat → Int32) (m_times : Nat → Int32) (m_text : Nat → Int32) (m_joint : Nat → Int64) (m_others : Nat → Int64) (m_tapeHands : Nat → Int32) (m_tapeTaken : Nat → Int32) (m_trialHands : Nat → Int32) (m_trialWaited : Nat → Int32) (m_isKept : Nat → Int32) (m_keptDares : Nat → Int32) (m_keptTimes : Nat → Int32) (m_keptDrawn : Nat → Int64) (m_keptLesson : Nat → Int32) (p1 : Int32) (p2 : Int32) (p3 : Int32) (hb3 : p3 = 0 ∨ p3 = 1) (hR : Rel N tx_length tx_bytes ro_pupils ro_mood ro_letters ro_rows ro_columns ro_tenths ro_needs ro_toldDares le_seed le_questions le_rightOnes le_wrongOnes le_dares le_times s1_seed s1_questions s1_rightOnes s1_wrongOnes s1_isKept s1_dares s1_times s2_seed s2_questions s2_rightOnes s2_wrongOnes s2_isKept s2_dares s2_times ta_size ta_hands ta_ones tr_waited tr_size tr_hands m_pupils m_mood m_length m_drawn m_questions m_rights m_wrongs m_tapes m_trials m_pupil m_dares m_times m_text m_tapeHands m_tapeTaken m_trialHands m_trialWaited m_isKept m_keptDares m_keptTimes m_keptDrawn m_keptLesson) : ∃ (u : Int64 × (Nat → Int64)) (v : Int64 × (Nat → Int64)), FX8_hands ro_pupils ro_mood ro_letters ro_tenths ro_needs le_dares ha_cells p1 p2 p3 = some u ∧ FX9_hands m_pupils m_mood m_pupil m_dares m_joint p1 p2 p3 = some v ∧ u.1 = v.1 ∧ Rel (N + 1) tx_length tx_bytes ro_pupils ro_mood ro_letters ro_rows ro_columns ro_tenths ro_needs ro_toldDares le_seed le_questions le_rightOnes le_wrongOnes le_dares le_times s1_seed s1_questions s1_rightOnes s1_wrongOnes s1_isKept s1_dares s1_times s2_seed s2_questions s2_rightOnes s2_wrongOnes s2_isKept s2_dares s2_times ta_size ta_hands ta_ones tr_waited tr_size tr_hands m_pupils m_mood m_length m_drawn m_questions m_rights m_wrongs m_tapes m_trials m_pupil m_dares m_times m_text m_tapeHands m_tapeTaken m_trialHands m_trialWaited m_isKept m_keptDares m_keptTimes m_keptDrawn m_keptLesson := by
  have hR' := Rel_mono hR (Nat.le_succ N)
  obtain ⟨-, ⟨mo, hMo⟩, ⟨P, r, c, k, q, d, f, da, ti, hRo, hle, -, -⟩, -, -, -⟩ := hR
  have hP := hRo.1
  have key : ∃ (u v : Int64 × (Nat → Int64)), FX8_hands ro_pupils ro_mood ro_letters ro_tenths ro_needs le_dares ha_cells p1 p2 p3 = some u ∧ FX9_hands m_pupils m_mood m_pupil m_dares m_joint p1 p2 p3 = some v ∧ u.1 = v.1 := by
    unfold FX8_hands FX9_hands FX8_noSeconds FX9_isWait
    rcases rng p1 0 9 0 9 0 9 rfl rfl rfl rfl (by decide) (by decide) with ⟨g8, g9⟩ | ⟨w, -, hw, rfl, g8, g9⟩
    · rw [if_pos g8, if_neg g9]; exact ⟨_, _, rfl, rfl, rfl⟩
    · rw [if_neg g8, if_pos g9]
      rcases rng p2 0 12 0 12 0 12 rfl rfl rfl rfl (by decide) (by decide) with ⟨e8, e9⟩ | ⟨h, -, hh, rfl, e8, e9⟩
      · rw [if_pos e8, if_neg e9]; exact ⟨_, _, rfl, rfl, rfl⟩
      · rw [if_neg e8, if_pos e9, look8 hRo hle hMo hw, look9 hRo hle hMo hw, Option.bind_some, Option.bind_some, allOf_n (by omega), handsOf_n (by omega), Option.bind_some, Option.bind_some, hRo.2.1, hRo.2.2.1, ten_n hP, whole_n hP, Option.bind_some, Option.bind_some]
        have b1 := jW_le (y := yN mo da f q w) (z := zN mo da f) (k := k) (P := P) (fun p hp => Nat.le_of_lt (hRo.2.2.2 p hp).1.2.2.1) P (Nat.le_refl P) h
        have b2 := ten12 hP
        have b3 : 0 < 10 ^ P := Nat.pow_pos (by decide)
        rw [fr8 p3 (by omega) (by omega) b3, fr9 p3 (by omega) (by omega) b3]
        exact ⟨_, _, rfl, rfl, rfl⟩
  obtain ⟨u, v, a, b, e⟩ := key
  exact ⟨u, v, a, b, e, hR'⟩
set_option maxHeartbeats 1000000 in
set_option maxRecDepth 10000 in
theorem P_given (N : Nat) (hN : N < 4000) (tx_length : Int32) (tx_bytes : Nat → Int32) (ro_pupils : Int32) (ro_mood : Int32) (ro_letters : Nat → Int32) (ro_rows : Nat → Int32) (ro_columns : Nat → Int32) (ro_tenths : Nat → Int32) (ro_needs : Nat → Int32) (ro_toldDares : Nat → Int32) (le_seed : Int64) (le_questions : Int32) (le_rightOnes : Int32) (le_wrongOnes : Int32) (le_isKept : Int32) (le_dares : Nat → Int32) (le_times : Nat → Int32) (ha_cells : Nat → Int64) (ch_pupils : Int32) (ch_rule : Int32) (ch_ranks : Nat → Int32) (ch_eligible : Nat → Int32) (ch_eligibleAndRight : Nat → Int32) (ch_cells : Nat → Int64) (s1_seed : Int64) (s1_questions : Int32) (s1_rightOnes : Int32) (s1_wrongOnes : Int32) (s1_isKept : Int32) (s1_dares : Nat → Int32) (s1_times : Nat → Int32) (s2_seed : Int64) (s2_questions : Int32) (s2_rightOnes : Int32) (s2_wrongOnes : Int32) (s2_isKept : Int32) (s2_dares : Nat → Int32) (s2_times : Nat → Int32) (ta_size : Int32) (ta_hands : Nat → Int32) (ta_ones : Nat → Int32) (ta_cells : Nat → Int64) (tr_waited : Int32) (tr_size : Int32) (tr_hands : Nat → Int32) (m_readMany : Int32) (m_pupils : Int32) (m_mood : Int32) (m_length : Int32) (m_at : Int32) (m_faultAt : Int32) (m_drawn : Int64) (m_questions : Int32) (m_rights : Int32) (m_wrongs : Int32) (m_tapes : Int32) (m_trials : Int32) (m_read : Nat → Int32) (m_pupil : Nat → Int32) (m_dares : Nat → Int32) (m_times : Nat → Int32) (m_text : Nat → Int32) (m_joint : Nat → Int64) (m_others : Nat → Int64) (m_tapeHands : Nat → Int32) (m_tapeTaken : Nat → Int32) (m_trialHands : Nat → Int32) (m_trialWaited : Nat → Int32) (m_isKept : Nat → Int32) (m_keptDares : Nat → Int32) (m_keptTimes : Nat → Int32) (m_keptDrawn : Nat → Int64) (m_keptLesson : Nat → Int32) (p1 : Int32) (p2 : Int32) (p3 : Int32) (p4 : Int32) (hb4 : p4 = 0 ∨ p4 = 1) (hR : Rel N tx_length tx_bytes ro_pupils ro_mood ro_letters ro_rows ro_columns ro_tenths ro_needs ro_toldDares le_seed le_questions le_rightOnes le_wrongOnes le_dares le_times s1_seed s1_questions s1_rightOnes s1_wrongOnes s1_isKept s1_dares s1_times s2_seed s2_questions s2_rightOnes s2_wrongOnes s2_isKept s2_dares s2_times ta_size ta_hands ta_ones tr_waited tr_size tr_hands m_pupils m_mood m_length m_drawn m_questions m_rights m_wrongs m_tapes m_trials m_pupil m_dares m_times m_text m_tapeHands m_tapeTaken m_trialHands m_trialWaited m_isKept m_keptDares m_keptTimes m_keptDrawn m_keptLesson) : ∃ (u : Int64 × (Nat → Int64)) (v : Int64 × (Nat → Int64)), FX8_given ro_pupils ro_mood ro_letters ro_tenths ro_needs le_dares ha_cells p1 p2 p3 p4 = some u ∧ FX9_given m_pupils m_mood m_pupil m_dares m_joint p1 p2 p3 p4 = some v ∧ u.1 = v.1 ∧ Rel (N + 1) tx_length tx_bytes ro_pupils ro_mood ro_letters ro_rows ro_columns ro_tenths ro_needs ro_toldDares le_seed le_questions le_rightOnes le_wrongOnes le_dares le_times s1_seed s1_questions s1_rightOnes s1_wrongOnes s1_isKept s1_dares s1_times s2_seed s2_questions s2_rightOnes s2_wrongOnes s2_isKept s2_dares s2_times ta_size ta_hands ta_ones tr_waited tr_size tr_hands m_pupils m_mood m_length m_drawn m_questions m_rights m_wrongs m_tapes m_trials m_pupil m_dares m_times m_text m_tapeHands m_tapeTaken m_trialHands m_trialWaited m_isKept m_keptDares m_keptTimes m_keptDrawn m_keptLesson := by
  have hR' := Rel_mono hR (Nat.le_succ N)
  obtain ⟨-, ⟨mo, hMo⟩, ⟨P, r, c, k, q, d, f, da, ti, hRo, hle, -, -⟩, -, -, -⟩ := hR
  have hP := hRo.1
  have key : ∃ (u v : Int64 × (Nat → Int64)), FX8_given ro_pupils ro_mood ro_letters ro_tenths ro_needs le_dares ha_cells p1 p2 p3 p4 = some u ∧ FX9_given m_pupils m_mood m_pupil m_dares m_joint p1 p2 p3 p4 = some v ∧ u.1 = v.1 := by
    unfold FX8_given FX9_given FX8_noSeconds FX9_isWait
    rcases rng p1 0 9 0 9 0 9 rfl rfl rfl rfl (by decide) (by decide) with ⟨g8, g9⟩ | ⟨w, -, hw, rfl, g8, g9⟩
    · rw [if_pos g8, if_neg g9]; exact ⟨_, _, rfl, rfl, rfl⟩
    · rw [if_neg g8, if_pos g9]
      rcases rng p2 0 12 0 12 0 12 rfl rfl rfl rfl (by decide) (by decide) with ⟨e8, e9⟩ | ⟨h, -, hh, rfl, e8, e9⟩
      · rw [if_pos e8, if_neg e9]; exact ⟨_, _, rfl, rfl, rfl⟩
      · rw [if_neg e8, if_pos e9]
        rcases rng p3 0 12 0 12 0 12 rfl rfl rfl rfl (by decide) (by decide) with ⟨f8, f9⟩ | ⟨n, -, hn, rfl, f8, f9⟩
        · rw [if_pos f8, if_neg f9]; exact ⟨_, _, rfl, rfl, rfl⟩
        · have b1 := jW_le (y := yN mo da f q w) (z := zN mo da f) (k := k) (P := P) (fun p hp => Nat.le_of_lt (hRo.2.2.2 p hp).1.2.2.1) P (Nat.le_refl P) h
          have b2 := ten12 hP
          have b4 := sum_ge (f := jW (yN mo da f q w) (zN mo da f) k P h) (i := n) 13 (by omega)
          rw [if_neg f8, if_pos f9, look8 hRo hle hMo hw, look9 hRo hle hMo hw, Option.bind_some, Option.bind_some, allOf_n (by omega), handsOf_n (by omega), Option.bind_some, Option.bind_some]
          generalize hA : sumN (jW (yN mo da f q w) (zN mo da f) k P h) 13 = A at b1 b4
          by_cases c0 : A = 0
          · have z1 : ¬ (1 : Int64) ≤ lN A := by rw [c0]; decide
            have z2 : lN A = (0 : Int64) := by rw [c0]; rfl
            rw [if_neg z1, if_pos z2]
            exact ⟨_, _, rfl, rfl, rfl⟩
          · have z1 : (1 : Int64) ≤ lN A := (pk_lLE (a := 1) (by decide) (by omega)).mpr (by omega)
            have z2 : ¬ lN A = (0 : Int64) := fun y => c0 ((pk_lEQ (b := 0) (by omega) (by decide)).mp y)
            rw [if_pos z1, if_neg z2, gget_n (by omega) (by omega), x13, gdI (by omega) (by decide), nI_clamp (by omega), lay_at (by omega) (by omega), lay_at (by omega) (by omega), Option.bind_some, fr8 p4 (by omega) (by omega) (by omega), fr9 p4 (by omega) (by omega) (by omega)]
            exact ⟨_, _, rfl, rfl, rfl⟩
  obtain ⟨u, v, a, b, e⟩ := key
  exact ⟨u, v, a, b, e, hR'⟩
set_option maxHeartbeats 1000000 in
set_option maxRecDepth 10000 in
theorem P_likely (N : Nat) (hN : N < 4000) (tx_length : Int32) (tx_bytes : Nat → Int32) (ro_pupils : Int32) (ro_mood : Int32) (ro_letters : Nat → Int32) (ro_rows : Nat → Int32) (ro_columns : Nat → Int32) (ro_tenths : Nat → Int32) (ro_needs : Nat → Int32) (ro_toldDares : Nat → Int32) (le_seed : Int64) (le_questions : Int32) (le_rightOnes : Int32) (le_wrongOnes : Int32) (le_isKept : Int32) (le_dares : Nat → Int32) (le_times : Nat → Int32) (ha_cells : Nat → Int64) (ch_pupils : Int32) (ch_rule : Int32) (ch_ranks : Nat → Int32) (ch_eligible : Nat → Int32) (ch_eligibleAndRight : Nat → Int32) (ch_cells : Nat → Int64) (s1_seed : Int64) (s1_questions : Int32) (s1_rightOnes : Int32) (s1_wrongOnes : Int32) (s1_isKept : Int32) (s1_dares : Nat → Int32) (s1_times : Nat → Int32) (s2_seed : Int64) (s2_questions : Int32) (s2_rightOnes : Int32) (s2_wrongOnes : Int32) (s2_isKept : Int32) (s2_dares : Nat → Int32) (s2_times : Nat → Int32) (ta_size : Int32) (ta_hands : Nat → Int32) (ta_ones : Nat → Int32) (ta_cells : Nat → Int64) (tr_waited : Int32) (tr_size : Int32) (tr_hands : Nat → Int32) (m_readMany : Int32) (m_pupils : Int32) (m_mood : Int32) (m_length : Int32) (m_at : Int32) (m_faultAt : Int32) (m_drawn : Int64) (m_questions : Int32) (m_rights : Int32) (m_wrongs : Int32) (m_tapes : Int32) (m_trials : Int32) (m_read : Nat → Int32) (m_pupil : Nat → Int32) (m_dares : Nat → Int32) (m_times : Nat → Int32) (m_text : Nat → Int32) (m_joint : Nat → Int64) (m_others : Nat → Int64) (m_tapeHands : Nat → Int32) (m_tapeTaken : Nat → Int32) (m_trialHands : Nat → Int32) (m_trialWaited : Nat → Int32) (m_isKept : Nat → Int32) (m_keptDares : Nat → Int32) (m_keptTimes : Nat → Int32) (m_keptDrawn : Nat → Int64) (m_keptLesson : Nat → Int32) (p1 : Int32) (p2 : Int32) (hR : Rel N tx_length tx_bytes ro_pupils ro_mood ro_letters ro_rows ro_columns ro_tenths ro_needs ro_toldDares le_seed le_questions le_rightOnes le_wrongOnes le_dares le_times s1_seed s1_questions s1_rightOnes s1_wrongOnes s1_isKept s1_dares s1_times s2_seed s2_questions s2_rightOnes s2_wrongOnes s2_isKept s2_dares s2_times ta_size ta_hands ta_ones tr_waited tr_size tr_hands m_pupils m_mood m_length m_drawn m_questions m_rights m_wrongs m_tapes m_trials m_pupil m_dares m_times m_text m_tapeHands m_tapeTaken m_trialHands m_trialWaited m_isKept m_keptDares m_keptTimes m_keptDrawn m_keptLesson) : ∃ (u : Int32 × (Nat → Int64)) (v : Int32 × (Nat → Int64)), FX8_likely ro_pupils ro_mood ro_letters ro_tenths ro_needs le_dares ha_cells p1 p2 = some u ∧ FX9_likely m_pupils m_mood m_pupil m_dares m_joint p1 p2 = some v ∧ u.1 = v.1 ∧ Rel (N + 1) tx_length tx_bytes ro_pupils ro_mood ro_letters ro_rows ro_columns ro_tenths ro_needs ro_toldDares le_seed le_questions le_rightOnes le_wrongOnes le_dares le_times s1_seed s1_questions s1_rightOnes s1_wrongOnes s1_isKept s1_dares s1_times s2_seed s2_questions s2_rightOnes s2_wrongOnes s2_isKept s2_dares s2_times ta_size ta_hands ta_ones tr_waited tr_size tr_hands m_pupils m_mood m_length m_drawn m_questions m_rights m_wrongs m_tapes m_trials m_pupil m_dares m_times m_text m_tapeHands m_tapeTaken m_trialHands m_trialWaited m_isKept m_keptDares m_keptTimes m_keptDrawn m_keptLesson := by
  have hR' := Rel_mono hR (Nat.le_succ N)
  obtain ⟨-, ⟨mo, hMo⟩, ⟨P, r, c, k, q, d, f, da, ti, hRo, hle, -, -⟩, -, -, -⟩ := hR
  have hP := hRo.1
  have key : ∃ (u v : Int32 × (Nat → Int64)), FX8_likely ro_pupils ro_mood ro_letters ro_tenths ro_needs le_dares ha_cells p1 p2 = some u ∧ FX9_likely m_pupils m_mood m_pupil m_dares m_joint p1 p2 = some v ∧ u.1 = v.1 := by
    unfold FX8_likely FX9_likely FX8_noSeconds FX9_isWait
    rcases rng p1 0 9 0 9 0 9 rfl rfl rfl rfl (by decide) (by decide) with ⟨g8, g9⟩ | ⟨w, -, hw, rfl, g8, g9⟩
    · rw [if_pos g8, if_neg g9]; exact ⟨_, _, rfl, rfl, rfl⟩
    · rw [if_neg g8, if_pos g9]
      rcases rng p2 0 12 0 12 0 12 rfl rfl rfl rfl (by decide) (by decide) with ⟨e8, e9⟩ | ⟨h, -, hh, rfl, e8, e9⟩
      · rw [if_pos e8, if_neg e9]; exact ⟨_, _, rfl, rfl, rfl⟩
      · have b1 := jW_le (y := yN mo da f q w) (z := zN mo da f) (k := k) (P := P) (fun p hp => Nat.le_of_lt (hRo.2.2.2 p hp).1.2.2.1) P (Nat.le_refl P) h
        have b2 := ten12 hP
        rw [if_neg e8, if_pos e9, look8 hRo hle hMo hw, look9 hRo hle hMo hw, Option.bind_some, Option.bind_some, allOf_n (by omega), handsOf_n (by omega), Option.bind_some, Option.bind_some]
        generalize hA : sumN (jW (yN mo da f q w) (zN mo da f) k P h) 13 = A at b1
        by_cases c0 : A = 0
        · have z1 : ¬ (1 : Int64) ≤ lN A := by rw [c0]; decide
          have z2 : lN A = (0 : Int64) := by rw [c0]; rfl
          rw [if_neg z1, if_pos z2]
          exact ⟨_, _, rfl, rfl, rfl⟩
        · have z1 : (1 : Int64) ≤ lN A := (pk_lLE (a := 1) (by decide) (by omega)).mpr (by omega)
          have z2 : ¬ lN A = (0 : Int64) := fun y => c0 ((pk_lEQ (b := 0) (by omega) (by decide)).mp y)
          rw [if_pos z1, if_neg z2, like8 (by omega), like9 (by omega)]
          exact ⟨_, _, rfl, rfl, rfl⟩
  obtain ⟨u, v, a, b, e⟩ := key
  exact ⟨u, v, a, b, e, hR'⟩
set_option maxHeartbeats 1000000 in
set_option maxRecDepth 10000 in
theorem P_taken (N : Nat) (hN : N < 4000) (tx_length : Int32) (tx_bytes : Nat → Int32) (ro_pupils : Int32) (ro_mood : Int32) (ro_letters : Nat → Int32) (ro_rows : Nat → Int32) (ro_columns : Nat → Int32) (ro_tenths : Nat → Int32) (ro_needs : Nat → Int32) (ro_toldDares : Nat → Int32) (le_seed : Int64) (le_questions : Int32) (le_rightOnes : Int32) (le_wrongOnes : Int32) (le_isKept : Int32) (le_dares : Nat → Int32) (le_times : Nat → Int32) (ha_cells : Nat → Int64) (ch_pupils : Int32) (ch_rule : Int32) (ch_ranks : Nat → Int32) (ch_eligible : Nat → Int32) (ch_eligibleAndRight : Nat → Int32) (ch_cells : Nat → Int64) (s1_seed : Int64) (s1_questions : Int32) (s1_rightOnes : Int32) (s1_wrongOnes : Int32) (s1_isKept : Int32) (s1_dares : Nat → Int32) (s1_times : Nat → Int32) (s2_seed : Int64) (s2_questions : Int32) (s2_rightOnes : Int32) (s2_wrongOnes : Int32) (s2_isKept : Int32) (s2_dares : Nat → Int32) (s2_times : Nat → Int32) (ta_size : Int32) (ta_hands : Nat → Int32) (ta_ones : Nat → Int32) (ta_cells : Nat → Int64) (tr_waited : Int32) (tr_size : Int32) (tr_hands : Nat → Int32) (m_readMany : Int32) (m_pupils : Int32) (m_mood : Int32) (m_length : Int32) (m_at : Int32) (m_faultAt : Int32) (m_drawn : Int64) (m_questions : Int32) (m_rights : Int32) (m_wrongs : Int32) (m_tapes : Int32) (m_trials : Int32) (m_read : Nat → Int32) (m_pupil : Nat → Int32) (m_dares : Nat → Int32) (m_times : Nat → Int32) (m_text : Nat → Int32) (m_joint : Nat → Int64) (m_others : Nat → Int64) (m_tapeHands : Nat → Int32) (m_tapeTaken : Nat → Int32) (m_trialHands : Nat → Int32) (m_trialWaited : Nat → Int32) (m_isKept : Nat → Int32) (m_keptDares : Nat → Int32) (m_keptTimes : Nat → Int32) (m_keptDrawn : Nat → Int64) (m_keptLesson : Nat → Int32) (p1 : Int32) (p2 : Int32) (p3 : Int32) (p4 : Int32) (hb4 : p4 = 0 ∨ p4 = 1) (hR : Rel N tx_length tx_bytes ro_pupils ro_mood ro_letters ro_rows ro_columns ro_tenths ro_needs ro_toldDares le_seed le_questions le_rightOnes le_wrongOnes le_dares le_times s1_seed s1_questions s1_rightOnes s1_wrongOnes s1_isKept s1_dares s1_times s2_seed s2_questions s2_rightOnes s2_wrongOnes s2_isKept s2_dares s2_times ta_size ta_hands ta_ones tr_waited tr_size tr_hands m_pupils m_mood m_length m_drawn m_questions m_rights m_wrongs m_tapes m_trials m_pupil m_dares m_times m_text m_tapeHands m_tapeTaken m_trialHands m_trialWaited m_isKept m_keptDares m_keptTimes m_keptDrawn m_keptLesson) : ∃ (u : Int64 × Int32 × Int32 × (Nat → Int32) × (Nat → Int32) × (Nat → Int32) × (Nat → Int64)) (v : Int64 × (Nat → Int64)), FX8_taken ro_pupils ro_mood ro_letters ro_rows ro_columns ro_tenths ro_needs le_dares le_times ch_pupils ch_rule ch_ranks ch_eligible ch_eligibleAndRight ch_cells p1 p2 p3 p4 = some u ∧ FX9_taken m_pupils m_mood m_pupil m_dares m_times m_others p1 p2 p3 p4 = some v ∧ u.1 = v.1 ∧ Rel (N + 1) tx_length tx_bytes ro_pupils ro_mood ro_letters ro_rows ro_columns ro_tenths ro_needs ro_toldDares le_seed le_questions le_rightOnes le_wrongOnes le_dares le_times s1_seed s1_questions s1_rightOnes s1_wrongOnes s1_isKept s1_dares s1_times s2_seed s2_questions s2_rightOnes s2_wrongOnes s2_isKept s2_dares s2_times ta_size ta_hands ta_ones tr_waited tr_size tr_hands m_pupils m_mood m_length m_drawn m_questions m_rights m_wrongs m_tapes m_trials m_pupil m_dares m_times m_text m_tapeHands m_tapeTaken m_trialHands m_trialWaited m_isKept m_keptDares m_keptTimes m_keptDrawn m_keptLesson := by
  have hR' := Rel_mono hR (Nat.le_succ N)
  obtain ⟨-, ⟨mo, hMo⟩, ⟨P, r, c, k, q, d, f, da, ti, hRo, hle, -, -⟩, -, -, -⟩ := hR
  have hP := hRo.1
  have hpu := hRo.2.1
  have hmpu := hRo.2.2.1
  have key : ∃ (u : Int64 × Int32 × Int32 × (Nat → Int32) × (Nat → Int32) × (Nat → Int32) × (Nat → Int64)) (v : Int64 × (Nat → Int64)), FX8_taken ro_pupils ro_mood ro_letters ro_rows ro_columns ro_tenths ro_needs le_dares le_times ch_pupils ch_rule ch_ranks ch_eligible ch_eligibleAndRight ch_cells p1 p2 p3 p4 = some u ∧ FX9_taken m_pupils m_mood m_pupil m_dares m_times m_others p1 p2 p3 p4 = some v ∧ u.1 = v.1 := by
    unfold FX8_taken FX9_taken FX8_noSeconds FX9_isWait FX8_noRule FX9_isRule
    have hK : (FX3_lacks ro_pupils p1 = true ∧ ¬ FX9_isPupil m_pupils p1 = true) ∨ (∃ j : Nat, j < P ∧ p1 = nI j ∧ ¬ FX3_lacks ro_pupils p1 = true ∧ FX9_isPupil m_pupils p1 = true) := by
      unfold FX3_lacks FX9_isPupil
      rw [hpu, hmpu]
      exact rngP p1 P (by omega)
    rcases hK with ⟨h8, h9⟩ | ⟨p, hp, rfl, h8, h9⟩
    · rw [if_pos h8, if_neg h9]; exact ⟨_, _, rfl, rfl, rfl⟩
    · rw [if_neg h8, if_pos h9]
      rcases rng p3 0 4 0 4 0 4 rfl rfl rfl rfl (by decide) (by decide) with ⟨e8, e9⟩ | ⟨R, -, hr, rfl, e8, e9⟩
      · rw [if_pos e8, if_neg e9]; exact ⟨_, _, rfl, rfl, rfl⟩
      · rw [if_neg e8, if_pos e9]
        rcases rng p2 0 9 0 9 0 9 rfl rfl rfl rfl (by decide) (by decide) with ⟨g8, g9⟩ | ⟨w, -, hw, rfl, g8, g9⟩
        · rw [if_pos g8, if_neg g9]; exact ⟨_, _, rfl, rfl, rfl⟩
        · have he : ∀ o, o < P → uN2 mo da f q k w o ≤ 10 := fun o ho => uN2_le hRo ho
          obtain ⟨c2, k8⟩ := tak8 (R := R) (el := cpN P (fun p => nI (eE R (uN2 mo da f q k w) p)) ch_eligible) he (fun o ho => cpN_at ho) (rk_ok hRo hle hN R ch_ranks) hP hr hp ch_cells
          obtain ⟨m2, k9⟩ := tak9 hRo hle hMo hN hw hr hp m_others
          have hk := kap_al (R := R) (P := P) (by omega) hP
          have h0 := kap_pos (R := R) (P := P) (by omega) hP
          have h12 := ten12 hP
          have h1p : 0 < 10 ^ P := Nat.pow_pos (by decide)
          have hA := AO_le (R := R) (rk := rkN R r c q ti) he hP hp
          have hA2 := Nat.mul_le_mul_left (kap R P) hA
          have hb := al8_le (R := R) hP
          have hb0 := al8_pos (R := R) (P := P) (by omega) hP
          rw [if_neg g8, if_pos g9, look0 hRo hle hMo hw hr, Option.bind_some]
          dsimp only
          rw [k8, k9, Option.bind_some, Option.bind_some]
          dsimp only
          rw [all8 hP hr, Option.bind_some, hmpu, whole_n hP, Option.bind_some, show (27720 : Int64) = lN 27720 from rfl, lN_mul, ← hk, fr8 p4 (by omega) (by omega) hb0, fr9 p4 (by omega) (by omega) (by omega), frN_k p4 h0]
          exact ⟨_, _, rfl, rfl, rfl⟩
  obtain ⟨u, v, a, b, e⟩ := key
  exact ⟨u, v, a, b, e, hR'⟩
set_option maxHeartbeats 1000000 in
set_option maxRecDepth 10000 in
theorem P_right (N : Nat) (hN : N < 4000) (tx_length : Int32) (tx_bytes : Nat → Int32) (ro_pupils : Int32) (ro_mood : Int32) (ro_letters : Nat → Int32) (ro_rows : Nat → Int32) (ro_columns : Nat → Int32) (ro_tenths : Nat → Int32) (ro_needs : Nat → Int32) (ro_toldDares : Nat → Int32) (le_seed : Int64) (le_questions : Int32) (le_rightOnes : Int32) (le_wrongOnes : Int32) (le_isKept : Int32) (le_dares : Nat → Int32) (le_times : Nat → Int32) (ha_cells : Nat → Int64) (ch_pupils : Int32) (ch_rule : Int32) (ch_ranks : Nat → Int32) (ch_eligible : Nat → Int32) (ch_eligibleAndRight : Nat → Int32) (ch_cells : Nat → Int64) (s1_seed : Int64) (s1_questions : Int32) (s1_rightOnes : Int32) (s1_wrongOnes : Int32) (s1_isKept : Int32) (s1_dares : Nat → Int32) (s1_times : Nat → Int32) (s2_seed : Int64) (s2_questions : Int32) (s2_rightOnes : Int32) (s2_wrongOnes : Int32) (s2_isKept : Int32) (s2_dares : Nat → Int32) (s2_times : Nat → Int32) (ta_size : Int32) (ta_hands : Nat → Int32) (ta_ones : Nat → Int32) (ta_cells : Nat → Int64) (tr_waited : Int32) (tr_size : Int32) (tr_hands : Nat → Int32) (m_readMany : Int32) (m_pupils : Int32) (m_mood : Int32) (m_length : Int32) (m_at : Int32) (m_faultAt : Int32) (m_drawn : Int64) (m_questions : Int32) (m_rights : Int32) (m_wrongs : Int32) (m_tapes : Int32) (m_trials : Int32) (m_read : Nat → Int32) (m_pupil : Nat → Int32) (m_dares : Nat → Int32) (m_times : Nat → Int32) (m_text : Nat → Int32) (m_joint : Nat → Int64) (m_others : Nat → Int64) (m_tapeHands : Nat → Int32) (m_tapeTaken : Nat → Int32) (m_trialHands : Nat → Int32) (m_trialWaited : Nat → Int32) (m_isKept : Nat → Int32) (m_keptDares : Nat → Int32) (m_keptTimes : Nat → Int32) (m_keptDrawn : Nat → Int64) (m_keptLesson : Nat → Int32) (p1 : Int32) (p2 : Int32) (p3 : Int32) (hb3 : p3 = 0 ∨ p3 = 1) (hR : Rel N tx_length tx_bytes ro_pupils ro_mood ro_letters ro_rows ro_columns ro_tenths ro_needs ro_toldDares le_seed le_questions le_rightOnes le_wrongOnes le_dares le_times s1_seed s1_questions s1_rightOnes s1_wrongOnes s1_isKept s1_dares s1_times s2_seed s2_questions s2_rightOnes s2_wrongOnes s2_isKept s2_dares s2_times ta_size ta_hands ta_ones tr_waited tr_size tr_hands m_pupils m_mood m_length m_drawn m_questions m_rights m_wrongs m_tapes m_trials m_pupil m_dares m_times m_text m_tapeHands m_tapeTaken m_trialHands m_trialWaited m_isKept m_keptDares m_keptTimes m_keptDrawn m_keptLesson) : ∃ (u : Int64 × Int32 × Int32 × (Nat → Int32) × (Nat → Int32) × (Nat → Int32) × (Nat → Int64)) (v : Int64 × (Nat → Int64)), FX8_right ro_pupils ro_mood ro_letters ro_rows ro_columns ro_tenths ro_needs le_dares le_times ch_pupils ch_rule ch_ranks ch_eligible ch_eligibleAndRight ch_cells p1 p2 p3 = some u ∧ FX9_right m_pupils m_mood m_pupil m_dares m_times m_others p1 p2 p3 = some v ∧ u.1 = v.1 ∧ Rel (N + 1) tx_length tx_bytes ro_pupils ro_mood ro_letters ro_rows ro_columns ro_tenths ro_needs ro_toldDares le_seed le_questions le_rightOnes le_wrongOnes le_dares le_times s1_seed s1_questions s1_rightOnes s1_wrongOnes s1_isKept s1_dares s1_times s2_seed s2_questions s2_rightOnes s2_wrongOnes s2_isKept s2_dares s2_times ta_size ta_hands ta_ones tr_waited tr_size tr_hands m_pupils m_mood m_length m_drawn m_questions m_rights m_wrongs m_tapes m_trials m_pupil m_dares m_times m_text m_tapeHands m_tapeTaken m_trialHands m_trialWaited m_isKept m_keptDares m_keptTimes m_keptDrawn m_keptLesson := by
  have hR' := Rel_mono hR (Nat.le_succ N)
  obtain ⟨-, ⟨mo, hMo⟩, ⟨P, r, c, k, q, d, f, da, ti, hRo, hle, -, -⟩, -, -, -⟩ := hR
  have hP := hRo.1
  have hpu := hRo.2.1
  have hmpu := hRo.2.2.1
  have key : ∃ (u : Int64 × Int32 × Int32 × (Nat → Int32) × (Nat → Int32) × (Nat → Int32) × (Nat → Int64)) (v : Int64 × (Nat → Int64)), FX8_right ro_pupils ro_mood ro_letters ro_rows ro_columns ro_tenths ro_needs le_dares le_times ch_pupils ch_rule ch_ranks ch_eligible ch_eligibleAndRight ch_cells p1 p2 p3 = some u ∧ FX9_right m_pupils m_mood m_pupil m_dares m_times m_others p1 p2 p3 = some v ∧ u.1 = v.1 := by
    unfold FX8_right FX9_right FX8_noSeconds FX9_isWait FX8_noRule FX9_isRule
    rcases rng p2 0 4 0 4 0 4 rfl rfl rfl rfl (by decide) (by decide) with ⟨e8, e9⟩ | ⟨R, -, hr, rfl, e8, e9⟩
    · rw [if_pos e8, if_neg e9]; exact ⟨_, _, rfl, rfl, rfl⟩
    · rw [if_neg e8, if_pos e9]
      rcases rng p1 0 9 0 9 0 9 rfl rfl rfl rfl (by decide) (by decide) with ⟨g8, g9⟩ | ⟨w, -, hw, rfl, g8, g9⟩
      · rw [if_pos g8, if_neg g9]; exact ⟨_, _, rfl, rfl, rfl⟩
      · have he : ∀ o, o < P → uN2 mo da f q k w o ≤ 10 := fun o ho => uN2_le hRo ho
        obtain ⟨c2, k8⟩ := rig8 (R := R) (er := erN mo da f q k w R) (erI := cpN P (fun p => nI (erN mo da f q k w R p)) ch_eligibleAndRight) (el := cpN P (fun p => nI (eE R (uN2 mo da f q k w) p)) ch_eligible) (fun o ho => ⟨er_le hRo ho, cpN_at ho⟩) he (fun o ho => cpN_at ho) (rk_ok hRo hle hN R ch_ranks) hP hr ch_cells
        obtain ⟨⟨s1, s2⟩, k9, k9e⟩ := rig9 hRo hle hMo hN hw hr m_others
        simp only at k9e
        subst k9e
        have h12 := ten12 hP
        have h1p : 0 < 10 ^ P := Nat.pow_pos (by decide)
        have hb := al8_le (R := R) hP
        have hs := sum_bd (f := fun p => erN mo da f q k w R p * OO R (uN2 mo da f q k w) (rkN R r c q ti) p P) (B := al8 R P) (P := P) P (Nat.le_refl P) (fun p hp => Nat.le_trans (Nat.mul_le_mul_right _ (er_le hRo hp)) (OO_le he hP hp))
        have hs2 : sR R (erN mo da f q k w R) (uN2 mo da f q k w) (rkN R r c q ti) P P ≤ 12 * al8 R P := Nat.le_trans hs (Nat.mul_le_mul_right _ hP)
        rw [if_neg g8, if_pos g9, look0 hRo hle hMo hw hr, Option.bind_some]
        dsimp only
        rw [k8, k9, Option.bind_some, Option.bind_some]
        dsimp only
        rw [all8 hP hr, Option.bind_some, hmpu, whole_n hP, Option.bind_some, show (27720 : Int64) = lN 27720 from rfl, show (10 : Int64) = lN 10 from rfl, lN_mul, lN_mul]
        by_cases hP0 : P = 0
        · have hz : sR R (erN mo da f q k w R) (uN2 mo da f q k w) (rkN R r c q ti) P P = 0 := by rw [hP0]; rfl
          rw [hz, Nat.mul_zero]
          by_cases h3 : R = 3
          · have ha : al8 R P = 0 := by rw [hP0, h3]; rfl
            have hf := fr00 p3
            have e0 : (0 : Int64) = lN 0 := rfl
            rw [ha, show lN 0 = (0 : Int64) from rfl, hf, e0, fr9 p3 (by decide) (by omega) (by rw [hP0]; decide)]
            refine ⟨_, _, rfl, rfl, ?_⟩
            unfold frN
            rw [hP0]
            rcases hb3 with rfl | rfl
            · dsimp only
              decide +kernel
            · dsimp only
              decide +kernel
          · have hb0 : 0 < al8 R P := by
              unfold al8
              rw [hP0]
              by_cases h2 : R = 2
              · rw [if_pos h2]; decide
              · rw [if_neg h2, if_neg h3]; decide
            have hg : ∀ B : Nat, 0 < B → frN 0 B p3 = frN 0 1 p3 := fun B h => by
              have h2 := frN_k (A := 0) (B := 1) p3 h
              rw [Nat.mul_zero, Nat.mul_one] at h2
              exact h2
            have hB : 0 < 10 ^ P * 27720 * 10 := by rw [hP0]; decide
            rw [fr8 p3 (by decide) (by omega) hb0, fr9 p3 (by decide) (by omega) hB, hg _ hb0, hg _ hB]
            exact ⟨_, _, rfl, rfl, rfl⟩
        · have hk := kap_al (R := R) (P := P) (by omega) hP
          have h0 := kap_pos (R := R) (P := P) (by omega) hP
          have hb0 := al8_pos (R := R) (P := P) (by omega) hP
          have hs3 := Nat.mul_le_mul_left (kap R P * 10) hs2
          have e1 : kap R P * 10 * (12 * al8 R P) = 120 * (kap R P * al8 R P) := by
            rw [Nat.mul_mul_mul_comm, Nat.mul_comm (kap R P) 12, Nat.mul_assoc 12, Nat.mul_comm 10, ← Nat.mul_assoc (kap R P), Nat.mul_comm (kap R P * al8 R P) 10, ← Nat.mul_assoc]
          have e2 : 10 ^ P * 27720 * 10 = kap R P * 10 * al8 R P := by rw [← hk, Nat.mul_right_comm]
          rw [fr8 p3 (by omega) (by omega) hb0, fr9 p3 (by omega) (by omega) (by omega), e2, frN_k p3 (show 0 < kap R P * 10 by omega)]
          exact ⟨_, _, rfl, rfl, rfl⟩
  obtain ⟨u, v, a, b, e⟩ := key
  exact ⟨u, v, a, b, e, hR'⟩
set_option maxHeartbeats 1000000 in
set_option maxRecDepth 10000 in
theorem P_mostly (N : Nat) (hN : N < 4000) (tx_length : Int32) (tx_bytes : Nat → Int32) (ro_pupils : Int32) (ro_mood : Int32) (ro_letters : Nat → Int32) (ro_rows : Nat → Int32) (ro_columns : Nat → Int32) (ro_tenths : Nat → Int32) (ro_needs : Nat → Int32) (ro_toldDares : Nat → Int32) (le_seed : Int64) (le_questions : Int32) (le_rightOnes : Int32) (le_wrongOnes : Int32) (le_isKept : Int32) (le_dares : Nat → Int32) (le_times : Nat → Int32) (ha_cells : Nat → Int64) (ch_pupils : Int32) (ch_rule : Int32) (ch_ranks : Nat → Int32) (ch_eligible : Nat → Int32) (ch_eligibleAndRight : Nat → Int32) (ch_cells : Nat → Int64) (s1_seed : Int64) (s1_questions : Int32) (s1_rightOnes : Int32) (s1_wrongOnes : Int32) (s1_isKept : Int32) (s1_dares : Nat → Int32) (s1_times : Nat → Int32) (s2_seed : Int64) (s2_questions : Int32) (s2_rightOnes : Int32) (s2_wrongOnes : Int32) (s2_isKept : Int32) (s2_dares : Nat → Int32) (s2_times : Nat → Int32) (ta_size : Int32) (ta_hands : Nat → Int32) (ta_ones : Nat → Int32) (ta_cells : Nat → Int64) (tr_waited : Int32) (tr_size : Int32) (tr_hands : Nat → Int32) (m_readMany : Int32) (m_pupils : Int32) (m_mood : Int32) (m_length : Int32) (m_at : Int32) (m_faultAt : Int32) (m_drawn : Int64) (m_questions : Int32) (m_rights : Int32) (m_wrongs : Int32) (m_tapes : Int32) (m_trials : Int32) (m_read : Nat → Int32) (m_pupil : Nat → Int32) (m_dares : Nat → Int32) (m_times : Nat → Int32) (m_text : Nat → Int32) (m_joint : Nat → Int64) (m_others : Nat → Int64) (m_tapeHands : Nat → Int32) (m_tapeTaken : Nat → Int32) (m_trialHands : Nat → Int32) (m_trialWaited : Nat → Int32) (m_isKept : Nat → Int32) (m_keptDares : Nat → Int32) (m_keptTimes : Nat → Int32) (m_keptDrawn : Nat → Int64) (m_keptLesson : Nat → Int32) (p1 : Int32) (p2 : Int32) (hR : Rel N tx_length tx_bytes ro_pupils ro_mood ro_letters ro_rows ro_columns ro_tenths ro_needs ro_toldDares le_seed le_questions le_rightOnes le_wrongOnes le_dares le_times s1_seed s1_questions s1_rightOnes s1_wrongOnes s1_isKept s1_dares s1_times s2_seed s2_questions s2_rightOnes s2_wrongOnes s2_isKept s2_dares s2_times ta_size ta_hands ta_ones tr_waited tr_size tr_hands m_pupils m_mood m_length m_drawn m_questions m_rights m_wrongs m_tapes m_trials m_pupil m_dares m_times m_text m_tapeHands m_tapeTaken m_trialHands m_trialWaited m_isKept m_keptDares m_keptTimes m_keptDrawn m_keptLesson) : ∃ (u : Int32 × Int32 × Int32 × (Nat → Int32) × (Nat → Int32) × (Nat → Int32) × (Nat → Int64)) (v : Int32 × (Nat → Int64)), FX8_mostly ro_pupils ro_mood ro_letters ro_rows ro_columns ro_tenths ro_needs le_dares le_times ch_pupils ch_rule ch_ranks ch_eligible ch_eligibleAndRight ch_cells p1 p2 = some u ∧ FX9_mostly m_pupils m_mood m_pupil m_dares m_times m_others p1 p2 = some v ∧ u.1 = v.1 ∧ Rel (N + 1) tx_length tx_bytes ro_pupils ro_mood ro_letters ro_rows ro_columns ro_tenths ro_needs ro_toldDares le_seed le_questions le_rightOnes le_wrongOnes le_dares le_times s1_seed s1_questions s1_rightOnes s1_wrongOnes s1_isKept s1_dares s1_times s2_seed s2_questions s2_rightOnes s2_wrongOnes s2_isKept s2_dares s2_times ta_size ta_hands ta_ones tr_waited tr_size tr_hands m_pupils m_mood m_length m_drawn m_questions m_rights m_wrongs m_tapes m_trials m_pupil m_dares m_times m_text m_tapeHands m_tapeTaken m_trialHands m_trialWaited m_isKept m_keptDares m_keptTimes m_keptDrawn m_keptLesson := by
  have hR' := Rel_mono hR (Nat.le_succ N)
  obtain ⟨-, ⟨mo, hMo⟩, ⟨P, r, c, k, q, d, f, da, ti, hRo, hle, -, -⟩, -, -, -⟩ := hR
  have hP := hRo.1
  have key : ∃ (u : Int32 × Int32 × Int32 × (Nat → Int32) × (Nat → Int32) × (Nat → Int32) × (Nat → Int64)) (v : Int32 × (Nat → Int64)), FX8_mostly ro_pupils ro_mood ro_letters ro_rows ro_columns ro_tenths ro_needs le_dares le_times ch_pupils ch_rule ch_ranks ch_eligible ch_eligibleAndRight ch_cells p1 p2 = some u ∧ FX9_mostly m_pupils m_mood m_pupil m_dares m_times m_others p1 p2 = some v ∧ u.1 = v.1 := by
    unfold FX8_mostly FX9_mostly FX8_noSeconds FX9_isWait FX8_noRule FX9_isRule
    rcases rng p2 0 4 0 4 0 4 rfl rfl rfl rfl (by decide) (by decide) with ⟨e8, e9⟩ | ⟨R, -, hr, rfl, e8, e9⟩
    · rw [if_pos e8, if_neg e9]; exact ⟨_, _, rfl, rfl, rfl⟩
    · rw [if_neg e8, if_pos e9]
      rcases rng p1 0 9 0 9 0 9 rfl rfl rfl rfl (by decide) (by decide) with ⟨g8, g9⟩ | ⟨w, -, hw, rfl, g8, g9⟩
      · rw [if_pos g8, if_neg g9]; exact ⟨_, _, rfl, rfl, rfl⟩
      · have he : ∀ o, o < P → uN2 mo da f q k w o ≤ 10 := fun o ho => uN2_le hRo ho
        obtain ⟨c2, k8⟩ := mos8 (R := R) (el := cpN P (fun p => nI (eE R (uN2 mo da f q k w) p)) ch_eligible) he (fun o ho => cpN_at ho) (rk_ok hRo hle hN R ch_ranks) hP hr ch_cells
        obtain ⟨⟨s1, s2⟩, k9, k9e⟩ := mos9 hRo hle hMo hN hw hr m_others
        simp only at k9e
        subst k9e
        rw [if_neg g8, if_pos g9, look0 hRo hle hMo hw hr, Option.bind_some]
        dsimp only
        rw [k8, k9]
        exact ⟨_, _, rfl, rfl, rfl⟩
  obtain ⟨u, v, a, b, e⟩ := key
  exact ⟨u, v, a, b, e, hR'⟩
set_option maxHeartbeats 1000000 in
set_option maxRecDepth 10000 in
theorem P_await (N : Nat) (hN : N < 4000) (tx_length : Int32) (tx_bytes : Nat → Int32) (ro_pupils : Int32) (ro_mood : Int32) (ro_letters : Nat → Int32) (ro_rows : Nat → Int32) (ro_columns : Nat → Int32) (ro_tenths : Nat → Int32) (ro_needs : Nat → Int32) (ro_toldDares : Nat → Int32) (le_seed : Int64) (le_questions : Int32) (le_rightOnes : Int32) (le_wrongOnes : Int32) (le_isKept : Int32) (le_dares : Nat → Int32) (le_times : Nat → Int32) (ha_cells : Nat → Int64) (ch_pupils : Int32) (ch_rule : Int32) (ch_ranks : Nat → Int32) (ch_eligible : Nat → Int32) (ch_eligibleAndRight : Nat → Int32) (ch_cells : Nat → Int64) (s1_seed : Int64) (s1_questions : Int32) (s1_rightOnes : Int32) (s1_wrongOnes : Int32) (s1_isKept : Int32) (s1_dares : Nat → Int32) (s1_times : Nat → Int32) (s2_seed : Int64) (s2_questions : Int32) (s2_rightOnes : Int32) (s2_wrongOnes : Int32) (s2_isKept : Int32) (s2_dares : Nat → Int32) (s2_times : Nat → Int32) (ta_size : Int32) (ta_hands : Nat → Int32) (ta_ones : Nat → Int32) (ta_cells : Nat → Int64) (tr_waited : Int32) (tr_size : Int32) (tr_hands : Nat → Int32) (m_readMany : Int32) (m_pupils : Int32) (m_mood : Int32) (m_length : Int32) (m_at : Int32) (m_faultAt : Int32) (m_drawn : Int64) (m_questions : Int32) (m_rights : Int32) (m_wrongs : Int32) (m_tapes : Int32) (m_trials : Int32) (m_read : Nat → Int32) (m_pupil : Nat → Int32) (m_dares : Nat → Int32) (m_times : Nat → Int32) (m_text : Nat → Int32) (m_joint : Nat → Int64) (m_others : Nat → Int64) (m_tapeHands : Nat → Int32) (m_tapeTaken : Nat → Int32) (m_trialHands : Nat → Int32) (m_trialWaited : Nat → Int32) (m_isKept : Nat → Int32) (m_keptDares : Nat → Int32) (m_keptTimes : Nat → Int32) (m_keptDrawn : Nat → Int64) (m_keptLesson : Nat → Int32) (p1 : Int32) (p2 : Int32) (hR : Rel N tx_length tx_bytes ro_pupils ro_mood ro_letters ro_rows ro_columns ro_tenths ro_needs ro_toldDares le_seed le_questions le_rightOnes le_wrongOnes le_dares le_times s1_seed s1_questions s1_rightOnes s1_wrongOnes s1_isKept s1_dares s1_times s2_seed s2_questions s2_rightOnes s2_wrongOnes s2_isKept s2_dares s2_times ta_size ta_hands ta_ones tr_waited tr_size tr_hands m_pupils m_mood m_length m_drawn m_questions m_rights m_wrongs m_tapes m_trials m_pupil m_dares m_times m_text m_tapeHands m_tapeTaken m_trialHands m_trialWaited m_isKept m_keptDares m_keptTimes m_keptDrawn m_keptLesson) : ∃ (u : Int32) (v : Int32), FX8_await ro_pupils ro_mood ro_letters ro_tenths ro_needs le_dares p1 p2 = some u ∧ FX9_await m_pupils m_mood m_pupil m_dares p1 p2 = some v ∧ u = v ∧ Rel (N + 1) tx_length tx_bytes ro_pupils ro_mood ro_letters ro_rows ro_columns ro_tenths ro_needs ro_toldDares le_seed le_questions le_rightOnes le_wrongOnes le_dares le_times s1_seed s1_questions s1_rightOnes s1_wrongOnes s1_isKept s1_dares s1_times s2_seed s2_questions s2_rightOnes s2_wrongOnes s2_isKept s2_dares s2_times ta_size ta_hands ta_ones tr_waited tr_size tr_hands m_pupils m_mood m_length m_drawn m_questions m_rights m_wrongs m_tapes m_trials m_pupil m_dares m_times m_text m_tapeHands m_tapeTaken m_trialHands m_trialWaited m_isKept m_keptDares m_keptTimes m_keptDrawn m_keptLesson := by
  have hR' := Rel_mono hR (Nat.le_succ N)
  obtain ⟨-, ⟨mo, hMo⟩, ⟨P, r, c, k, q, d, f, da, ti, hRo, hle, -, -⟩, -, -, -⟩ := hR
  have key : ∃ x, FX8_await ro_pupils ro_mood ro_letters ro_tenths ro_needs le_dares p1 p2 = some x ∧ FX9_await m_pupils m_mood m_pupil m_dares p1 p2 = some x := by
    unfold FX8_await FX9_await
    rcases rng p1 0 99 0 99 0 99 rfl rfl rfl rfl (by decide) (by decide) with ⟨g8, g9⟩ | ⟨v, -, hv, rfl, g8, g9⟩
    · rw [if_pos g8, if_neg g9]; exact ⟨_, rfl, rfl⟩
    · rw [if_neg g8, if_pos g9]
      rcases rng p2 0 99 0 99 0 99 rfl rfl rfl rfl (by decide) (by decide) with ⟨e8, e9⟩ | ⟨cc, -, hc, rfl, e8, e9⟩
      · rw [if_pos e8, if_neg e9]; exact ⟨_, rfl, rfl⟩
      · rw [if_neg e8, if_pos e9, ro_wait hRo hle hMo v cc, mo_wait hRo hle hMo v cc]; exact ⟨_, rfl, rfl⟩
  obtain ⟨x, a, b⟩ := key
  exact ⟨x, x, a, b, rfl, hR'⟩
set_option maxHeartbeats 1000000 in
set_option maxRecDepth 10000 in
theorem P_raised (N : Nat) (hN : N < 4000) (tx_length : Int32) (tx_bytes : Nat → Int32) (ro_pupils : Int32) (ro_mood : Int32) (ro_letters : Nat → Int32) (ro_rows : Nat → Int32) (ro_columns : Nat → Int32) (ro_tenths : Nat → Int32) (ro_needs : Nat → Int32) (ro_toldDares : Nat → Int32) (le_seed : Int64) (le_questions : Int32) (le_rightOnes : Int32) (le_wrongOnes : Int32) (le_isKept : Int32) (le_dares : Nat → Int32) (le_times : Nat → Int32) (ha_cells : Nat → Int64) (ch_pupils : Int32) (ch_rule : Int32) (ch_ranks : Nat → Int32) (ch_eligible : Nat → Int32) (ch_eligibleAndRight : Nat → Int32) (ch_cells : Nat → Int64) (s1_seed : Int64) (s1_questions : Int32) (s1_rightOnes : Int32) (s1_wrongOnes : Int32) (s1_isKept : Int32) (s1_dares : Nat → Int32) (s1_times : Nat → Int32) (s2_seed : Int64) (s2_questions : Int32) (s2_rightOnes : Int32) (s2_wrongOnes : Int32) (s2_isKept : Int32) (s2_dares : Nat → Int32) (s2_times : Nat → Int32) (ta_size : Int32) (ta_hands : Nat → Int32) (ta_ones : Nat → Int32) (ta_cells : Nat → Int64) (tr_waited : Int32) (tr_size : Int32) (tr_hands : Nat → Int32) (m_readMany : Int32) (m_pupils : Int32) (m_mood : Int32) (m_length : Int32) (m_at : Int32) (m_faultAt : Int32) (m_drawn : Int64) (m_questions : Int32) (m_rights : Int32) (m_wrongs : Int32) (m_tapes : Int32) (m_trials : Int32) (m_read : Nat → Int32) (m_pupil : Nat → Int32) (m_dares : Nat → Int32) (m_times : Nat → Int32) (m_text : Nat → Int32) (m_joint : Nat → Int64) (m_others : Nat → Int64) (m_tapeHands : Nat → Int32) (m_tapeTaken : Nat → Int32) (m_trialHands : Nat → Int32) (m_trialWaited : Nat → Int32) (m_isKept : Nat → Int32) (m_keptDares : Nat → Int32) (m_keptTimes : Nat → Int32) (m_keptDrawn : Nat → Int64) (m_keptLesson : Nat → Int32) (p1 : Int32) (p2 : Int32) (hR : Rel N tx_length tx_bytes ro_pupils ro_mood ro_letters ro_rows ro_columns ro_tenths ro_needs ro_toldDares le_seed le_questions le_rightOnes le_wrongOnes le_dares le_times s1_seed s1_questions s1_rightOnes s1_wrongOnes s1_isKept s1_dares s1_times s2_seed s2_questions s2_rightOnes s2_wrongOnes s2_isKept s2_dares s2_times ta_size ta_hands ta_ones tr_waited tr_size tr_hands m_pupils m_mood m_length m_drawn m_questions m_rights m_wrongs m_tapes m_trials m_pupil m_dares m_times m_text m_tapeHands m_tapeTaken m_trialHands m_trialWaited m_isKept m_keptDares m_keptTimes m_keptDrawn m_keptLesson) : ∃ (u : Int32) (v : Int32), FX8_raised ro_pupils ro_mood ro_letters ro_needs le_dares p1 p2 = some u ∧ FX9_raised m_pupils m_mood m_pupil m_dares p1 p2 = some v ∧ u = v ∧ Rel (N + 1) tx_length tx_bytes ro_pupils ro_mood ro_letters ro_rows ro_columns ro_tenths ro_needs ro_toldDares le_seed le_questions le_rightOnes le_wrongOnes le_dares le_times s1_seed s1_questions s1_rightOnes s1_wrongOnes s1_isKept s1_dares s1_times s2_seed s2_questions s2_rightOnes s2_wrongOnes s2_isKept s2_dares s2_times ta_size ta_hands ta_ones tr_waited tr_size tr_hands m_pupils m_mood m_length m_drawn m_questions m_rights m_wrongs m_tapes m_trials m_pupil m_dares m_times m_text m_tapeHands m_tapeTaken m_trialHands m_trialWaited m_isKept m_keptDares m_keptTimes m_keptDrawn m_keptLesson := by
  have hR' := Rel_mono hR (Nat.le_succ N)
  obtain ⟨-, ⟨mo, hMo⟩, ⟨P, r, c, k, q, d, f, da, ti, hRo, hle, -, -⟩, -, -, -⟩ := hR
  have key : ∃ x, FX8_raised ro_pupils ro_mood ro_letters ro_needs le_dares p1 p2 = some x ∧ FX9_raised m_pupils m_mood m_pupil m_dares p1 p2 = some x := by
    have hP := hRo.1
    have hpu := hRo.2.1
    have hmpu := hRo.2.2.1
    unfold FX8_raised FX9_raised FX8_noSeconds FX9_isWait
    have h12 := pow12 hP
    have hK2 : (FX3_noBits ro_pupils p1 = true ∧ ¬ FX9_isKnown m_pupils p1 = true) ∨ (∃ x : Nat, x < 2 ^ P ∧ p1 = nI x ∧ ¬ FX3_noBits ro_pupils p1 = true ∧ FX9_isKnown m_pupils p1 = true) := by
      have hK := rngK p1 P hP
      rw [hpu, hmpu]
      exact hK
    rcases hK2 with ⟨g8, g9⟩ | ⟨x, hx, rfl, g8, g9⟩
    · rw [if_pos g8, if_neg g9]; exact ⟨_, rfl, rfl⟩
    · rw [if_neg g8, if_pos g9]
      rcases rng p2 0 9 0 9 0 9 rfl rfl rfl rfl (by decide) (by decide) with ⟨e8, e9⟩ | ⟨w, -, hw, rfl, e8, e9⟩
      · rw [if_pos e8, if_neg e9]; exact ⟨_, rfl, rfl⟩
      · rw [if_neg e8, if_pos e9, ro_bits hRo hle hMo (by omega) hw, mo_bits hRo hle hMo (by omega) hw]; exact ⟨_, rfl, rfl⟩
  obtain ⟨x, a, b⟩ := key
  exact ⟨x, x, a, b, rfl, hR'⟩
set_option maxHeartbeats 1000000 in
set_option maxRecDepth 10000 in
theorem P_silent (N : Nat) (hN : N < 4000) (tx_length : Int32) (tx_bytes : Nat → Int32) (ro_pupils : Int32) (ro_mood : Int32) (ro_letters : Nat → Int32) (ro_rows : Nat → Int32) (ro_columns : Nat → Int32) (ro_tenths : Nat → Int32) (ro_needs : Nat → Int32) (ro_toldDares : Nat → Int32) (le_seed : Int64) (le_questions : Int32) (le_rightOnes : Int32) (le_wrongOnes : Int32) (le_isKept : Int32) (le_dares : Nat → Int32) (le_times : Nat → Int32) (ha_cells : Nat → Int64) (ch_pupils : Int32) (ch_rule : Int32) (ch_ranks : Nat → Int32) (ch_eligible : Nat → Int32) (ch_eligibleAndRight : Nat → Int32) (ch_cells : Nat → Int64) (s1_seed : Int64) (s1_questions : Int32) (s1_rightOnes : Int32) (s1_wrongOnes : Int32) (s1_isKept : Int32) (s1_dares : Nat → Int32) (s1_times : Nat → Int32) (s2_seed : Int64) (s2_questions : Int32) (s2_rightOnes : Int32) (s2_wrongOnes : Int32) (s2_isKept : Int32) (s2_dares : Nat → Int32) (s2_times : Nat → Int32) (ta_size : Int32) (ta_hands : Nat → Int32) (ta_ones : Nat → Int32) (ta_cells : Nat → Int64) (tr_waited : Int32) (tr_size : Int32) (tr_hands : Nat → Int32) (m_readMany : Int32) (m_pupils : Int32) (m_mood : Int32) (m_length : Int32) (m_at : Int32) (m_faultAt : Int32) (m_drawn : Int64) (m_questions : Int32) (m_rights : Int32) (m_wrongs : Int32) (m_tapes : Int32) (m_trials : Int32) (m_read : Nat → Int32) (m_pupil : Nat → Int32) (m_dares : Nat → Int32) (m_times : Nat → Int32) (m_text : Nat → Int32) (m_joint : Nat → Int64) (m_others : Nat → Int64) (m_tapeHands : Nat → Int32) (m_tapeTaken : Nat → Int32) (m_trialHands : Nat → Int32) (m_trialWaited : Nat → Int32) (m_isKept : Nat → Int32) (m_keptDares : Nat → Int32) (m_keptTimes : Nat → Int32) (m_keptDrawn : Nat → Int64) (m_keptLesson : Nat → Int32) (p1 : Int32) (p2 : Int32) (hR : Rel N tx_length tx_bytes ro_pupils ro_mood ro_letters ro_rows ro_columns ro_tenths ro_needs ro_toldDares le_seed le_questions le_rightOnes le_wrongOnes le_dares le_times s1_seed s1_questions s1_rightOnes s1_wrongOnes s1_isKept s1_dares s1_times s2_seed s2_questions s2_rightOnes s2_wrongOnes s2_isKept s2_dares s2_times ta_size ta_hands ta_ones tr_waited tr_size tr_hands m_pupils m_mood m_length m_drawn m_questions m_rights m_wrongs m_tapes m_trials m_pupil m_dares m_times m_text m_tapeHands m_tapeTaken m_trialHands m_trialWaited m_isKept m_keptDares m_keptTimes m_keptDrawn m_keptLesson) : ∃ (u : Int32) (v : Int32), FX8_silent ro_pupils ro_mood ro_letters ro_needs le_dares p1 p2 = some u ∧ FX9_silent m_pupils m_mood m_pupil m_dares p1 p2 = some v ∧ u = v ∧ Rel (N + 1) tx_length tx_bytes ro_pupils ro_mood ro_letters ro_rows ro_columns ro_tenths ro_needs ro_toldDares le_seed le_questions le_rightOnes le_wrongOnes le_dares le_times s1_seed s1_questions s1_rightOnes s1_wrongOnes s1_isKept s1_dares s1_times s2_seed s2_questions s2_rightOnes s2_wrongOnes s2_isKept s2_dares s2_times ta_size ta_hands ta_ones tr_waited tr_size tr_hands m_pupils m_mood m_length m_drawn m_questions m_rights m_wrongs m_tapes m_trials m_pupil m_dares m_times m_text m_tapeHands m_tapeTaken m_trialHands m_trialWaited m_isKept m_keptDares m_keptTimes m_keptDrawn m_keptLesson := by
  have hR' := Rel_mono hR (Nat.le_succ N)
  obtain ⟨-, ⟨mo, hMo⟩, ⟨P, r, c, k, q, d, f, da, ti, hRo, hle, -, -⟩, -, -, -⟩ := hR
  have key : ∃ x, FX8_silent ro_pupils ro_mood ro_letters ro_needs le_dares p1 p2 = some x ∧ FX9_silent m_pupils m_mood m_pupil m_dares p1 p2 = some x := by
    have hP := hRo.1
    have hpu := hRo.2.1
    have hmpu := hRo.2.2.1
    unfold FX8_silent FX9_silent FX8_noSeconds FX9_isWait
    have h12 := pow12 hP
    have hK2 : (FX3_noBits ro_pupils p1 = true ∧ ¬ FX9_isKnown m_pupils p1 = true) ∨ (∃ x : Nat, x < 2 ^ P ∧ p1 = nI x ∧ ¬ FX3_noBits ro_pupils p1 = true ∧ FX9_isKnown m_pupils p1 = true) := by
      have hK := rngK p1 P hP
      rw [hpu, hmpu]
      exact hK
    rcases hK2 with ⟨g8, g9⟩ | ⟨x, hx, rfl, g8, g9⟩
    · rw [if_pos g8, if_neg g9]; exact ⟨_, rfl, rfl⟩
    · rw [if_neg g8, if_pos g9]
      rcases rng p2 0 9 0 9 0 9 rfl rfl rfl rfl (by decide) (by decide) with ⟨e8, e9⟩ | ⟨w, -, hw, rfl, e8, e9⟩
      · rw [if_pos e8, if_neg e9]; exact ⟨_, rfl, rfl⟩
      · rw [if_neg e8, if_pos e9, ro_bits hRo hle hMo (by omega) hw, mo_bits hRo hle hMo (by omega) hw]; exact ⟨_, rfl, rfl⟩
  obtain ⟨x, a, b⟩ := key
  exact ⟨x, x, a, b, rfl, hR'⟩
set_option maxHeartbeats 1000000 in
set_option maxRecDepth 10000 in
theorem P_seed (N : Nat) (hN : N < 4000) (tx_length : Int32) (tx_bytes : Nat → Int32) (ro_pupils : Int32) (ro_mood : Int32) (ro_letters : Nat → Int32) (ro_rows : Nat → Int32) (ro_columns : Nat → Int32) (ro_tenths : Nat → Int32) (ro_needs : Nat → Int32) (ro_toldDares : Nat → Int32) (le_seed : Int64) (le_questions : Int32) (le_rightOnes : Int32) (le_wrongOnes : Int32) (le_isKept : Int32) (le_dares : Nat → Int32) (le_times : Nat → Int32) (ha_cells : Nat → Int64) (ch_pupils : Int32) (ch_rule : Int32) (ch_ranks : Nat → Int32) (ch_eligible : Nat → Int32) (ch_eligibleAndRight : Nat → Int32) (ch_cells : Nat → Int64) (s1_seed : Int64) (s1_questions : Int32) (s1_rightOnes : Int32) (s1_wrongOnes : Int32) (s1_isKept : Int32) (s1_dares : Nat → Int32) (s1_times : Nat → Int32) (s2_seed : Int64) (s2_questions : Int32) (s2_rightOnes : Int32) (s2_wrongOnes : Int32) (s2_isKept : Int32) (s2_dares : Nat → Int32) (s2_times : Nat → Int32) (ta_size : Int32) (ta_hands : Nat → Int32) (ta_ones : Nat → Int32) (ta_cells : Nat → Int64) (tr_waited : Int32) (tr_size : Int32) (tr_hands : Nat → Int32) (m_readMany : Int32) (m_pupils : Int32) (m_mood : Int32) (m_length : Int32) (m_at : Int32) (m_faultAt : Int32) (m_drawn : Int64) (m_questions : Int32) (m_rights : Int32) (m_wrongs : Int32) (m_tapes : Int32) (m_trials : Int32) (m_read : Nat → Int32) (m_pupil : Nat → Int32) (m_dares : Nat → Int32) (m_times : Nat → Int32) (m_text : Nat → Int32) (m_joint : Nat → Int64) (m_others : Nat → Int64) (m_tapeHands : Nat → Int32) (m_tapeTaken : Nat → Int32) (m_trialHands : Nat → Int32) (m_trialWaited : Nat → Int32) (m_isKept : Nat → Int32) (m_keptDares : Nat → Int32) (m_keptTimes : Nat → Int32) (m_keptDrawn : Nat → Int64) (m_keptLesson : Nat → Int32) (p1 : Int64) (hR : Rel N tx_length tx_bytes ro_pupils ro_mood ro_letters ro_rows ro_columns ro_tenths ro_needs ro_toldDares le_seed le_questions le_rightOnes le_wrongOnes le_dares le_times s1_seed s1_questions s1_rightOnes s1_wrongOnes s1_isKept s1_dares s1_times s2_seed s2_questions s2_rightOnes s2_wrongOnes s2_isKept s2_dares s2_times ta_size ta_hands ta_ones tr_waited tr_size tr_hands m_pupils m_mood m_length m_drawn m_questions m_rights m_wrongs m_tapes m_trials m_pupil m_dares m_times m_text m_tapeHands m_tapeTaken m_trialHands m_trialWaited m_isKept m_keptDares m_keptTimes m_keptDrawn m_keptLesson) : ∃ (u : Int64 × Int64) (v : Int64 × Int64), FX8_seed le_seed p1 = u ∧ FX9_seed m_drawn p1 = v ∧ u.1 = v.1 ∧ Rel (N + 1) tx_length tx_bytes ro_pupils ro_mood ro_letters ro_rows ro_columns ro_tenths ro_needs ro_toldDares u.2 le_questions le_rightOnes le_wrongOnes le_dares le_times s1_seed s1_questions s1_rightOnes s1_wrongOnes s1_isKept s1_dares s1_times s2_seed s2_questions s2_rightOnes s2_wrongOnes s2_isKept s2_dares s2_times ta_size ta_hands ta_ones tr_waited tr_size tr_hands m_pupils m_mood m_length v.2 m_questions m_rights m_wrongs m_tapes m_trials m_pupil m_dares m_times m_text m_tapeHands m_tapeTaken m_trialHands m_trialWaited m_isKept m_keptDares m_keptTimes m_keptDrawn m_keptLesson := by
  obtain ⟨hT, hM, hRo, ⟨e1, e2, e3, e4⟩, hr⟩ := Rel_mono hR (Nat.le_succ N)
  exact ⟨(le_seed, p1), (m_drawn, p1), rfl, rfl, e1, hT, hM, hRo, ⟨rfl, e2, e3, e4⟩, hr⟩
set_option maxHeartbeats 1000000 in
set_option maxRecDepth 10000 in
theorem P_ask (N : Nat) (hN : N < 4000) (tx_length : Int32) (tx_bytes : Nat → Int32) (ro_pupils : Int32) (ro_mood : Int32) (ro_letters : Nat → Int32) (ro_rows : Nat → Int32) (ro_columns : Nat → Int32) (ro_tenths : Nat → Int32) (ro_needs : Nat → Int32) (ro_toldDares : Nat → Int32) (le_seed : Int64) (le_questions : Int32) (le_rightOnes : Int32) (le_wrongOnes : Int32) (le_isKept : Int32) (le_dares : Nat → Int32) (le_times : Nat → Int32) (ha_cells : Nat → Int64) (ch_pupils : Int32) (ch_rule : Int32) (ch_ranks : Nat → Int32) (ch_eligible : Nat → Int32) (ch_eligibleAndRight : Nat → Int32) (ch_cells : Nat → Int64) (s1_seed : Int64) (s1_questions : Int32) (s1_rightOnes : Int32) (s1_wrongOnes : Int32) (s1_isKept : Int32) (s1_dares : Nat → Int32) (s1_times : Nat → Int32) (s2_seed : Int64) (s2_questions : Int32) (s2_rightOnes : Int32) (s2_wrongOnes : Int32) (s2_isKept : Int32) (s2_dares : Nat → Int32) (s2_times : Nat → Int32) (ta_size : Int32) (ta_hands : Nat → Int32) (ta_ones : Nat → Int32) (ta_cells : Nat → Int64) (tr_waited : Int32) (tr_size : Int32) (tr_hands : Nat → Int32) (m_readMany : Int32) (m_pupils : Int32) (m_mood : Int32) (m_length : Int32) (m_at : Int32) (m_faultAt : Int32) (m_drawn : Int64) (m_questions : Int32) (m_rights : Int32) (m_wrongs : Int32) (m_tapes : Int32) (m_trials : Int32) (m_read : Nat → Int32) (m_pupil : Nat → Int32) (m_dares : Nat → Int32) (m_times : Nat → Int32) (m_text : Nat → Int32) (m_joint : Nat → Int64) (m_others : Nat → Int64) (m_tapeHands : Nat → Int32) (m_tapeTaken : Nat → Int32) (m_trialHands : Nat → Int32) (m_trialWaited : Nat → Int32) (m_isKept : Nat → Int32) (m_keptDares : Nat → Int32) (m_keptTimes : Nat → Int32) (m_keptDrawn : Nat → Int64) (m_keptLesson : Nat → Int32) (p1 : Int32) (p2 : Int32) (p3 : Int32) (p4 : Int32) (hb4 : p4 = 0 ∨ p4 = 1) (hR : Rel N tx_length tx_bytes ro_pupils ro_mood ro_letters ro_rows ro_columns ro_tenths ro_needs ro_toldDares le_seed le_questions le_rightOnes le_wrongOnes le_dares le_times s1_seed s1_questions s1_rightOnes s1_wrongOnes s1_isKept s1_dares s1_times s2_seed s2_questions s2_rightOnes s2_wrongOnes s2_isKept s2_dares s2_times ta_size ta_hands ta_ones tr_waited tr_size tr_hands m_pupils m_mood m_length m_drawn m_questions m_rights m_wrongs m_tapes m_trials m_pupil m_dares m_times m_text m_tapeHands m_tapeTaken m_trialHands m_trialWaited m_isKept m_keptDares m_keptTimes m_keptDrawn m_keptLesson) : ∃ (u : Int32 × Int64 × Int32 × (Nat → Int32) × Int32 × (Nat → Int32) × Int32) (v : Int32 × Int32 × (Nat → Int32) × (Nat → Int32) × Int32 × Int32 × Int64), FX8_ask ro_pupils ro_mood ro_letters ro_rows ro_columns ro_needs le_seed le_questions le_rightOnes le_wrongOnes le_dares le_times p1 p2 p3 p4 = some u ∧ FX9_ask m_pupils m_mood m_drawn m_questions m_rights m_wrongs m_pupil m_dares m_times p1 p2 p3 p4 = some v ∧ u.1 = v.1 ∧ Rel (N + 1) tx_length tx_bytes ro_pupils ro_mood ro_letters ro_rows ro_columns ro_tenths ro_needs ro_toldDares u.2.1 u.2.2.1 u.2.2.2.2.2.2 u.2.2.2.2.1 u.2.2.2.2.2.1 u.2.2.2.1 s1_seed s1_questions s1_rightOnes s1_wrongOnes s1_isKept s1_dares s1_times s2_seed s2_questions s2_rightOnes s2_wrongOnes s2_isKept s2_dares s2_times ta_size ta_hands ta_ones tr_waited tr_size tr_hands m_pupils m_mood m_length v.2.2.2.2.2.2 v.2.1 v.2.2.2.2.1 v.2.2.2.2.2.1 m_tapes m_trials m_pupil v.2.2.2.1 v.2.2.1 m_text m_tapeHands m_tapeTaken m_trialHands m_trialWaited m_isKept m_keptDares m_keptTimes m_keptDrawn m_keptLesson := by
  obtain ⟨hTx, hM, ⟨P, r, c, k, q, d, f, da, ti, hRo, hle, hs1, hs2⟩, hL, hTa, hTr⟩ := hR
  have hR' : RSl (N + 1) P 0 s1_isKept s1_dares s1_times s1_seed s1_questions s1_rightOnes s1_wrongOnes m_isKept m_keptDares m_keptTimes m_keptDrawn m_keptLesson ∧ RSl (N + 1) P 1 s2_isKept s2_dares s2_times s2_seed s2_questions s2_rightOnes s2_wrongOnes m_isKept m_keptDares m_keptTimes m_keptDrawn m_keptLesson := ⟨RSl_mono hs1 (Nat.le_succ N), RSl_mono hs2 (Nat.le_succ N)⟩
  obtain ⟨hk1, hk2⟩ := hR'
  have hle1 := RLe_mono hle (Nat.le_succ N)
  have hP := hRo.1
  have hpu := hRo.2.1
  have hmpu := hRo.2.2.1
  have hM0 := hM
  obtain ⟨mo, hMo⟩ := hM0
  obtain ⟨l1, l2, l3, l4⟩ := hL
  have hstay : ∀ a : Int32, FX8_ask ro_pupils ro_mood ro_letters ro_rows ro_columns ro_needs le_seed le_questions le_rightOnes le_wrongOnes le_dares le_times p1 p2 p3 p4 = some (a, le_seed, le_questions, le_times, le_wrongOnes, le_dares, le_rightOnes) → FX9_ask m_pupils m_mood m_drawn m_questions m_rights m_wrongs m_pupil m_dares m_times p1 p2 p3 p4 = some (a, m_questions, m_times, m_dares, m_rights, m_wrongs, m_drawn) → ∃ (u : Int32 × Int64 × Int32 × (Nat → Int32) × Int32 × (Nat → Int32) × Int32) (v : Int32 × Int32 × (Nat → Int32) × (Nat → Int32) × Int32 × Int32 × Int64), FX8_ask ro_pupils ro_mood ro_letters ro_rows ro_columns ro_needs le_seed le_questions le_rightOnes le_wrongOnes le_dares le_times p1 p2 p3 p4 = some u ∧ FX9_ask m_pupils m_mood m_drawn m_questions m_rights m_wrongs m_pupil m_dares m_times p1 p2 p3 p4 = some v ∧ u.1 = v.1 ∧ Rel (N + 1) tx_length tx_bytes ro_pupils ro_mood ro_letters ro_rows ro_columns ro_tenths ro_needs ro_toldDares u.2.1 u.2.2.1 u.2.2.2.2.2.2 u.2.2.2.2.1 u.2.2.2.2.2.1 u.2.2.2.1 s1_seed s1_questions s1_rightOnes s1_wrongOnes s1_isKept s1_dares s1_times s2_seed s2_questions s2_rightOnes s2_wrongOnes s2_isKept s2_dares s2_times ta_size ta_hands ta_ones tr_waited tr_size tr_hands m_pupils m_mood m_length v.2.2.2.2.2.2 v.2.1 v.2.2.2.2.1 v.2.2.2.2.2.1 m_tapes m_trials m_pupil v.2.2.2.1 v.2.2.1 m_text m_tapeHands m_tapeTaken m_trialHands m_trialWaited m_isKept m_keptDares m_keptTimes m_keptDrawn m_keptLesson := fun a h1 h2 => ⟨_, _, h1, h2, rfl, hTx, hM, ⟨P, r, c, k, q, d, f, da, ti, hRo, hle1, hk1, hk2⟩, ⟨l1, l2, l3, l4⟩, hTa, hTr⟩
  have hK2 : (FX3_noBits ro_pupils p1 = true ∧ ¬ FX9_isKnown m_pupils p1 = true) ∨ (∃ x : Nat, x < 2 ^ P ∧ p1 = nI x ∧ ¬ FX3_noBits ro_pupils p1 = true ∧ FX9_isKnown m_pupils p1 = true) := by
    have hK := rngK p1 P hP
    rw [hpu, hmpu]
    exact hK
  rcases rng p3 0 4 0 4 0 4 rfl rfl rfl rfl (by decide) (by decide) with ⟨e8, e9⟩ | ⟨R, -, hr, rfl, e8, e9⟩
  · exact hstay (-1) (by unfold FX8_ask FX8_noRule; rw [if_pos e8]) (by unfold FX9_ask FX9_isRule; rw [if_neg e9])
  · rcases hK2 with ⟨f8, f9⟩ | ⟨x, hx, rfl, f8, f9⟩
    · exact hstay (-2) (by unfold FX8_ask FX8_noRule; rw [if_neg e8, if_pos f8]) (by unfold FX9_ask FX9_isRule; rw [if_pos e9, if_neg f9])
    · rcases rng p2 0 9 0 9 0 9 rfl rfl rfl rfl (by decide) (by decide) with ⟨g8, g9⟩ | ⟨w, -, hw, rfl, g8, g9⟩
      · exact hstay (-2) (by unfold FX8_ask FX8_noRule FX8_noSeconds; rw [if_neg e8, if_neg f8, if_pos g8]) (by unfold FX9_ask FX9_isRule FX9_isWait; rw [if_pos e9, if_pos f9, if_neg g9])
      · have h12 := pow12 hP
        obtain ⟨y, s2, k1, k2, k3⟩ := pick_n hRo hle hMo hN le_seed (x := x) (w := w) (R := R) hx hw hr
        have k9 := k2 (nI x) (nI w) p4 m_questions m_rights m_wrongs
        rcases k3 with rfl | ⟨p, hp, rfl⟩
        · rw [ans9z] at k9
          refine ⟨(-9, s2, le_questions + 1, le_times, le_wrongOnes, le_dares, le_rightOnes), (-9, m_questions + 1, m_times, m_dares, m_rights, m_wrongs, s2), ?_, ?_, rfl, hTx, hM, ⟨P, r, c, k, q, d, f, da, ti, hRo, hle1, hk1, hk2⟩, ?_, hTa, hTr⟩
          · unfold FX8_ask FX8_noRule FX8_noSeconds nmb
            rw [if_neg e8, if_neg f8, if_neg g8, k1, Option.bind_some]
            dsimp only
            rw [ans8z]
          · unfold FX9_ask FX9_isRule FX9_isWait
            rw [if_pos e9, if_pos f9, if_pos g9, ← l1]
            exact k9
          · exact ⟨rfl, by rw [l2], l3, l4⟩
        · obtain ⟨⟨b1, b2, b3, b4, b5, b6⟩, hlt, ⟨hrw, hcl, htn, hnd, htd⟩, q0, q1, q2, q3, q4, q5⟩ := hRo.2.2.2 p hp
          obtain ⟨hd9, hti, hld, hmd, hlti, hmti⟩ := hle p hp
          rw [ans9 (x := da p) (t := ti p) (qq := q p) (by omega) hmd hd9 hmti (by omega) hw q3 b4] at k9
          have hri : FX3_isRight ro_needs (nI p) (bi (FX8_isIn (nI x) (nI p))) (nI w) = (x.testBit p && decide (q p ≤ w)) := by
            rw [isRight_n (by omega) hnd b4 hw, isIn_n (by omega) (by omega)]
            cases x.testBit p <;> simp [bi]
          refine ⟨(nI p, s2, le_questions + 1, upd le_times p (nI (ti p + 1)), (if (x.testBit p && decide (q p ≤ w)) = true then le_wrongOnes else le_wrongOnes + 1), upd le_dares p (nI (nwD (x.testBit p && decide (q p ≤ w)) p4 (da p))), (if (x.testBit p && decide (q p ≤ w)) = true then le_rightOnes + 1 else le_rightOnes)), (nI p, m_questions + 1, upd m_times p (nI (ti p + 1)), upd m_dares p (nI (nwD (x.testBit p && decide (q p ≤ w)) p4 (da p))), (if (x.testBit p && decide (q p ≤ w)) = true then m_rights + 1 else m_rights), (if (x.testBit p && decide (q p ≤ w)) = true then m_wrongs else m_wrongs + 1), s2), ?_, ?_, rfl, hTx, hM, ⟨P, r, c, k, q, d, f, _, _, hRo, RLe_ask hle hp (x.testBit p && decide (q p ≤ w)) p4, hk1, hk2⟩, ?_, hTa, hTr⟩
          · unfold FX8_ask FX8_noRule FX8_noSeconds nmb
            rw [if_neg e8, if_neg f8, if_neg g8, k1, Option.bind_some]
            dsimp only
            rw [hri, ans8 (by omega) hld hd9 hlti]
          · unfold FX9_ask FX9_isRule FX9_isWait
            rw [if_pos e9, if_pos f9, if_pos g9, ← l1]
            exact k9
          · exact ⟨rfl, by rw [l2], by rw [l3], by rw [l4]⟩
set_option maxHeartbeats 1000000 in
set_option maxRecDepth 10000 in
theorem P_lesson (N : Nat) (hN : N < 4000) (tx_length : Int32) (tx_bytes : Nat → Int32) (ro_pupils : Int32) (ro_mood : Int32) (ro_letters : Nat → Int32) (ro_rows : Nat → Int32) (ro_columns : Nat → Int32) (ro_tenths : Nat → Int32) (ro_needs : Nat → Int32) (ro_toldDares : Nat → Int32) (le_seed : Int64) (le_questions : Int32) (le_rightOnes : Int32) (le_wrongOnes : Int32) (le_isKept : Int32) (le_dares : Nat → Int32) (le_times : Nat → Int32) (ha_cells : Nat → Int64) (ch_pupils : Int32) (ch_rule : Int32) (ch_ranks : Nat → Int32) (ch_eligible : Nat → Int32) (ch_eligibleAndRight : Nat → Int32) (ch_cells : Nat → Int64) (s1_seed : Int64) (s1_questions : Int32) (s1_rightOnes : Int32) (s1_wrongOnes : Int32) (s1_isKept : Int32) (s1_dares : Nat → Int32) (s1_times : Nat → Int32) (s2_seed : Int64) (s2_questions : Int32) (s2_rightOnes : Int32) (s2_wrongOnes : Int32) (s2_isKept : Int32) (s2_dares : Nat → Int32) (s2_times : Nat → Int32) (ta_size : Int32) (ta_hands : Nat → Int32) (ta_ones : Nat → Int32) (ta_cells : Nat → Int64) (tr_waited : Int32) (tr_size : Int32) (tr_hands : Nat → Int32) (m_readMany : Int32) (m_pupils : Int32) (m_mood : Int32) (m_length : Int32) (m_at : Int32) (m_faultAt : Int32) (m_drawn : Int64) (m_questions : Int32) (m_rights : Int32) (m_wrongs : Int32) (m_tapes : Int32) (m_trials : Int32) (m_read : Nat → Int32) (m_pupil : Nat → Int32) (m_dares : Nat → Int32) (m_times : Nat → Int32) (m_text : Nat → Int32) (m_joint : Nat → Int64) (m_others : Nat → Int64) (m_tapeHands : Nat → Int32) (m_tapeTaken : Nat → Int32) (m_trialHands : Nat → Int32) (m_trialWaited : Nat → Int32) (m_isKept : Nat → Int32) (m_keptDares : Nat → Int32) (m_keptTimes : Nat → Int32) (m_keptDrawn : Nat → Int64) (m_keptLesson : Nat → Int32) (p1 : Int32) (hR : Rel N tx_length tx_bytes ro_pupils ro_mood ro_letters ro_rows ro_columns ro_tenths ro_needs ro_toldDares le_seed le_questions le_rightOnes le_wrongOnes le_dares le_times s1_seed s1_questions s1_rightOnes s1_wrongOnes s1_isKept s1_dares s1_times s2_seed s2_questions s2_rightOnes s2_wrongOnes s2_isKept s2_dares s2_times ta_size ta_hands ta_ones tr_waited tr_size tr_hands m_pupils m_mood m_length m_drawn m_questions m_rights m_wrongs m_tapes m_trials m_pupil m_dares m_times m_text m_tapeHands m_tapeTaken m_trialHands m_trialWaited m_isKept m_keptDares m_keptTimes m_keptDrawn m_keptLesson) : ∃ (u : Int32) (v : Int32), FX8_lesson ro_pupils le_questions le_rightOnes le_wrongOnes le_times p1 = some u ∧ FX9_lesson m_pupils m_questions m_rights m_wrongs m_times p1 = some v ∧ u = v ∧ Rel (N + 1) tx_length tx_bytes ro_pupils ro_mood ro_letters ro_rows ro_columns ro_tenths ro_needs ro_toldDares le_seed le_questions le_rightOnes le_wrongOnes le_dares le_times s1_seed s1_questions s1_rightOnes s1_wrongOnes s1_isKept s1_dares s1_times s2_seed s2_questions s2_rightOnes s2_wrongOnes s2_isKept s2_dares s2_times ta_size ta_hands ta_ones tr_waited tr_size tr_hands m_pupils m_mood m_length m_drawn m_questions m_rights m_wrongs m_tapes m_trials m_pupil m_dares m_times m_text m_tapeHands m_tapeTaken m_trialHands m_trialWaited m_isKept m_keptDares m_keptTimes m_keptDrawn m_keptLesson := by
  have hR' := Rel_mono hR (Nat.le_succ N)
  obtain ⟨-, -, ⟨P, r, c, k, q, d, f, da, ti, hRo, hle, -, -⟩, ⟨hs1, hs2, hs3, hs4⟩, -, -⟩ := hR
  have key : ∃ x, FX8_lesson ro_pupils le_questions le_rightOnes le_wrongOnes le_times p1 = some x ∧ FX9_lesson m_pupils m_questions m_rights m_wrongs m_times p1 = some x := by
    unfold FX8_lesson FX9_lesson
    rw [lesson_n hRo.1 hRo.2.2.1 hle hN, never_n hRo.1 hRo.2.1 hle hN, most_n hRo.1 hRo.2.1 hle hN, Option.bind_some, Option.bind_some, Option.bind_some, hs2, hs3, hs4]
    by_cases c0 : p1 = (0 : Int32)
    · rw [if_pos c0]; exact ⟨_, rfl, rfl⟩
    · rw [if_neg c0]
      by_cases c1 : p1 = (1 : Int32)
      · rw [if_pos c1]; exact ⟨_, rfl, rfl⟩
      · rw [if_neg c1]
        by_cases c2 : p1 = (2 : Int32)
        · rw [if_pos c2]; exact ⟨_, rfl, rfl⟩
        · rw [if_neg c2]
          by_cases c3 : p1 = (3 : Int32)
          · rw [if_pos c3]; exact ⟨_, rfl, rfl⟩
          · rw [if_neg c3]
            by_cases c4 : p1 = (4 : Int32)
            · rw [if_pos c4]; exact ⟨_, rfl, rfl⟩
            · rw [if_neg c4]
              by_cases c5 : p1 = (5 : Int32)
              · rw [if_pos c5]; exact ⟨_, rfl, rfl⟩
              · rw [if_neg c5]; exact ⟨_, rfl, rfl⟩
  obtain ⟨x, a, b⟩ := key
  exact ⟨x, x, a, b, rfl, hR'⟩
set_option maxHeartbeats 1000000 in
set_option maxRecDepth 10000 in
theorem P_tape (N : Nat) (hN : N < 4000) (tx_length : Int32) (tx_bytes : Nat → Int32) (ro_pupils : Int32) (ro_mood : Int32) (ro_letters : Nat → Int32) (ro_rows : Nat → Int32) (ro_columns : Nat → Int32) (ro_tenths : Nat → Int32) (ro_needs : Nat → Int32) (ro_toldDares : Nat → Int32) (le_seed : Int64) (le_questions : Int32) (le_rightOnes : Int32) (le_wrongOnes : Int32) (le_isKept : Int32) (le_dares : Nat → Int32) (le_times : Nat → Int32) (ha_cells : Nat → Int64) (ch_pupils : Int32) (ch_rule : Int32) (ch_ranks : Nat → Int32) (ch_eligible : Nat → Int32) (ch_eligibleAndRight : Nat → Int32) (ch_cells : Nat → Int64) (s1_seed : Int64) (s1_questions : Int32) (s1_rightOnes : Int32) (s1_wrongOnes : Int32) (s1_isKept : Int32) (s1_dares : Nat → Int32) (s1_times : Nat → Int32) (s2_seed : Int64) (s2_questions : Int32) (s2_rightOnes : Int32) (s2_wrongOnes : Int32) (s2_isKept : Int32) (s2_dares : Nat → Int32) (s2_times : Nat → Int32) (ta_size : Int32) (ta_hands : Nat → Int32) (ta_ones : Nat → Int32) (ta_cells : Nat → Int64) (tr_waited : Int32) (tr_size : Int32) (tr_hands : Nat → Int32) (m_readMany : Int32) (m_pupils : Int32) (m_mood : Int32) (m_length : Int32) (m_at : Int32) (m_faultAt : Int32) (m_drawn : Int64) (m_questions : Int32) (m_rights : Int32) (m_wrongs : Int32) (m_tapes : Int32) (m_trials : Int32) (m_read : Nat → Int32) (m_pupil : Nat → Int32) (m_dares : Nat → Int32) (m_times : Nat → Int32) (m_text : Nat → Int32) (m_joint : Nat → Int64) (m_others : Nat → Int64) (m_tapeHands : Nat → Int32) (m_tapeTaken : Nat → Int32) (m_trialHands : Nat → Int32) (m_trialWaited : Nat → Int32) (m_isKept : Nat → Int32) (m_keptDares : Nat → Int32) (m_keptTimes : Nat → Int32) (m_keptDrawn : Nat → Int64) (m_keptLesson : Nat → Int32) (p1 : Int32) (p2 : Int32) (hR : Rel N tx_length tx_bytes ro_pupils ro_mood ro_letters ro_rows ro_columns ro_tenths ro_needs ro_toldDares le_seed le_questions le_rightOnes le_wrongOnes le_dares le_times s1_seed s1_questions s1_rightOnes s1_wrongOnes s1_isKept s1_dares s1_times s2_seed s2_questions s2_rightOnes s2_wrongOnes s2_isKept s2_dares s2_times ta_size ta_hands ta_ones tr_waited tr_size tr_hands m_pupils m_mood m_length m_drawn m_questions m_rights m_wrongs m_tapes m_trials m_pupil m_dares m_times m_text m_tapeHands m_tapeTaken m_trialHands m_trialWaited m_isKept m_keptDares m_keptTimes m_keptDrawn m_keptLesson) : ∃ (u : Int32 × (Nat → Int32) × (Nat → Int32) × Int32) (v : Int32 × (Nat → Int32) × (Nat → Int32) × Int32), FX8_tape ta_size ta_hands ta_ones p1 p2 = u ∧ FX9_tape m_tapes m_tapeHands m_tapeTaken p1 p2 = some v ∧ u.1 = v.1 ∧ Rel (N + 1) tx_length tx_bytes ro_pupils ro_mood ro_letters ro_rows ro_columns ro_tenths ro_needs ro_toldDares le_seed le_questions le_rightOnes le_wrongOnes le_dares le_times s1_seed s1_questions s1_rightOnes s1_wrongOnes s1_isKept s1_dares s1_times s2_seed s2_questions s2_rightOnes s2_wrongOnes s2_isKept s2_dares s2_times u.2.2.2 u.2.1 u.2.2.1 tr_waited tr_size tr_hands m_pupils m_mood m_length m_drawn m_questions m_rights m_wrongs v.2.2.2 m_trials m_pupil m_dares m_times m_text v.2.1 v.2.2.1 m_trialHands m_trialWaited m_isKept m_keptDares m_keptTimes m_keptDrawn m_keptLesson := by
  obtain ⟨hTx, hM, hRo, hL, hTa, hTr⟩ := Rel_mono hR (Nat.le_succ N)
  have hTa0 := hTa
  obtain ⟨T, h, o, hT, hts, hmts, hta⟩ := hTa0
  rcases rng p1 1 4095 1 4095 1 4095 rfl rfl rfl rfl (by decide) (by decide) with ⟨g8, g9⟩ | ⟨x, hx1, hx, rfl, g8, g9⟩
  · exact ⟨(-2, ta_hands, ta_ones, ta_size), (-2, m_tapeHands, m_tapeTaken, m_tapes), by unfold FX8_tape; rw [if_pos g8], by unfold FX9_tape; rw [if_neg g9], rfl, hTx, hM, hRo, hL, hTa, hTr⟩
  · rcases rng p2 0 11 0 11 0 11 rfl rfl rfl rfl (by decide) (by decide) with ⟨e8, e9⟩ | ⟨k, -, hk, rfl, e8, e9⟩
    · have hin : ¬ FX8_isIn (nI x) p2 = true := by rw [isIn_out (out11 e8)]; decide
      exact ⟨(-2, ta_hands, ta_ones, ta_size), (-2, m_tapeHands, m_tapeTaken, m_tapes), by unfold FX8_tape; rw [if_neg g8, if_neg hin], by unfold FX9_tape; rw [if_pos g9, if_neg e9], rfl, hTx, hM, hRo, hL, hTa, hTr⟩
    · have hbit := bit_n (x := x) (k := k) (by omega) (by omega)
      rw [bit_t] at hbit
      have hisin := isIn_n (x := x) (k := k) (by omega) (by omega)
      by_cases cb : x.testBit k = true
      · rw [if_pos cb] at hbit
        have hin : FX8_isIn (nI x) (nI k) = true := by rw [hisin]; exact cb
        have hne : ¬ (nI x >>> (nI k &&& 31)) &&& (1 : Int32) = 0 := by rw [hbit]; decide
        by_cases cT : T = 12
        · have c8 : ¬ ta_size < (12 : Int32) := by rw [hts, cT]; decide
          have c9 : m_tapes = (12 : Int32) := by rw [hmts, cT]; rfl
          exact ⟨(-4, ta_hands, ta_ones, ta_size), (-4, m_tapeHands, m_tapeTaken, m_tapes), by unfold FX8_tape FX5_add nmb; rw [if_neg g8, if_pos hin, if_neg c8], by unfold FX9_tape; rw [if_pos g9, if_pos e9, if_neg hne, if_pos c9], rfl, hTx, hM, hRo, hL, hTa, hTr⟩
        · have c8 : ta_size < (12 : Int32) := by rw [hts]; exact nI_lt (b := 12) (by omega) (by decide)
          have c9 : ¬ m_tapes = (12 : Int32) := by rw [hmts]; exact fun q => cT ((nI_eq (b := 12) (by omega) (by decide)).mp q)
          refine ⟨(nI (T + 1), upd ta_hands T (nI x), upd ta_ones T (nI k), nI (T + 1)), (nI (T + 1), upd m_tapeHands T (nI x), upd m_tapeTaken T (nI k), nI (T + 1)), ?_, ?_, rfl, hTx, hM, hRo, hL, ⟨T + 1, fun i => if i = T then x else h i, fun i => if i = T then k else o i, by omega, rfl, rfl, fun i hi => ?_⟩, hTr⟩
          · unfold FX8_tape FX5_add nmb
            rw [if_neg g8, if_pos hin, if_pos c8, hts, gput_n (by omega) (by decide), gput_n (by omega) (by decide), nI_1]
          · unfold FX9_tape
            rw [if_pos g9, if_pos e9, if_neg hne, if_neg c9, hmts, gdI (by omega) (by decide), gdI (by omega) (by decide), nI_clamp (by omega), nI_1]
          · by_cases ci : i = T
            · subst ci
              simp only [if_true, upd_s]
              exact ⟨hx1, hx, by omega, cb, trivial, trivial, trivial, trivial⟩
            · simp only [if_neg ci]
              obtain ⟨a1, a2, a3, a4, a5, a6, a7, a8⟩ := hta i (by omega)
              exact ⟨a1, a2, a3, a4, by show upd ta_hands T (nI x) i = _; rw [upd_n ci]; exact a5, by show upd m_tapeHands T (nI x) i = _; rw [upd_n ci]; exact a6, by show upd ta_ones T (nI k) i = _; rw [upd_n ci]; exact a7, by show upd m_tapeTaken T (nI k) i = _; rw [upd_n ci]; exact a8⟩
      · rw [if_neg cb] at hbit
        have hin : ¬ FX8_isIn (nI x) (nI k) = true := by rw [hisin]; exact cb
        have hz : (nI x >>> (nI k &&& 31)) &&& (1 : Int32) = 0 := by rw [hbit]; rfl
        exact ⟨(-2, ta_hands, ta_ones, ta_size), (-2, m_tapeHands, m_tapeTaken, m_tapes), by unfold FX8_tape; rw [if_neg g8, if_neg hin], by unfold FX9_tape; rw [if_pos g9, if_pos e9, if_pos hz], rfl, hTx, hM, hRo, hL, hTa, hTr⟩
set_option maxHeartbeats 1000000 in
set_option maxRecDepth 10000 in
theorem P_untape (N : Nat) (hN : N < 4000) (tx_length : Int32) (tx_bytes : Nat → Int32) (ro_pupils : Int32) (ro_mood : Int32) (ro_letters : Nat → Int32) (ro_rows : Nat → Int32) (ro_columns : Nat → Int32) (ro_tenths : Nat → Int32) (ro_needs : Nat → Int32) (ro_toldDares : Nat → Int32) (le_seed : Int64) (le_questions : Int32) (le_rightOnes : Int32) (le_wrongOnes : Int32) (le_isKept : Int32) (le_dares : Nat → Int32) (le_times : Nat → Int32) (ha_cells : Nat → Int64) (ch_pupils : Int32) (ch_rule : Int32) (ch_ranks : Nat → Int32) (ch_eligible : Nat → Int32) (ch_eligibleAndRight : Nat → Int32) (ch_cells : Nat → Int64) (s1_seed : Int64) (s1_questions : Int32) (s1_rightOnes : Int32) (s1_wrongOnes : Int32) (s1_isKept : Int32) (s1_dares : Nat → Int32) (s1_times : Nat → Int32) (s2_seed : Int64) (s2_questions : Int32) (s2_rightOnes : Int32) (s2_wrongOnes : Int32) (s2_isKept : Int32) (s2_dares : Nat → Int32) (s2_times : Nat → Int32) (ta_size : Int32) (ta_hands : Nat → Int32) (ta_ones : Nat → Int32) (ta_cells : Nat → Int64) (tr_waited : Int32) (tr_size : Int32) (tr_hands : Nat → Int32) (m_readMany : Int32) (m_pupils : Int32) (m_mood : Int32) (m_length : Int32) (m_at : Int32) (m_faultAt : Int32) (m_drawn : Int64) (m_questions : Int32) (m_rights : Int32) (m_wrongs : Int32) (m_tapes : Int32) (m_trials : Int32) (m_read : Nat → Int32) (m_pupil : Nat → Int32) (m_dares : Nat → Int32) (m_times : Nat → Int32) (m_text : Nat → Int32) (m_joint : Nat → Int64) (m_others : Nat → Int64) (m_tapeHands : Nat → Int32) (m_tapeTaken : Nat → Int32) (m_trialHands : Nat → Int32) (m_trialWaited : Nat → Int32) (m_isKept : Nat → Int32) (m_keptDares : Nat → Int32) (m_keptTimes : Nat → Int32) (m_keptDrawn : Nat → Int64) (m_keptLesson : Nat → Int32)  (hR : Rel N tx_length tx_bytes ro_pupils ro_mood ro_letters ro_rows ro_columns ro_tenths ro_needs ro_toldDares le_seed le_questions le_rightOnes le_wrongOnes le_dares le_times s1_seed s1_questions s1_rightOnes s1_wrongOnes s1_isKept s1_dares s1_times s2_seed s2_questions s2_rightOnes s2_wrongOnes s2_isKept s2_dares s2_times ta_size ta_hands ta_ones tr_waited tr_size tr_hands m_pupils m_mood m_length m_drawn m_questions m_rights m_wrongs m_tapes m_trials m_pupil m_dares m_times m_text m_tapeHands m_tapeTaken m_trialHands m_trialWaited m_isKept m_keptDares m_keptTimes m_keptDrawn m_keptLesson) : ∃ (u : Int32 × Int32) (v : Int32 × Int32), FX8_untape ta_size = u ∧ FX9_untape m_tapes = v ∧ u.1 = v.1 ∧ Rel (N + 1) tx_length tx_bytes ro_pupils ro_mood ro_letters ro_rows ro_columns ro_tenths ro_needs ro_toldDares le_seed le_questions le_rightOnes le_wrongOnes le_dares le_times s1_seed s1_questions s1_rightOnes s1_wrongOnes s1_isKept s1_dares s1_times s2_seed s2_questions s2_rightOnes s2_wrongOnes s2_isKept s2_dares s2_times u.2 ta_hands ta_ones tr_waited tr_size tr_hands m_pupils m_mood m_length m_drawn m_questions m_rights m_wrongs v.2 m_trials m_pupil m_dares m_times m_text m_tapeHands m_tapeTaken m_trialHands m_trialWaited m_isKept m_keptDares m_keptTimes m_keptDrawn m_keptLesson := by
  obtain ⟨hT, hM, hRo, hL, ⟨T, h, o, h1, h2, h3, h4⟩, hr⟩ := Rel_mono hR (Nat.le_succ N)
  exact ⟨(ta_size, 0), (m_tapes, 0), rfl, rfl, by show ta_size = m_tapes; rw [h2, h3], hT, hM, hRo, hL, ⟨0, h, o, by decide, rfl, rfl, fun i hi => absurd hi (Nat.not_lt_zero i)⟩, hr⟩
set_option maxHeartbeats 1000000 in
set_option maxRecDepth 10000 in
theorem P_came (N : Nat) (hN : N < 4000) (tx_length : Int32) (tx_bytes : Nat → Int32) (ro_pupils : Int32) (ro_mood : Int32) (ro_letters : Nat → Int32) (ro_rows : Nat → Int32) (ro_columns : Nat → Int32) (ro_tenths : Nat → Int32) (ro_needs : Nat → Int32) (ro_toldDares : Nat → Int32) (le_seed : Int64) (le_questions : Int32) (le_rightOnes : Int32) (le_wrongOnes : Int32) (le_isKept : Int32) (le_dares : Nat → Int32) (le_times : Nat → Int32) (ha_cells : Nat → Int64) (ch_pupils : Int32) (ch_rule : Int32) (ch_ranks : Nat → Int32) (ch_eligible : Nat → Int32) (ch_eligibleAndRight : Nat → Int32) (ch_cells : Nat → Int64) (s1_seed : Int64) (s1_questions : Int32) (s1_rightOnes : Int32) (s1_wrongOnes : Int32) (s1_isKept : Int32) (s1_dares : Nat → Int32) (s1_times : Nat → Int32) (s2_seed : Int64) (s2_questions : Int32) (s2_rightOnes : Int32) (s2_wrongOnes : Int32) (s2_isKept : Int32) (s2_dares : Nat → Int32) (s2_times : Nat → Int32) (ta_size : Int32) (ta_hands : Nat → Int32) (ta_ones : Nat → Int32) (ta_cells : Nat → Int64) (tr_waited : Int32) (tr_size : Int32) (tr_hands : Nat → Int32) (m_readMany : Int32) (m_pupils : Int32) (m_mood : Int32) (m_length : Int32) (m_at : Int32) (m_faultAt : Int32) (m_drawn : Int64) (m_questions : Int32) (m_rights : Int32) (m_wrongs : Int32) (m_tapes : Int32) (m_trials : Int32) (m_read : Nat → Int32) (m_pupil : Nat → Int32) (m_dares : Nat → Int32) (m_times : Nat → Int32) (m_text : Nat → Int32) (m_joint : Nat → Int64) (m_others : Nat → Int64) (m_tapeHands : Nat → Int32) (m_tapeTaken : Nat → Int32) (m_trialHands : Nat → Int32) (m_trialWaited : Nat → Int32) (m_isKept : Nat → Int32) (m_keptDares : Nat → Int32) (m_keptTimes : Nat → Int32) (m_keptDrawn : Nat → Int64) (m_keptLesson : Nat → Int32) (p1 : Int32) (hR : Rel N tx_length tx_bytes ro_pupils ro_mood ro_letters ro_rows ro_columns ro_tenths ro_needs ro_toldDares le_seed le_questions le_rightOnes le_wrongOnes le_dares le_times s1_seed s1_questions s1_rightOnes s1_wrongOnes s1_isKept s1_dares s1_times s2_seed s2_questions s2_rightOnes s2_wrongOnes s2_isKept s2_dares s2_times ta_size ta_hands ta_ones tr_waited tr_size tr_hands m_pupils m_mood m_length m_drawn m_questions m_rights m_wrongs m_tapes m_trials m_pupil m_dares m_times m_text m_tapeHands m_tapeTaken m_trialHands m_trialWaited m_isKept m_keptDares m_keptTimes m_keptDrawn m_keptLesson) : ∃ (u : Int32) (v : Int32), FX8_came ta_size ta_ones p1 = some u ∧ FX9_came m_tapes m_tapeTaken p1 = some v ∧ u = v ∧ Rel (N + 1) tx_length tx_bytes ro_pupils ro_mood ro_letters ro_rows ro_columns ro_tenths ro_needs ro_toldDares le_seed le_questions le_rightOnes le_wrongOnes le_dares le_times s1_seed s1_questions s1_rightOnes s1_wrongOnes s1_isKept s1_dares s1_times s2_seed s2_questions s2_rightOnes s2_wrongOnes s2_isKept s2_dares s2_times ta_size ta_hands ta_ones tr_waited tr_size tr_hands m_pupils m_mood m_length m_drawn m_questions m_rights m_wrongs m_tapes m_trials m_pupil m_dares m_times m_text m_tapeHands m_tapeTaken m_trialHands m_trialWaited m_isKept m_keptDares m_keptTimes m_keptDrawn m_keptLesson := by
  have hR' := Rel_mono hR (Nat.le_succ N)
  obtain ⟨-, -, -, -, ⟨T, h, o, hT, hts, hmts, hta⟩, -⟩ := hR
  have key : ∃ x, FX8_came ta_size ta_ones p1 = some x ∧ FX9_came m_tapes m_tapeTaken p1 = some x := by
    unfold FX8_came FX9_came FX9_isGroup
    rcases rng p1 0 4095 0 4095 0 4095 rfl rfl rfl rfl (by decide) (by decide) with ⟨g8, g9⟩ | ⟨G, -, hG, rfl, g8, g9⟩
    · rw [if_pos g8, if_neg g9]; exact ⟨_, rfl, rfl⟩
    · rw [if_neg g8, if_pos g9, taken8 (o := o) hT hts (fun i hi => ⟨(hta i hi).2.2.1, (hta i hi).2.2.2.2.2.2.1⟩) (by omega), taken9 (o := o) hT hmts (fun i hi => ⟨(hta i hi).2.2.1, (hta i hi).2.2.2.2.2.2.2⟩) (by omega)]
      exact ⟨_, rfl, rfl⟩
  obtain ⟨x, a, b⟩ := key
  exact ⟨x, x, a, b, rfl, hR'⟩
set_option maxHeartbeats 1000000 in
set_option maxRecDepth 10000 in
theorem P_due (N : Nat) (hN : N < 4000) (tx_length : Int32) (tx_bytes : Nat → Int32) (ro_pupils : Int32) (ro_mood : Int32) (ro_letters : Nat → Int32) (ro_rows : Nat → Int32) (ro_columns : Nat → Int32) (ro_tenths : Nat → Int32) (ro_needs : Nat → Int32) (ro_toldDares : Nat → Int32) (le_seed : Int64) (le_questions : Int32) (le_rightOnes : Int32) (le_wrongOnes : Int32) (le_isKept : Int32) (le_dares : Nat → Int32) (le_times : Nat → Int32) (ha_cells : Nat → Int64) (ch_pupils : Int32) (ch_rule : Int32) (ch_ranks : Nat → Int32) (ch_eligible : Nat → Int32) (ch_eligibleAndRight : Nat → Int32) (ch_cells : Nat → Int64) (s1_seed : Int64) (s1_questions : Int32) (s1_rightOnes : Int32) (s1_wrongOnes : Int32) (s1_isKept : Int32) (s1_dares : Nat → Int32) (s1_times : Nat → Int32) (s2_seed : Int64) (s2_questions : Int32) (s2_rightOnes : Int32) (s2_wrongOnes : Int32) (s2_isKept : Int32) (s2_dares : Nat → Int32) (s2_times : Nat → Int32) (ta_size : Int32) (ta_hands : Nat → Int32) (ta_ones : Nat → Int32) (ta_cells : Nat → Int64) (tr_waited : Int32) (tr_size : Int32) (tr_hands : Nat → Int32) (m_readMany : Int32) (m_pupils : Int32) (m_mood : Int32) (m_length : Int32) (m_at : Int32) (m_faultAt : Int32) (m_drawn : Int64) (m_questions : Int32) (m_rights : Int32) (m_wrongs : Int32) (m_tapes : Int32) (m_trials : Int32) (m_read : Nat → Int32) (m_pupil : Nat → Int32) (m_dares : Nat → Int32) (m_times : Nat → Int32) (m_text : Nat → Int32) (m_joint : Nat → Int64) (m_others : Nat → Int64) (m_tapeHands : Nat → Int32) (m_tapeTaken : Nat → Int32) (m_trialHands : Nat → Int32) (m_trialWaited : Nat → Int32) (m_isKept : Nat → Int32) (m_keptDares : Nat → Int32) (m_keptTimes : Nat → Int32) (m_keptDrawn : Nat → Int64) (m_keptLesson : Nat → Int32) (p1 : Int32) (p2 : Int32) (hb2 : p2 = 0 ∨ p2 = 1) (hR : Rel N tx_length tx_bytes ro_pupils ro_mood ro_letters ro_rows ro_columns ro_tenths ro_needs ro_toldDares le_seed le_questions le_rightOnes le_wrongOnes le_dares le_times s1_seed s1_questions s1_rightOnes s1_wrongOnes s1_isKept s1_dares s1_times s2_seed s2_questions s2_rightOnes s2_wrongOnes s2_isKept s2_dares s2_times ta_size ta_hands ta_ones tr_waited tr_size tr_hands m_pupils m_mood m_length m_drawn m_questions m_rights m_wrongs m_tapes m_trials m_pupil m_dares m_times m_text m_tapeHands m_tapeTaken m_trialHands m_trialWaited m_isKept m_keptDares m_keptTimes m_keptDrawn m_keptLesson) : ∃ (u : Int64) (v : Int64), FX8_due ta_size ta_hands p1 p2 = some u ∧ FX9_due m_tapes m_tapeHands p1 p2 = some v ∧ u = v ∧ Rel (N + 1) tx_length tx_bytes ro_pupils ro_mood ro_letters ro_rows ro_columns ro_tenths ro_needs ro_toldDares le_seed le_questions le_rightOnes le_wrongOnes le_dares le_times s1_seed s1_questions s1_rightOnes s1_wrongOnes s1_isKept s1_dares s1_times s2_seed s2_questions s2_rightOnes s2_wrongOnes s2_isKept s2_dares s2_times ta_size ta_hands ta_ones tr_waited tr_size tr_hands m_pupils m_mood m_length m_drawn m_questions m_rights m_wrongs m_tapes m_trials m_pupil m_dares m_times m_text m_tapeHands m_tapeTaken m_trialHands m_trialWaited m_isKept m_keptDares m_keptTimes m_keptDrawn m_keptLesson := by
  have hR' := Rel_mono hR (Nat.le_succ N)
  obtain ⟨-, -, -, -, ⟨T, h, o, hT, hts, hmts, hta⟩, -⟩ := hR
  have key : ∃ x, FX8_due ta_size ta_hands p1 p2 = some x ∧ FX9_due m_tapes m_tapeHands p1 p2 = some x := by
    unfold FX8_due FX9_due FX9_isGroup
    rcases rng p1 0 4095 0 4095 0 4095 rfl rfl rfl rfl (by decide) (by decide) with ⟨g8, g9⟩ | ⟨G, -, hG, rfl, g8, g9⟩
    · rw [if_pos g8, if_neg g9]; exact ⟨_, rfl, rfl⟩
    · have hle := shN_le h G T hT
      have e8 : FX8_fraction (lN (shN h G T)) (27720 : Int64) p2 = some (frN (shN h G T) 27720 p2) := fr8 p2 (by omega) (by decide) (by decide)
      have e9 : FX9_part (lN (shN h G T)) (27720 : Int64) p2 = some (frN (shN h G T) 27720 p2) := fr9 p2 (by omega) (by decide) (by decide)
      rw [if_neg g8, if_pos g9, due8 (h := h) (o := o) hT hts (fun i hi => ⟨(hta i hi).1, (hta i hi).2.1, (hta i hi).2.2.1, (hta i hi).2.2.2.1, (hta i hi).2.2.2.2.1⟩) (by omega), due9 (h := h) (o := o) hT hmts (fun i hi => ⟨(hta i hi).1, (hta i hi).2.1, (hta i hi).2.2.1, (hta i hi).2.2.2.1, (hta i hi).2.2.2.2.2.1⟩) (by omega), Option.bind_some, Option.bind_some, e8, e9]
      exact ⟨_, rfl, rfl⟩
  obtain ⟨x, a, b⟩ := key
  exact ⟨x, x, a, b, rfl, hR'⟩
set_option maxHeartbeats 1000000 in
set_option maxRecDepth 10000 in
theorem P_luck (N : Nat) (hN : N < 4000) (tx_length : Int32) (tx_bytes : Nat → Int32) (ro_pupils : Int32) (ro_mood : Int32) (ro_letters : Nat → Int32) (ro_rows : Nat → Int32) (ro_columns : Nat → Int32) (ro_tenths : Nat → Int32) (ro_needs : Nat → Int32) (ro_toldDares : Nat → Int32) (le_seed : Int64) (le_questions : Int32) (le_rightOnes : Int32) (le_wrongOnes : Int32) (le_isKept : Int32) (le_dares : Nat → Int32) (le_times : Nat → Int32) (ha_cells : Nat → Int64) (ch_pupils : Int32) (ch_rule : Int32) (ch_ranks : Nat → Int32) (ch_eligible : Nat → Int32) (ch_eligibleAndRight : Nat → Int32) (ch_cells : Nat → Int64) (s1_seed : Int64) (s1_questions : Int32) (s1_rightOnes : Int32) (s1_wrongOnes : Int32) (s1_isKept : Int32) (s1_dares : Nat → Int32) (s1_times : Nat → Int32) (s2_seed : Int64) (s2_questions : Int32) (s2_rightOnes : Int32) (s2_wrongOnes : Int32) (s2_isKept : Int32) (s2_dares : Nat → Int32) (s2_times : Nat → Int32) (ta_size : Int32) (ta_hands : Nat → Int32) (ta_ones : Nat → Int32) (ta_cells : Nat → Int64) (tr_waited : Int32) (tr_size : Int32) (tr_hands : Nat → Int32) (m_readMany : Int32) (m_pupils : Int32) (m_mood : Int32) (m_length : Int32) (m_at : Int32) (m_faultAt : Int32) (m_drawn : Int64) (m_questions : Int32) (m_rights : Int32) (m_wrongs : Int32) (m_tapes : Int32) (m_trials : Int32) (m_read : Nat → Int32) (m_pupil : Nat → Int32) (m_dares : Nat → Int32) (m_times : Nat → Int32) (m_text : Nat → Int32) (m_joint : Nat → Int64) (m_others : Nat → Int64) (m_tapeHands : Nat → Int32) (m_tapeTaken : Nat → Int32) (m_trialHands : Nat → Int32) (m_trialWaited : Nat → Int32) (m_isKept : Nat → Int32) (m_keptDares : Nat → Int32) (m_keptTimes : Nat → Int32) (m_keptDrawn : Nat → Int64) (m_keptLesson : Nat → Int32) (p1 : Int32) (p2 : Int32) (hb2 : p2 = 0 ∨ p2 = 1) (hR : Rel N tx_length tx_bytes ro_pupils ro_mood ro_letters ro_rows ro_columns ro_tenths ro_needs ro_toldDares le_seed le_questions le_rightOnes le_wrongOnes le_dares le_times s1_seed s1_questions s1_rightOnes s1_wrongOnes s1_isKept s1_dares s1_times s2_seed s2_questions s2_rightOnes s2_wrongOnes s2_isKept s2_dares s2_times ta_size ta_hands ta_ones tr_waited tr_size tr_hands m_pupils m_mood m_length m_drawn m_questions m_rights m_wrongs m_tapes m_trials m_pupil m_dares m_times m_text m_tapeHands m_tapeTaken m_trialHands m_trialWaited m_isKept m_keptDares m_keptTimes m_keptDrawn m_keptLesson) : ∃ (u : Int64 × (Nat → Int64)) (v : Int64 × (Nat → Int64)), FX8_luck ta_size ta_hands ta_ones ta_cells p1 p2 = some u ∧ FX9_luck m_tapes m_others m_tapeHands m_tapeTaken p1 p2 = some v ∧ u.1 = v.1 ∧ Rel (N + 1) tx_length tx_bytes ro_pupils ro_mood ro_letters ro_rows ro_columns ro_tenths ro_needs ro_toldDares le_seed le_questions le_rightOnes le_wrongOnes le_dares le_times s1_seed s1_questions s1_rightOnes s1_wrongOnes s1_isKept s1_dares s1_times s2_seed s2_questions s2_rightOnes s2_wrongOnes s2_isKept s2_dares s2_times ta_size ta_hands ta_ones tr_waited tr_size tr_hands m_pupils m_mood m_length m_drawn m_questions m_rights m_wrongs m_tapes m_trials m_pupil m_dares m_times m_text m_tapeHands m_tapeTaken m_trialHands m_trialWaited m_isKept m_keptDares m_keptTimes m_keptDrawn m_keptLesson := by
  have hR' := Rel_mono hR (Nat.le_succ N)
  obtain ⟨-, -, -, -, ⟨T, h, o, hT, hts, hmts, hta⟩, -⟩ := hR
  have key : ∃ (u v : Int64 × (Nat → Int64)), FX8_luck ta_size ta_hands ta_ones ta_cells p1 p2 = some u ∧ FX9_luck m_tapes m_others m_tapeHands m_tapeTaken p1 p2 = some v ∧ u.1 = v.1 := by
    unfold FX8_luck FX9_luck FX9_isGroup
    rcases rng p1 0 4095 0 4095 0 4095 rfl rfl rfl rfl (by decide) (by decide) with ⟨g8, g9⟩ | ⟨G, -, hG, rfl, g8, g9⟩
    · rw [if_pos g8, if_neg g9]; exact ⟨_, _, rfl, rfl, rfl⟩
    · have ho8 : ∀ i, i < T → h i ≤ 4095 ∧ ta_hands i = nI (h i) := fun i hi => ⟨(hta i hi).2.1, (hta i hi).2.2.2.2.1⟩
      have ho9 : ∀ i, i < T → h i ≤ 4095 ∧ m_tapeHands i = nI (h i) := fun i hi => ⟨(hta i hi).2.1, (hta i hi).2.2.2.2.2.1⟩
      have hC := caN_le o G T
      have hpop1 : ∀ i, i < T → 1 ≤ popN (h i) 12 := fun i hi => pop_pos (hta i hi).2.2.1 (hta i hi).2.2.2.1
      have hpr := pr_le (f := fun i => popN (h i) 12) (T := T) (fun i hi => popN_le (h i) 12) T (Nat.le_refl T)
      have h12 : 12 ^ T ≤ 12 ^ 12 := Nat.pow_le_pow_right (by decide) hT
      have h1212 : 12 ^ 12 = 8916100448256 := rfl
      have hpos := pr_pos (f := fun i => popN (h i) 12) (T := T) hpop1 T (Nat.le_refl T)
      have hpc := pr_c (f := fun i => miN h G i + reN h G i) (g := fun i => popN (h i) 12) (T := T) (fun i hi => mr_n h G i) T (Nat.le_refl T)
      have hu := UV_le (miN h G) (reN h G) T
      rw [hpc] at hu
      have hsh := sum_sh (f := UV (miN h G) (reN h G) T) (caN o G T) (13 - caN o G T)
      rw [show caN o G T + (13 - caN o G T) = 13 by omega] at hsh
      have hsame : sumN (fun n => UV (miN h G) (reN h G) T (caN o G T + n)) (13 - caN o G T) = sumN (fun n => UV (miN h G) (reN h G) T (caN o G T + n)) (T + 1 - caN o G T) := by
        have hc := sum_cut (f := fun n => UV (miN h G) (reN h G) T (caN o G T + n)) (P := T + 1 - caN o G T) (fun i hi => UV_0 _ _ T _ (by omega)) (12 - T)
        rw [show T + 1 - caN o G T + (12 - T) = 13 - caN o G T by omega] at hc
        exact hc
      rw [if_neg g8, if_pos g9]
      unfold FX5_waysToAsMany nmb
      rw [begin_n]
      dsimp only
      rw [luck8a hT hts ho8 (by omega), Option.bind_some, taken8 (o := o) hT hts (fun i hi => ⟨(hta i hi).2.2.1, (hta i hi).2.2.2.2.2.2.1⟩) (by omega), Option.bind_some, luck8b hT hts hC, Option.bind_some, Option.bind_some, luck8c hT hts ho8, Option.bind_some]
      rw [luck9a m_others (miN h G) (reN h G), Option.bind_some, luck9c hT hmts ho9 (by omega), Option.bind_some, taken9 (o := o) hT hmts (fun i hi => ⟨(hta i hi).2.2.1, (hta i hi).2.2.2.2.2.2.2⟩) (by omega), Option.bind_some, luck9d (by omega), Option.bind_some, hsame]
      dsimp only
      rw [fr8 p2 (by omega) (by omega) hpos, fr9 p2 (by omega) (by omega) hpos]
      exact ⟨_, _, rfl, rfl, rfl⟩
  obtain ⟨u, v, a, b, e⟩ := key
  exact ⟨u, v, a, b, e, hR'⟩
set_option maxHeartbeats 1000000 in
set_option maxRecDepth 10000 in
theorem P_boards (N : Nat) (hN : N < 4000) (tx_length : Int32) (tx_bytes : Nat → Int32) (ro_pupils : Int32) (ro_mood : Int32) (ro_letters : Nat → Int32) (ro_rows : Nat → Int32) (ro_columns : Nat → Int32) (ro_tenths : Nat → Int32) (ro_needs : Nat → Int32) (ro_toldDares : Nat → Int32) (le_seed : Int64) (le_questions : Int32) (le_rightOnes : Int32) (le_wrongOnes : Int32) (le_isKept : Int32) (le_dares : Nat → Int32) (le_times : Nat → Int32) (ha_cells : Nat → Int64) (ch_pupils : Int32) (ch_rule : Int32) (ch_ranks : Nat → Int32) (ch_eligible : Nat → Int32) (ch_eligibleAndRight : Nat → Int32) (ch_cells : Nat → Int64) (s1_seed : Int64) (s1_questions : Int32) (s1_rightOnes : Int32) (s1_wrongOnes : Int32) (s1_isKept : Int32) (s1_dares : Nat → Int32) (s1_times : Nat → Int32) (s2_seed : Int64) (s2_questions : Int32) (s2_rightOnes : Int32) (s2_wrongOnes : Int32) (s2_isKept : Int32) (s2_dares : Nat → Int32) (s2_times : Nat → Int32) (ta_size : Int32) (ta_hands : Nat → Int32) (ta_ones : Nat → Int32) (ta_cells : Nat → Int64) (tr_waited : Int32) (tr_size : Int32) (tr_hands : Nat → Int32) (m_readMany : Int32) (m_pupils : Int32) (m_mood : Int32) (m_length : Int32) (m_at : Int32) (m_faultAt : Int32) (m_drawn : Int64) (m_questions : Int32) (m_rights : Int32) (m_wrongs : Int32) (m_tapes : Int32) (m_trials : Int32) (m_read : Nat → Int32) (m_pupil : Nat → Int32) (m_dares : Nat → Int32) (m_times : Nat → Int32) (m_text : Nat → Int32) (m_joint : Nat → Int64) (m_others : Nat → Int64) (m_tapeHands : Nat → Int32) (m_tapeTaken : Nat → Int32) (m_trialHands : Nat → Int32) (m_trialWaited : Nat → Int32) (m_isKept : Nat → Int32) (m_keptDares : Nat → Int32) (m_keptTimes : Nat → Int32) (m_keptDrawn : Nat → Int64) (m_keptLesson : Nat → Int32) (p1 : Int32) (p2 : Int32) (p3 : Int32) (p4 : Int32) (p5 : Int32) (hb5 : p5 = 0 ∨ p5 = 1) (hR : Rel N tx_length tx_bytes ro_pupils ro_mood ro_letters ro_rows ro_columns ro_tenths ro_needs ro_toldDares le_seed le_questions le_rightOnes le_wrongOnes le_dares le_times s1_seed s1_questions s1_rightOnes s1_wrongOnes s1_isKept s1_dares s1_times s2_seed s2_questions s2_rightOnes s2_wrongOnes s2_isKept s2_dares s2_times ta_size ta_hands ta_ones tr_waited tr_size tr_hands m_pupils m_mood m_length m_drawn m_questions m_rights m_wrongs m_tapes m_trials m_pupil m_dares m_times m_text m_tapeHands m_tapeTaken m_trialHands m_trialWaited m_isKept m_keptDares m_keptTimes m_keptDrawn m_keptLesson) : ∃ (u : Int64) (v : Int64), FX8_boards p1 p2 p3 p4 p5 = some u ∧ FX9_boards p1 p2 p3 p4 p5 = some v ∧ u = v ∧ Rel (N + 1) tx_length tx_bytes ro_pupils ro_mood ro_letters ro_rows ro_columns ro_tenths ro_needs ro_toldDares le_seed le_questions le_rightOnes le_wrongOnes le_dares le_times s1_seed s1_questions s1_rightOnes s1_wrongOnes s1_isKept s1_dares s1_times s2_seed s2_questions s2_rightOnes s2_wrongOnes s2_isKept s2_dares s2_times ta_size ta_hands ta_ones tr_waited tr_size tr_hands m_pupils m_mood m_length m_drawn m_questions m_rights m_wrongs m_tapes m_trials m_pupil m_dares m_times m_text m_tapeHands m_tapeTaken m_trialHands m_trialWaited m_isKept m_keptDares m_keptTimes m_keptDrawn m_keptLesson := by
  have hR' := Rel_mono hR (Nat.le_succ N)
  have key : ∃ x, FX8_boards p1 p2 p3 p4 p5 = some x ∧ FX9_boards p1 p2 p3 p4 p5 = some x := by
    unfold FX8_boards FX9_boards
    rcases rng p1 1 30 1 30 1 30 rfl rfl rfl rfl (by decide) (by decide) with ⟨g8, g9⟩ | ⟨n, hn1, hn, rfl, g8, g9⟩
    · rw [if_pos g8, if_neg g9]; exact ⟨_, rfl, rfl⟩
    · rw [if_neg g8, if_pos g9]
      have en : (nI n).toInt64 = lN n := nI_l (by omega)
      rcases rng p2 0 (nI n) 0 (nI n).toInt64 0 n rfl rfl rfl en (by decide) (by omega) with ⟨g8, g9⟩ | ⟨m, -, hm, rfl, g8, g9⟩
      · rw [if_pos g8, if_neg g9]; exact ⟨_, rfl, rfl⟩
      · rw [if_neg g8, if_pos g9]
        rcases rng p3 1 (nI n) 1 (nI n).toInt64 1 n rfl rfl rfl en (by decide) (by omega) with ⟨g8, g9⟩ | ⟨s, hs1, hs, rfl, g8, g9⟩
        · rw [if_pos g8, if_neg g9]; exact ⟨_, rfl, rfl⟩
        · rw [if_neg g8, if_pos g9]
          have es : (nI s).toInt64 = lN s := nI_l (by omega)
          rcases rng p4 0 (nI s) 0 (nI s).toInt64 0 s rfl rfl rfl es (by decide) (by omega) with ⟨g8, g9⟩ | ⟨r, -, hr, rfl, g8, g9⟩
          · rw [if_pos g8, if_neg g9]; exact ⟨_, rfl, rfl⟩
          · rw [if_neg g8, if_pos g9, see8 hn hm hs hr, pk_sub hm, pk_sub hr, c9 (n := m) (by omega) (by omega), c9 (n := n - m) (by omega) (by omega), ch9 hn hs, ch8 hn hs, Option.bind_some, Option.bind_some, Option.bind_some, Option.bind_some, Option.bind_some, lN_mul]
            have b1 := cho_le (n := m) (k := r) (by omega)
            have b2 := cho_le (n := n - m) (k := s - r) (by omega)
            have b3 := Nat.mul_le_mul b1 b2
            have b4 := bin_30 (n := n) (k := s) hn
            have b5 := bin_pos n s hs
            rw [fr8 p5 (by omega) (by omega) b5, fr9 p5 (by omega) (by omega) b5]
            exact ⟨_, rfl, rfl⟩
  obtain ⟨x, a, b⟩ := key
  exact ⟨x, x, a, b, rfl, hR'⟩
set_option maxHeartbeats 1000000 in
set_option maxRecDepth 10000 in
theorem P_span (N : Nat) (hN : N < 4000) (tx_length : Int32) (tx_bytes : Nat → Int32) (ro_pupils : Int32) (ro_mood : Int32) (ro_letters : Nat → Int32) (ro_rows : Nat → Int32) (ro_columns : Nat → Int32) (ro_tenths : Nat → Int32) (ro_needs : Nat → Int32) (ro_toldDares : Nat → Int32) (le_seed : Int64) (le_questions : Int32) (le_rightOnes : Int32) (le_wrongOnes : Int32) (le_isKept : Int32) (le_dares : Nat → Int32) (le_times : Nat → Int32) (ha_cells : Nat → Int64) (ch_pupils : Int32) (ch_rule : Int32) (ch_ranks : Nat → Int32) (ch_eligible : Nat → Int32) (ch_eligibleAndRight : Nat → Int32) (ch_cells : Nat → Int64) (s1_seed : Int64) (s1_questions : Int32) (s1_rightOnes : Int32) (s1_wrongOnes : Int32) (s1_isKept : Int32) (s1_dares : Nat → Int32) (s1_times : Nat → Int32) (s2_seed : Int64) (s2_questions : Int32) (s2_rightOnes : Int32) (s2_wrongOnes : Int32) (s2_isKept : Int32) (s2_dares : Nat → Int32) (s2_times : Nat → Int32) (ta_size : Int32) (ta_hands : Nat → Int32) (ta_ones : Nat → Int32) (ta_cells : Nat → Int64) (tr_waited : Int32) (tr_size : Int32) (tr_hands : Nat → Int32) (m_readMany : Int32) (m_pupils : Int32) (m_mood : Int32) (m_length : Int32) (m_at : Int32) (m_faultAt : Int32) (m_drawn : Int64) (m_questions : Int32) (m_rights : Int32) (m_wrongs : Int32) (m_tapes : Int32) (m_trials : Int32) (m_read : Nat → Int32) (m_pupil : Nat → Int32) (m_dares : Nat → Int32) (m_times : Nat → Int32) (m_text : Nat → Int32) (m_joint : Nat → Int64) (m_others : Nat → Int64) (m_tapeHands : Nat → Int32) (m_tapeTaken : Nat → Int32) (m_trialHands : Nat → Int32) (m_trialWaited : Nat → Int32) (m_isKept : Nat → Int32) (m_keptDares : Nat → Int32) (m_keptTimes : Nat → Int32) (m_keptDrawn : Nat → Int64) (m_keptLesson : Nat → Int32) (p1 : Int32) (p2 : Int32) (p3 : Int32) (p4 : Int32) (hb4 : p4 = 0 ∨ p4 = 1) (hR : Rel N tx_length tx_bytes ro_pupils ro_mood ro_letters ro_rows ro_columns ro_tenths ro_needs ro_toldDares le_seed le_questions le_rightOnes le_wrongOnes le_dares le_times s1_seed s1_questions s1_rightOnes s1_wrongOnes s1_isKept s1_dares s1_times s2_seed s2_questions s2_rightOnes s2_wrongOnes s2_isKept s2_dares s2_times ta_size ta_hands ta_ones tr_waited tr_size tr_hands m_pupils m_mood m_length m_drawn m_questions m_rights m_wrongs m_tapes m_trials m_pupil m_dares m_times m_text m_tapeHands m_tapeTaken m_trialHands m_trialWaited m_isKept m_keptDares m_keptTimes m_keptDrawn m_keptLesson) : ∃ (u : Int32) (v : Int32), FX8_span p1 p2 p3 p4 = some u ∧ FX9_span p1 p2 p3 p4 = some v ∧ u = v ∧ Rel (N + 1) tx_length tx_bytes ro_pupils ro_mood ro_letters ro_rows ro_columns ro_tenths ro_needs ro_toldDares le_seed le_questions le_rightOnes le_wrongOnes le_dares le_times s1_seed s1_questions s1_rightOnes s1_wrongOnes s1_isKept s1_dares s1_times s2_seed s2_questions s2_rightOnes s2_wrongOnes s2_isKept s2_dares s2_times ta_size ta_hands ta_ones tr_waited tr_size tr_hands m_pupils m_mood m_length m_drawn m_questions m_rights m_wrongs m_tapes m_trials m_pupil m_dares m_times m_text m_tapeHands m_tapeTaken m_trialHands m_trialWaited m_isKept m_keptDares m_keptTimes m_keptDrawn m_keptLesson := by
  have hR' := Rel_mono hR (Nat.le_succ N)
  have key : ∃ x, FX8_span p1 p2 p3 p4 = some x ∧ FX9_span p1 p2 p3 p4 = some x := by
    unfold FX8_span FX9_span
    rcases rng p1 1 30 1 30 1 30 rfl rfl rfl rfl (by decide) (by decide) with ⟨g8, g9⟩ | ⟨n, hn1, hn, rfl, g8, g9⟩
    · rw [if_pos g8, if_neg g9]; exact ⟨_, rfl, rfl⟩
    · rw [if_neg g8, if_pos g9]
      have en : (nI n).toInt64 = lN n := nI_l (by omega)
      rcases rng p2 1 (nI n) 1 (nI n).toInt64 1 n rfl rfl rfl en (by decide) (by omega) with ⟨g8, g9⟩ | ⟨s, hs1, hs, rfl, g8, g9⟩
      · rw [if_pos g8, if_neg g9]; exact ⟨_, rfl, rfl⟩
      · rw [if_neg g8, if_pos g9]
        have es : (nI s).toInt64 = lN s := nI_l (by omega)
        rcases rng p3 0 (nI s) 0 (nI s).toInt64 0 s rfl rfl rfl es (by decide) (by omega) with ⟨g8, g9⟩ | ⟨r, -, hr, rfl, g8, g9⟩
        · rw [if_pos g8, if_neg g9]; exact ⟨_, rfl, rfl⟩
        · rw [if_neg g8, if_pos g9, ch8 hn hs, Option.bind_some, span8 hn hs hr, span9 hn hs hr]
          exact ⟨_, rfl, rfl⟩
  obtain ⟨x, a, b⟩ := key
  exact ⟨x, x, a, b, rfl, hR'⟩
set_option maxHeartbeats 1000000 in
set_option maxRecDepth 10000 in
theorem P_trial (N : Nat) (hN : N < 4000) (tx_length : Int32) (tx_bytes : Nat → Int32) (ro_pupils : Int32) (ro_mood : Int32) (ro_letters : Nat → Int32) (ro_rows : Nat → Int32) (ro_columns : Nat → Int32) (ro_tenths : Nat → Int32) (ro_needs : Nat → Int32) (ro_toldDares : Nat → Int32) (le_seed : Int64) (le_questions : Int32) (le_rightOnes : Int32) (le_wrongOnes : Int32) (le_isKept : Int32) (le_dares : Nat → Int32) (le_times : Nat → Int32) (ha_cells : Nat → Int64) (ch_pupils : Int32) (ch_rule : Int32) (ch_ranks : Nat → Int32) (ch_eligible : Nat → Int32) (ch_eligibleAndRight : Nat → Int32) (ch_cells : Nat → Int64) (s1_seed : Int64) (s1_questions : Int32) (s1_rightOnes : Int32) (s1_wrongOnes : Int32) (s1_isKept : Int32) (s1_dares : Nat → Int32) (s1_times : Nat → Int32) (s2_seed : Int64) (s2_questions : Int32) (s2_rightOnes : Int32) (s2_wrongOnes : Int32) (s2_isKept : Int32) (s2_dares : Nat → Int32) (s2_times : Nat → Int32) (ta_size : Int32) (ta_hands : Nat → Int32) (ta_ones : Nat → Int32) (ta_cells : Nat → Int64) (tr_waited : Int32) (tr_size : Int32) (tr_hands : Nat → Int32) (m_readMany : Int32) (m_pupils : Int32) (m_mood : Int32) (m_length : Int32) (m_at : Int32) (m_faultAt : Int32) (m_drawn : Int64) (m_questions : Int32) (m_rights : Int32) (m_wrongs : Int32) (m_tapes : Int32) (m_trials : Int32) (m_read : Nat → Int32) (m_pupil : Nat → Int32) (m_dares : Nat → Int32) (m_times : Nat → Int32) (m_text : Nat → Int32) (m_joint : Nat → Int64) (m_others : Nat → Int64) (m_tapeHands : Nat → Int32) (m_tapeTaken : Nat → Int32) (m_trialHands : Nat → Int32) (m_trialWaited : Nat → Int32) (m_isKept : Nat → Int32) (m_keptDares : Nat → Int32) (m_keptTimes : Nat → Int32) (m_keptDrawn : Nat → Int64) (m_keptLesson : Nat → Int32) (p1 : Int32) (p2 : Int32) (hb2 : p2 = 0 ∨ p2 = 1) (hR : Rel N tx_length tx_bytes ro_pupils ro_mood ro_letters ro_rows ro_columns ro_tenths ro_needs ro_toldDares le_seed le_questions le_rightOnes le_wrongOnes le_dares le_times s1_seed s1_questions s1_rightOnes s1_wrongOnes s1_isKept s1_dares s1_times s2_seed s2_questions s2_rightOnes s2_wrongOnes s2_isKept s2_dares s2_times ta_size ta_hands ta_ones tr_waited tr_size tr_hands m_pupils m_mood m_length m_drawn m_questions m_rights m_wrongs m_tapes m_trials m_pupil m_dares m_times m_text m_tapeHands m_tapeTaken m_trialHands m_trialWaited m_isKept m_keptDares m_keptTimes m_keptDrawn m_keptLesson) : ∃ (u : Int32 × (Nat → Int32) × Int32 × Int32) (v : Int32 × (Nat → Int32) × (Nat → Int32) × Int32), FX8_trial tr_waited tr_size tr_hands p1 p2 = u ∧ FX9_trial m_trials m_trialHands m_trialWaited p1 p2 = some v ∧ u.1 = v.1 ∧ Rel (N + 1) tx_length tx_bytes ro_pupils ro_mood ro_letters ro_rows ro_columns ro_tenths ro_needs ro_toldDares le_seed le_questions le_rightOnes le_wrongOnes le_dares le_times s1_seed s1_questions s1_rightOnes s1_wrongOnes s1_isKept s1_dares s1_times s2_seed s2_questions s2_rightOnes s2_wrongOnes s2_isKept s2_dares s2_times ta_size ta_hands ta_ones u.2.2.2 u.2.2.1 u.2.1 m_pupils m_mood m_length m_drawn m_questions m_rights m_wrongs m_tapes v.2.2.2 m_pupil m_dares m_times m_text m_tapeHands m_tapeTaken v.2.1 v.2.2.1 m_isKept m_keptDares m_keptTimes m_keptDrawn m_keptLesson := by
  obtain ⟨hTx, hM, hRo, hL, hTa, hTr⟩ := Rel_mono hR (Nat.le_succ N)
  have hTr0 := hTr
  obtain ⟨S, W, h, hS, hW, hts, hmts, htw, htr⟩ := hTr0
  rcases rng p1 0 99 0 99 0 99 rfl rfl rfl rfl (by decide) (by decide) with ⟨g8, g9⟩ | ⟨x, -, hx, rfl, g8, g9⟩
  · exact ⟨(-2, tr_hands, tr_size, tr_waited), (-2, m_trialHands, m_trialWaited, m_trials), by unfold FX8_trial; rw [if_pos g8], by unfold FX9_trial; rw [if_neg g9], rfl, hTx, hM, hRo, hL, hTa, hTr⟩
  · by_cases cS : S = 10
    · have c8 : ¬ tr_size < (10 : Int32) := by rw [hts, cS]; decide
      have c9 : m_trials = (10 : Int32) := by rw [hmts, cS]; rfl
      exact ⟨(-4, tr_hands, tr_size, tr_waited), (-4, m_trialHands, m_trialWaited, m_trials), by unfold FX8_trial FX7_add nmb; rw [if_neg g8, if_neg c8], by unfold FX9_trial; rw [if_pos g9, if_pos c9], rfl, hTx, hM, hRo, hL, hTa, hTr⟩
    · have c8 : tr_size < (10 : Int32) := by rw [hts]; exact nI_lt (b := 10) (by omega) (by decide)
      have c9 : ¬ m_trials = (10 : Int32) := by rw [hmts]; exact fun q => cS ((nI_eq (b := 10) (by omega) (by decide)).mp q)
      have hp2 : 2 ^ (S + 1) = 2 ^ S + 2 ^ S := by rw [Nat.pow_succ]; omega
      rcases hb2 with hb2 | hb2
      · subst hb2
        refine ⟨(nI (S + 1), upd tr_hands S (nI x), nI (S + 1), tr_waited), (nI (S + 1), upd m_trialHands S (nI x), upd m_trialWaited S 0, nI (S + 1)), ?_, ?_, rfl, hTx, hM, hRo, hL, hTa, ⟨S + 1, W, fun i => if i = S then x else h i, by omega, by omega, rfl, rfl, htw, fun i hi => ?_⟩⟩
        · unfold FX8_trial FX7_add FX7_add_J43 nmb
          rw [if_neg g8, if_pos c8]
          dsimp only
          rw [if_pos rfl, hts, gput_n (by omega) (by decide), nI_1]
        · unfold FX9_trial
          rw [if_pos g9, if_neg c9, hmts, gdI (by omega) (by decide), gdI (by omega) (by decide), nI_clamp (by omega), nI_1, bool0]
        · by_cases ci : i = S
          · subst ci
            simp only [if_true, upd_s]
            refine ⟨hx, trivial, trivial, ?_⟩
            rw [Nat.testBit_lt_two_pow hW]
            rfl
          · simp only [if_neg ci]
            obtain ⟨a1, a2, a3, a4⟩ := htr i (by omega)
            exact ⟨a1, by show upd tr_hands S (nI x) i = _; rw [upd_n ci]; exact a2, by show upd m_trialHands S (nI x) i = _; rw [upd_n ci]; exact a3, by show upd m_trialWaited S 0 i = _; rw [upd_n ci]; exact a4⟩
      · subst hb2
        refine ⟨(nI (S + 1), upd tr_hands S (nI x), nI (S + 1), nI (W + 2 ^ S)), (nI (S + 1), upd m_trialHands S (nI x), upd m_trialWaited S 1, nI (S + 1)), ?_, ?_, rfl, hTx, hM, hRo, hL, hTa, ⟨S + 1, W + 2 ^ S, fun i => if i = S then x else h i, by omega, by omega, rfl, rfl, rfl, fun i hi => ?_⟩⟩
        · unfold FX8_trial FX7_add FX7_add_J43 nmb
          rw [if_neg g8, if_pos c8]
          dsimp only
          rw [if_neg (show ¬ (1 : Int32) = 0 by decide), hts, gput_n (by omega) (by decide), nI_1, htw, or_pow hW (by omega)]
        · unfold FX9_trial
          rw [if_pos g9, if_neg c9, hmts, gdI (by omega) (by decide), gdI (by omega) (by decide), nI_clamp (by omega), nI_1, bool1]
        · have e : W + 2 ^ S = W ||| 2 ^ S := by
            have h := Nat.two_pow_add_eq_or_of_lt hW 1
            rw [Nat.mul_one] at h
            rw [Nat.or_comm, ← h, Nat.add_comm]
          by_cases ci : i = S
          · subst ci
            simp only [if_true, upd_s]
            refine ⟨hx, trivial, trivial, ?_⟩
            rw [e, Nat.testBit_or, Nat.testBit_two_pow]
            simp
          · simp only [if_neg ci]
            obtain ⟨a1, a2, a3, a4⟩ := htr i (by omega)
            refine ⟨a1, by show upd tr_hands S (nI x) i = _; rw [upd_n ci]; exact a2, by show upd m_trialHands S (nI x) i = _; rw [upd_n ci]; exact a3, ?_⟩
            show upd m_trialWaited S 1 i = _
            rw [upd_n ci, a4, e, Nat.testBit_or, Nat.testBit_two_pow]
            have c2 : ¬ S = i := fun q => ci q.symm
            simp [c2]
set_option maxHeartbeats 1000000 in
set_option maxRecDepth 10000 in
theorem P_untrial (N : Nat) (hN : N < 4000) (tx_length : Int32) (tx_bytes : Nat → Int32) (ro_pupils : Int32) (ro_mood : Int32) (ro_letters : Nat → Int32) (ro_rows : Nat → Int32) (ro_columns : Nat → Int32) (ro_tenths : Nat → Int32) (ro_needs : Nat → Int32) (ro_toldDares : Nat → Int32) (le_seed : Int64) (le_questions : Int32) (le_rightOnes : Int32) (le_wrongOnes : Int32) (le_isKept : Int32) (le_dares : Nat → Int32) (le_times : Nat → Int32) (ha_cells : Nat → Int64) (ch_pupils : Int32) (ch_rule : Int32) (ch_ranks : Nat → Int32) (ch_eligible : Nat → Int32) (ch_eligibleAndRight : Nat → Int32) (ch_cells : Nat → Int64) (s1_seed : Int64) (s1_questions : Int32) (s1_rightOnes : Int32) (s1_wrongOnes : Int32) (s1_isKept : Int32) (s1_dares : Nat → Int32) (s1_times : Nat → Int32) (s2_seed : Int64) (s2_questions : Int32) (s2_rightOnes : Int32) (s2_wrongOnes : Int32) (s2_isKept : Int32) (s2_dares : Nat → Int32) (s2_times : Nat → Int32) (ta_size : Int32) (ta_hands : Nat → Int32) (ta_ones : Nat → Int32) (ta_cells : Nat → Int64) (tr_waited : Int32) (tr_size : Int32) (tr_hands : Nat → Int32) (m_readMany : Int32) (m_pupils : Int32) (m_mood : Int32) (m_length : Int32) (m_at : Int32) (m_faultAt : Int32) (m_drawn : Int64) (m_questions : Int32) (m_rights : Int32) (m_wrongs : Int32) (m_tapes : Int32) (m_trials : Int32) (m_read : Nat → Int32) (m_pupil : Nat → Int32) (m_dares : Nat → Int32) (m_times : Nat → Int32) (m_text : Nat → Int32) (m_joint : Nat → Int64) (m_others : Nat → Int64) (m_tapeHands : Nat → Int32) (m_tapeTaken : Nat → Int32) (m_trialHands : Nat → Int32) (m_trialWaited : Nat → Int32) (m_isKept : Nat → Int32) (m_keptDares : Nat → Int32) (m_keptTimes : Nat → Int32) (m_keptDrawn : Nat → Int64) (m_keptLesson : Nat → Int32)  (hR : Rel N tx_length tx_bytes ro_pupils ro_mood ro_letters ro_rows ro_columns ro_tenths ro_needs ro_toldDares le_seed le_questions le_rightOnes le_wrongOnes le_dares le_times s1_seed s1_questions s1_rightOnes s1_wrongOnes s1_isKept s1_dares s1_times s2_seed s2_questions s2_rightOnes s2_wrongOnes s2_isKept s2_dares s2_times ta_size ta_hands ta_ones tr_waited tr_size tr_hands m_pupils m_mood m_length m_drawn m_questions m_rights m_wrongs m_tapes m_trials m_pupil m_dares m_times m_text m_tapeHands m_tapeTaken m_trialHands m_trialWaited m_isKept m_keptDares m_keptTimes m_keptDrawn m_keptLesson) : ∃ (u : Int32 × Int32 × Int32) (v : Int32 × Int32), FX8_untrial tr_size = u ∧ FX9_untrial m_trials = v ∧ u.1 = v.1 ∧ Rel (N + 1) tx_length tx_bytes ro_pupils ro_mood ro_letters ro_rows ro_columns ro_tenths ro_needs ro_toldDares le_seed le_questions le_rightOnes le_wrongOnes le_dares le_times s1_seed s1_questions s1_rightOnes s1_wrongOnes s1_isKept s1_dares s1_times s2_seed s2_questions s2_rightOnes s2_wrongOnes s2_isKept s2_dares s2_times ta_size ta_hands ta_ones u.2.2 u.2.1 tr_hands m_pupils m_mood m_length m_drawn m_questions m_rights m_wrongs m_tapes v.2 m_pupil m_dares m_times m_text m_tapeHands m_tapeTaken m_trialHands m_trialWaited m_isKept m_keptDares m_keptTimes m_keptDrawn m_keptLesson := by
  obtain ⟨hT, hM, hRo, hL, hTa, ⟨S, W, h, h1, h2, h3, h4, h5, h6⟩⟩ := Rel_mono hR (Nat.le_succ N)
  exact ⟨(tr_size, 0, 0), (m_trials, 0), rfl, rfl, by show tr_size = m_trials; rw [h3, h4], hT, hM, hRo, hL, hTa, ⟨0, 0, h, by decide, by decide, rfl, rfl, rfl, fun i hi => absurd hi (Nat.not_lt_zero i)⟩⟩
set_option maxHeartbeats 1000000 in
set_option maxRecDepth 10000 in
theorem P_chance (N : Nat) (hN : N < 4000) (tx_length : Int32) (tx_bytes : Nat → Int32) (ro_pupils : Int32) (ro_mood : Int32) (ro_letters : Nat → Int32) (ro_rows : Nat → Int32) (ro_columns : Nat → Int32) (ro_tenths : Nat → Int32) (ro_needs : Nat → Int32) (ro_toldDares : Nat → Int32) (le_seed : Int64) (le_questions : Int32) (le_rightOnes : Int32) (le_wrongOnes : Int32) (le_isKept : Int32) (le_dares : Nat → Int32) (le_times : Nat → Int32) (ha_cells : Nat → Int64) (ch_pupils : Int32) (ch_rule : Int32) (ch_ranks : Nat → Int32) (ch_eligible : Nat → Int32) (ch_eligibleAndRight : Nat → Int32) (ch_cells : Nat → Int64) (s1_seed : Int64) (s1_questions : Int32) (s1_rightOnes : Int32) (s1_wrongOnes : Int32) (s1_isKept : Int32) (s1_dares : Nat → Int32) (s1_times : Nat → Int32) (s2_seed : Int64) (s2_questions : Int32) (s2_rightOnes : Int32) (s2_wrongOnes : Int32) (s2_isKept : Int32) (s2_dares : Nat → Int32) (s2_times : Nat → Int32) (ta_size : Int32) (ta_hands : Nat → Int32) (ta_ones : Nat → Int32) (ta_cells : Nat → Int64) (tr_waited : Int32) (tr_size : Int32) (tr_hands : Nat → Int32) (m_readMany : Int32) (m_pupils : Int32) (m_mood : Int32) (m_length : Int32) (m_at : Int32) (m_faultAt : Int32) (m_drawn : Int64) (m_questions : Int32) (m_rights : Int32) (m_wrongs : Int32) (m_tapes : Int32) (m_trials : Int32) (m_read : Nat → Int32) (m_pupil : Nat → Int32) (m_dares : Nat → Int32) (m_times : Nat → Int32) (m_text : Nat → Int32) (m_joint : Nat → Int64) (m_others : Nat → Int64) (m_tapeHands : Nat → Int32) (m_tapeTaken : Nat → Int32) (m_trialHands : Nat → Int32) (m_trialWaited : Nat → Int32) (m_isKept : Nat → Int32) (m_keptDares : Nat → Int32) (m_keptTimes : Nat → Int32) (m_keptDrawn : Nat → Int64) (m_keptLesson : Nat → Int32) (p1 : Int32) (hb1 : p1 = 0 ∨ p1 = 1) (hR : Rel N tx_length tx_bytes ro_pupils ro_mood ro_letters ro_rows ro_columns ro_tenths ro_needs ro_toldDares le_seed le_questions le_rightOnes le_wrongOnes le_dares le_times s1_seed s1_questions s1_rightOnes s1_wrongOnes s1_isKept s1_dares s1_times s2_seed s2_questions s2_rightOnes s2_wrongOnes s2_isKept s2_dares s2_times ta_size ta_hands ta_ones tr_waited tr_size tr_hands m_pupils m_mood m_length m_drawn m_questions m_rights m_wrongs m_tapes m_trials m_pupil m_dares m_times m_text m_tapeHands m_tapeTaken m_trialHands m_trialWaited m_isKept m_keptDares m_keptTimes m_keptDrawn m_keptLesson) : ∃ (u : Int64) (v : Int64), FX8_chance tr_waited tr_size tr_hands p1 = some u ∧ FX9_chance m_trials m_trialWaited m_trialHands p1 = some v ∧ u = v ∧ Rel (N + 1) tx_length tx_bytes ro_pupils ro_mood ro_letters ro_rows ro_columns ro_tenths ro_needs ro_toldDares le_seed le_questions le_rightOnes le_wrongOnes le_dares le_times s1_seed s1_questions s1_rightOnes s1_wrongOnes s1_isKept s1_dares s1_times s2_seed s2_questions s2_rightOnes s2_wrongOnes s2_isKept s2_dares s2_times ta_size ta_hands ta_ones tr_waited tr_size tr_hands m_pupils m_mood m_length m_drawn m_questions m_rights m_wrongs m_tapes m_trials m_pupil m_dares m_times m_text m_tapeHands m_tapeTaken m_trialHands m_trialWaited m_isKept m_keptDares m_keptTimes m_keptDrawn m_keptLesson := by
  have hR' := Rel_mono hR (Nat.le_succ N)
  obtain ⟨-, -, -, -, -, ⟨S, W, h, hS, hW, hts, hmts, htw, htr⟩⟩ := hR
  have key : ∃ x, FX8_chance tr_waited tr_size tr_hands p1 = some x ∧ FX9_chance m_trials m_trialWaited m_trialHands p1 = some x := by
    have h12 := pow12 (P := S) (by omega)
    have hA := cn_le (fun x => if popN x 12 = popN W 12 then 1 else 0) (fun i => by
      by_cases c : popN i 12 = popN W 12
      · rw [if_pos c]; exact Nat.le_refl 1
      · rw [if_neg c]; exact Nat.zero_le 1) hS
    have hB := cn_le (fun x => if popN x 12 = popN W 12 ∧ toN h W S ≤ toN h x S then 1 else 0) (fun i => by
      by_cases c : popN i 12 = popN W 12 ∧ toN h W S ≤ toN h i S
      · rw [if_pos c]; exact Nat.le_refl 1
      · rw [if_neg c]; exact Nat.zero_le 1) hS
    have hA2 : cnA W (2 ^ S) ≤ 1024 := hA
    have hB2 : cnB W S h (2 ^ S) ≤ 1024 := hB
    have h1 := sum_ge (f := fun x => if popN x 12 = popN W 12 then 1 else 0) (i := W) (2 ^ S) hW
    have h2 : (1 : Nat) ≤ cnA W (2 ^ S) := by
      rw [if_pos rfl] at h1
      exact h1
    unfold FX8_chance FX9_chance
    rw [htw, dealB hS hts (fun i hi => ⟨(htr i hi).1, (htr i hi).2.1⟩) hW, Option.bind_some, dealA (h := h) hS hts (fun i hi => (htr i hi).2.1) hW, Option.bind_some, own9 (h := h) hS hmts (fun i hi => (htr i hi).2.2.1) (fun i hi => (htr i hi).2.2.2), Option.bind_some, chan9 hS hmts (fun i hi => ⟨(htr i hi).1, (htr i hi).2.2.1⟩) (fun i hi => (htr i hi).2.2.2) hW, Option.bind_some]
    dsimp only
    rw [fr8 p1 (by omega) (by omega) h2, fr9 p1 (by omega) (by omega) h2]
    exact ⟨_, rfl, rfl⟩
  obtain ⟨x, a, b⟩ := key
  exact ⟨x, x, a, b, rfl, hR'⟩
set_option maxHeartbeats 1000000 in
set_option maxRecDepth 10000 in
theorem P_until (N : Nat) (hN : N < 4000) (tx_length : Int32) (tx_bytes : Nat → Int32) (ro_pupils : Int32) (ro_mood : Int32) (ro_letters : Nat → Int32) (ro_rows : Nat → Int32) (ro_columns : Nat → Int32) (ro_tenths : Nat → Int32) (ro_needs : Nat → Int32) (ro_toldDares : Nat → Int32) (le_seed : Int64) (le_questions : Int32) (le_rightOnes : Int32) (le_wrongOnes : Int32) (le_isKept : Int32) (le_dares : Nat → Int32) (le_times : Nat → Int32) (ha_cells : Nat → Int64) (ch_pupils : Int32) (ch_rule : Int32) (ch_ranks : Nat → Int32) (ch_eligible : Nat → Int32) (ch_eligibleAndRight : Nat → Int32) (ch_cells : Nat → Int64) (s1_seed : Int64) (s1_questions : Int32) (s1_rightOnes : Int32) (s1_wrongOnes : Int32) (s1_isKept : Int32) (s1_dares : Nat → Int32) (s1_times : Nat → Int32) (s2_seed : Int64) (s2_questions : Int32) (s2_rightOnes : Int32) (s2_wrongOnes : Int32) (s2_isKept : Int32) (s2_dares : Nat → Int32) (s2_times : Nat → Int32) (ta_size : Int32) (ta_hands : Nat → Int32) (ta_ones : Nat → Int32) (ta_cells : Nat → Int64) (tr_waited : Int32) (tr_size : Int32) (tr_hands : Nat → Int32) (m_readMany : Int32) (m_pupils : Int32) (m_mood : Int32) (m_length : Int32) (m_at : Int32) (m_faultAt : Int32) (m_drawn : Int64) (m_questions : Int32) (m_rights : Int32) (m_wrongs : Int32) (m_tapes : Int32) (m_trials : Int32) (m_read : Nat → Int32) (m_pupil : Nat → Int32) (m_dares : Nat → Int32) (m_times : Nat → Int32) (m_text : Nat → Int32) (m_joint : Nat → Int64) (m_others : Nat → Int64) (m_tapeHands : Nat → Int32) (m_tapeTaken : Nat → Int32) (m_trialHands : Nat → Int32) (m_trialWaited : Nat → Int32) (m_isKept : Nat → Int32) (m_keptDares : Nat → Int32) (m_keptTimes : Nat → Int32) (m_keptDrawn : Nat → Int64) (m_keptLesson : Nat → Int32) (p1 : Int32) (p2 : Int32) (hb2 : p2 = 0 ∨ p2 = 1) (hR : Rel N tx_length tx_bytes ro_pupils ro_mood ro_letters ro_rows ro_columns ro_tenths ro_needs ro_toldDares le_seed le_questions le_rightOnes le_wrongOnes le_dares le_times s1_seed s1_questions s1_rightOnes s1_wrongOnes s1_isKept s1_dares s1_times s2_seed s2_questions s2_rightOnes s2_wrongOnes s2_isKept s2_dares s2_times ta_size ta_hands ta_ones tr_waited tr_size tr_hands m_pupils m_mood m_length m_drawn m_questions m_rights m_wrongs m_tapes m_trials m_pupil m_dares m_times m_text m_tapeHands m_tapeTaken m_trialHands m_trialWaited m_isKept m_keptDares m_keptTimes m_keptDrawn m_keptLesson) : ∃ (u : Int64) (v : Int64), FX8_until p1 p2 = some u ∧ FX9_until p1 p2 = some v ∧ u = v ∧ Rel (N + 1) tx_length tx_bytes ro_pupils ro_mood ro_letters ro_rows ro_columns ro_tenths ro_needs ro_toldDares le_seed le_questions le_rightOnes le_wrongOnes le_dares le_times s1_seed s1_questions s1_rightOnes s1_wrongOnes s1_isKept s1_dares s1_times s2_seed s2_questions s2_rightOnes s2_wrongOnes s2_isKept s2_dares s2_times ta_size ta_hands ta_ones tr_waited tr_size tr_hands m_pupils m_mood m_length m_drawn m_questions m_rights m_wrongs m_tapes m_trials m_pupil m_dares m_times m_text m_tapeHands m_tapeTaken m_trialHands m_trialWaited m_isKept m_keptDares m_keptTimes m_keptDrawn m_keptLesson := by
  have hR' := Rel_mono hR (Nat.le_succ N)
  have key : ∃ x, FX8_until p1 p2 = some x ∧ FX9_until p1 p2 = some x := by
    unfold FX8_until FX9_until
    rcases rng p1 1 12 1 12 1 12 rfl rfl rfl rfl (by decide) (by decide) with ⟨g8, g9⟩ | ⟨n, -, hn, rfl, g8, g9⟩
    · rw [if_pos g8, if_neg g9]; exact ⟨_, rfl, rfl⟩
    · have hle := stN_le n n hn hn
      have e8 : FX8_fraction (lN (stN n n)) (27720 : Int64) p2 = some (frN (stN n n) 27720 p2) := fr8 p2 (by omega) (by decide) (by decide)
      have e9 : FX9_part (lN (stN n n)) (27720 : Int64) p2 = some (frN (stN n n) 27720 p2) := fr9 p2 (by omega) (by decide) (by decide)
      rw [if_neg g8, if_pos g9, until8 hn, until9 hn, Option.bind_some, Option.bind_some, e8, e9]
      exact ⟨_, rfl, rfl⟩
  obtain ⟨x, a, b⟩ := key
  exact ⟨x, x, a, b, rfl, hR'⟩
set_option maxHeartbeats 1000000 in
set_option maxRecDepth 10000 in
theorem P_keep (N : Nat) (hN : N < 4000) (tx_length : Int32) (tx_bytes : Nat → Int32) (ro_pupils : Int32) (ro_mood : Int32) (ro_letters : Nat → Int32) (ro_rows : Nat → Int32) (ro_columns : Nat → Int32) (ro_tenths : Nat → Int32) (ro_needs : Nat → Int32) (ro_toldDares : Nat → Int32) (le_seed : Int64) (le_questions : Int32) (le_rightOnes : Int32) (le_wrongOnes : Int32) (le_isKept : Int32) (le_dares : Nat → Int32) (le_times : Nat → Int32) (ha_cells : Nat → Int64) (ch_pupils : Int32) (ch_rule : Int32) (ch_ranks : Nat → Int32) (ch_eligible : Nat → Int32) (ch_eligibleAndRight : Nat → Int32) (ch_cells : Nat → Int64) (s1_seed : Int64) (s1_questions : Int32) (s1_rightOnes : Int32) (s1_wrongOnes : Int32) (s1_isKept : Int32) (s1_dares : Nat → Int32) (s1_times : Nat → Int32) (s2_seed : Int64) (s2_questions : Int32) (s2_rightOnes : Int32) (s2_wrongOnes : Int32) (s2_isKept : Int32) (s2_dares : Nat → Int32) (s2_times : Nat → Int32) (ta_size : Int32) (ta_hands : Nat → Int32) (ta_ones : Nat → Int32) (ta_cells : Nat → Int64) (tr_waited : Int32) (tr_size : Int32) (tr_hands : Nat → Int32) (m_readMany : Int32) (m_pupils : Int32) (m_mood : Int32) (m_length : Int32) (m_at : Int32) (m_faultAt : Int32) (m_drawn : Int64) (m_questions : Int32) (m_rights : Int32) (m_wrongs : Int32) (m_tapes : Int32) (m_trials : Int32) (m_read : Nat → Int32) (m_pupil : Nat → Int32) (m_dares : Nat → Int32) (m_times : Nat → Int32) (m_text : Nat → Int32) (m_joint : Nat → Int64) (m_others : Nat → Int64) (m_tapeHands : Nat → Int32) (m_tapeTaken : Nat → Int32) (m_trialHands : Nat → Int32) (m_trialWaited : Nat → Int32) (m_isKept : Nat → Int32) (m_keptDares : Nat → Int32) (m_keptTimes : Nat → Int32) (m_keptDrawn : Nat → Int64) (m_keptLesson : Nat → Int32) (p1 : Int32) (hR : Rel N tx_length tx_bytes ro_pupils ro_mood ro_letters ro_rows ro_columns ro_tenths ro_needs ro_toldDares le_seed le_questions le_rightOnes le_wrongOnes le_dares le_times s1_seed s1_questions s1_rightOnes s1_wrongOnes s1_isKept s1_dares s1_times s2_seed s2_questions s2_rightOnes s2_wrongOnes s2_isKept s2_dares s2_times ta_size ta_hands ta_ones tr_waited tr_size tr_hands m_pupils m_mood m_length m_drawn m_questions m_rights m_wrongs m_tapes m_trials m_pupil m_dares m_times m_text m_tapeHands m_tapeTaken m_trialHands m_trialWaited m_isKept m_keptDares m_keptTimes m_keptDrawn m_keptLesson) : ∃ (u : Int32 × (Nat → Int32) × (Nat → Int32) × Int64 × Int32 × Int32 × Int32 × Int32 × (Nat → Int32) × (Nat → Int32) × Int64 × Int32 × Int32 × Int32 × Int32) (v : Int32 × (Nat → Int32) × (Nat → Int32) × (Nat → Int32) × (Nat → Int64) × (Nat → Int32)), FX8_keep le_seed le_questions le_rightOnes le_wrongOnes le_dares le_times s1_seed s1_questions s1_rightOnes s1_wrongOnes s1_isKept s1_dares s1_times s2_seed s2_questions s2_rightOnes s2_wrongOnes s2_isKept s2_dares s2_times p1 = some u ∧ FX9_keep m_drawn m_questions m_rights m_wrongs m_isKept m_dares m_keptDares m_times m_keptTimes m_keptDrawn m_keptLesson p1 = some v ∧ u.1 = v.1 ∧ Rel (N + 1) tx_length tx_bytes ro_pupils ro_mood ro_letters ro_rows ro_columns ro_tenths ro_needs ro_toldDares le_seed le_questions le_rightOnes le_wrongOnes le_dares le_times u.2.2.2.1 u.2.2.2.2.1 u.2.2.2.2.2.1 u.2.2.2.2.2.2.1 u.2.2.2.2.2.2.2.1 u.2.1 u.2.2.1 u.2.2.2.2.2.2.2.2.2.2.1 u.2.2.2.2.2.2.2.2.2.2.2.1 u.2.2.2.2.2.2.2.2.2.2.2.2.1 u.2.2.2.2.2.2.2.2.2.2.2.2.2.1 u.2.2.2.2.2.2.2.2.2.2.2.2.2.2 u.2.2.2.2.2.2.2.2.1 u.2.2.2.2.2.2.2.2.2.1 ta_size ta_hands ta_ones tr_waited tr_size tr_hands m_pupils m_mood m_length m_drawn m_questions m_rights m_wrongs m_tapes m_trials m_pupil m_dares m_times m_text m_tapeHands m_tapeTaken m_trialHands m_trialWaited v.2.1 v.2.2.1 v.2.2.2.1 v.2.2.2.2.1 v.2.2.2.2.2 := by
  obtain ⟨hTx, hM, ⟨P, r, c, k, q, d, f, da, ti, hRo, hle, hs0, hs1⟩, hL, hr⟩ := Rel_mono hR (Nat.le_succ N)
  have hP := hRo.1
  obtain ⟨e1, e2, e3, e4⟩ := hL
  rcases rng p1 0 1 0 1 0 1 rfl rfl rfl rfl (by decide) (by decide) with ⟨g8, g9⟩ | ⟨s, -, hs, rfl, g8, g9⟩
  · exact ⟨_, _, by unfold FX8_keep; rw [if_pos g8], by unfold FX9_keep; rw [if_neg g9], rfl, hTx, hM, ⟨P, r, c, k, q, d, f, da, ti, hRo, hle, hs0, hs1⟩, ⟨e1, e2, e3, e4⟩, hr⟩
  · have h9 : FX9_keep m_drawn m_questions m_rights m_wrongs m_isKept m_dares m_keptDares m_times m_keptTimes m_keptDrawn m_keptLesson (nI s) = some (m_questions, upd m_isKept s (vp_nar .boolean (1 : Int32)), kcp s 12 m_dares m_keptDares, kcp s 12 m_times m_keptTimes, vp_updL m_keptDrawn s m_drawn, upd (upd (upd m_keptLesson (3 * s) m_questions) (3 * s + 1) m_rights) (3 * s + 2) m_wrongs) := by
      unfold FX9_keep
      have x0 : (3 : Int32) * nI s = nI (3 * s) := nmul 3 s
      have x1 : nI (3 * s) + (1 : Int32) = nI (3 * s + 1) := nadd _ 1
      have x2 : nI (3 * s) + (2 : Int32) = nI (3 * s + 2) := nadd _ 2
      rw [if_pos g9, gdI (by omega) (by decide), keep9 (by omega), Option.bind_some, gdI (by omega) (by decide), x0, gdI (by omega) (by decide), x1, gdI (by omega) (by decide), x2, gdI (by omega) (by decide), nI_clamp (by omega), nI_clamp (by omega), nI_clamp (by omega), nI_clamp (by omega)]
    rcases (show s = 0 ∨ s = 1 by omega) with rfl | rfl
    · refine ⟨_, _, by unfold FX8_keep; rw [if_neg g8, if_pos (by decide), become_n, Option.bind_some], h9, e2, hTx, hM, ⟨P, r, c, k, q, d, f, da, ti, hRo, hle, ?_, ?_⟩, ⟨e1, e2, e3, e4⟩, hr⟩
      · exact slot_new hP hle e1 e2 e3 e4
      · exact slot_old hP (by decide) hs1
    · refine ⟨_, _, by unfold FX8_keep; rw [if_neg g8, if_neg (by decide), become_n, Option.bind_some], h9, e2, hTx, hM, ⟨P, r, c, k, q, d, f, da, ti, hRo, hle, ?_, ?_⟩, ⟨e1, e2, e3, e4⟩, hr⟩
      · exact slot_old hP (by decide) hs0
      · exact slot_new hP hle e1 e2 e3 e4
set_option maxHeartbeats 1000000 in
set_option maxRecDepth 10000 in
theorem P_again (N : Nat) (hN : N < 4000) (tx_length : Int32) (tx_bytes : Nat → Int32) (ro_pupils : Int32) (ro_mood : Int32) (ro_letters : Nat → Int32) (ro_rows : Nat → Int32) (ro_columns : Nat → Int32) (ro_tenths : Nat → Int32) (ro_needs : Nat → Int32) (ro_toldDares : Nat → Int32) (le_seed : Int64) (le_questions : Int32) (le_rightOnes : Int32) (le_wrongOnes : Int32) (le_isKept : Int32) (le_dares : Nat → Int32) (le_times : Nat → Int32) (ha_cells : Nat → Int64) (ch_pupils : Int32) (ch_rule : Int32) (ch_ranks : Nat → Int32) (ch_eligible : Nat → Int32) (ch_eligibleAndRight : Nat → Int32) (ch_cells : Nat → Int64) (s1_seed : Int64) (s1_questions : Int32) (s1_rightOnes : Int32) (s1_wrongOnes : Int32) (s1_isKept : Int32) (s1_dares : Nat → Int32) (s1_times : Nat → Int32) (s2_seed : Int64) (s2_questions : Int32) (s2_rightOnes : Int32) (s2_wrongOnes : Int32) (s2_isKept : Int32) (s2_dares : Nat → Int32) (s2_times : Nat → Int32) (ta_size : Int32) (ta_hands : Nat → Int32) (ta_ones : Nat → Int32) (ta_cells : Nat → Int64) (tr_waited : Int32) (tr_size : Int32) (tr_hands : Nat → Int32) (m_readMany : Int32) (m_pupils : Int32) (m_mood : Int32) (m_length : Int32) (m_at : Int32) (m_faultAt : Int32) (m_drawn : Int64) (m_questions : Int32) (m_rights : Int32) (m_wrongs : Int32) (m_tapes : Int32) (m_trials : Int32) (m_read : Nat → Int32) (m_pupil : Nat → Int32) (m_dares : Nat → Int32) (m_times : Nat → Int32) (m_text : Nat → Int32) (m_joint : Nat → Int64) (m_others : Nat → Int64) (m_tapeHands : Nat → Int32) (m_tapeTaken : Nat → Int32) (m_trialHands : Nat → Int32) (m_trialWaited : Nat → Int32) (m_isKept : Nat → Int32) (m_keptDares : Nat → Int32) (m_keptTimes : Nat → Int32) (m_keptDrawn : Nat → Int64) (m_keptLesson : Nat → Int32) (p1 : Int32) (hR : Rel N tx_length tx_bytes ro_pupils ro_mood ro_letters ro_rows ro_columns ro_tenths ro_needs ro_toldDares le_seed le_questions le_rightOnes le_wrongOnes le_dares le_times s1_seed s1_questions s1_rightOnes s1_wrongOnes s1_isKept s1_dares s1_times s2_seed s2_questions s2_rightOnes s2_wrongOnes s2_isKept s2_dares s2_times ta_size ta_hands ta_ones tr_waited tr_size tr_hands m_pupils m_mood m_length m_drawn m_questions m_rights m_wrongs m_tapes m_trials m_pupil m_dares m_times m_text m_tapeHands m_tapeTaken m_trialHands m_trialWaited m_isKept m_keptDares m_keptTimes m_keptDrawn m_keptLesson) : ∃ (u : Int32 × (Nat → Int32) × (Nat → Int32) × Int64 × Int32 × Int32 × Int32) (v : Int32 × (Nat → Int32) × (Nat → Int32) × Int64 × Int32 × Int32 × Int32), FX8_again s1_seed s1_questions s1_rightOnes s1_wrongOnes s1_isKept s1_dares s1_times le_seed le_questions le_rightOnes le_wrongOnes le_dares le_times s2_seed s2_questions s2_rightOnes s2_wrongOnes s2_isKept s2_dares s2_times p1 = some u ∧ FX9_again m_drawn m_questions m_rights m_wrongs m_isKept m_keptDares m_dares m_keptTimes m_times m_keptDrawn m_keptLesson p1 = some v ∧ u.1 = v.1 ∧ Rel (N + 1) tx_length tx_bytes ro_pupils ro_mood ro_letters ro_rows ro_columns ro_tenths ro_needs ro_toldDares u.2.2.2.1 u.2.2.2.2.1 u.2.2.2.2.2.1 u.2.2.2.2.2.2 u.2.1 u.2.2.1 s1_seed s1_questions s1_rightOnes s1_wrongOnes s1_isKept s1_dares s1_times s2_seed s2_questions s2_rightOnes s2_wrongOnes s2_isKept s2_dares s2_times ta_size ta_hands ta_ones tr_waited tr_size tr_hands m_pupils m_mood m_length v.2.2.2.1 v.2.2.2.2.1 v.2.2.2.2.2.1 v.2.2.2.2.2.2 m_tapes m_trials m_pupil v.2.1 v.2.2.1 m_text m_tapeHands m_tapeTaken m_trialHands m_trialWaited m_isKept m_keptDares m_keptTimes m_keptDrawn m_keptLesson := by
  obtain ⟨hTx, hM, ⟨P, r, c, k, q, d, f, da, ti, hRo, hle, hs1, hs2⟩, hL, hTa, hTr⟩ := Rel_mono hR (Nat.le_succ N)
  have hP := hRo.1
  rcases rng p1 0 1 0 1 0 1 rfl rfl rfl rfl (by decide) (by decide) with ⟨g8, g9⟩ | ⟨s, -, hs, rfl, g8, g9⟩
  · exact ⟨(-1, le_dares, le_times, le_seed, le_questions, le_rightOnes, le_wrongOnes), (-1, m_dares, m_times, m_drawn, m_questions, m_rights, m_wrongs), by unfold FX8_again; rw [if_pos g8], by unfold FX9_again; rw [if_neg g9], rfl, hTx, hM, ⟨P, r, c, k, q, d, f, da, ti, hRo, hle, hs1, hs2⟩, hL, hTa, hTr⟩
  · rcases (show s = 0 ∨ s = 1 by omega) with rfl | rfl
    · have hs0 := hs1
      obtain ⟨e1, e2, e3⟩ := hs0
      rcases e2 with e2 | e2
      · have k9 : m_isKept 0 = 0 := by rw [← e1]; exact e2
        refine ⟨(-3, le_dares, le_times, le_seed, le_questions, le_rightOnes, le_wrongOnes), (-3, m_dares, m_times, m_drawn, m_questions, m_rights, m_wrongs), ?_, ?_, rfl, hTx, hM, ⟨P, r, c, k, q, d, f, da, ti, hRo, hle, hs1, hs2⟩, hL, hTa, hTr⟩
        · unfold FX8_again
          rw [if_neg g8, if_pos (show nI 0 = (0 : Int32) from rfl), if_pos e2]
        · unfold FX9_again
          rw [if_pos g9, gdI (by omega) (by decide), nI_clamp (n := 0) (by omega), if_pos k9]
      · have k8 : ¬ s1_isKept = 0 := by rw [e2]; decide
        have k9 : ¬ m_isKept 0 = 0 := by rw [← e1]; exact k8
        obtain ⟨⟨da2, ti2, h4⟩, h5, h6, h7, h8⟩ := e3 e2
        refine ⟨(s1_questions, cpN 12 s1_dares le_dares, cpN 12 s1_times le_times, s1_seed, s1_questions, s1_rightOnes, s1_wrongOnes), _, ?_, ag9 (by omega) g9 k9, ?_, hTx, hM, ⟨P, r, c, k, q, d, f, da2, ti2, hRo, RLe_cp hP h4, hs1, hs2⟩, ⟨h5, h6, h7, h8⟩, hTa, hTr⟩
        · unfold FX8_again
          rw [if_neg g8, if_pos (show nI 0 = (0 : Int32) from rfl), if_neg k8, become_n]
          rfl
        · exact h6
    · have hs0 := hs2
      obtain ⟨e1, e2, e3⟩ := hs0
      rcases e2 with e2 | e2
      · have k9 : m_isKept 1 = 0 := by rw [← e1]; exact e2
        refine ⟨(-3, le_dares, le_times, le_seed, le_questions, le_rightOnes, le_wrongOnes), (-3, m_dares, m_times, m_drawn, m_questions, m_rights, m_wrongs), ?_, ?_, rfl, hTx, hM, ⟨P, r, c, k, q, d, f, da, ti, hRo, hle, hs1, hs2⟩, hL, hTa, hTr⟩
        · unfold FX8_again
          rw [if_neg g8, if_neg (show ¬ nI 1 = (0 : Int32) by decide), if_pos e2]
        · unfold FX9_again
          rw [if_pos g9, gdI (by omega) (by decide), nI_clamp (n := 1) (by omega), if_pos k9]
      · have k8 : ¬ s2_isKept = 0 := by rw [e2]; decide
        have k9 : ¬ m_isKept 1 = 0 := by rw [← e1]; exact k8
        obtain ⟨⟨da2, ti2, h4⟩, h5, h6, h7, h8⟩ := e3 e2
        refine ⟨(s2_questions, cpN 12 s2_dares le_dares, cpN 12 s2_times le_times, s2_seed, s2_questions, s2_rightOnes, s2_wrongOnes), _, ?_, ag9 (by omega) g9 k9, ?_, hTx, hM, ⟨P, r, c, k, q, d, f, da2, ti2, hRo, RLe_cp hP h4, hs1, hs2⟩, ⟨h5, h6, h7, h8⟩, hTa, hTr⟩
        · unfold FX8_again
          rw [if_neg g8, if_neg (show ¬ nI 1 = (0 : Int32) by decide), if_neg k8, become_n]
          rfl
        · exact h6
set_option maxHeartbeats 1000000 in
set_option maxRecDepth 10000 in
theorem P_count (N : Nat) (hN : N < 4000) (tx_length : Int32) (tx_bytes : Nat → Int32) (ro_pupils : Int32) (ro_mood : Int32) (ro_letters : Nat → Int32) (ro_rows : Nat → Int32) (ro_columns : Nat → Int32) (ro_tenths : Nat → Int32) (ro_needs : Nat → Int32) (ro_toldDares : Nat → Int32) (le_seed : Int64) (le_questions : Int32) (le_rightOnes : Int32) (le_wrongOnes : Int32) (le_isKept : Int32) (le_dares : Nat → Int32) (le_times : Nat → Int32) (ha_cells : Nat → Int64) (ch_pupils : Int32) (ch_rule : Int32) (ch_ranks : Nat → Int32) (ch_eligible : Nat → Int32) (ch_eligibleAndRight : Nat → Int32) (ch_cells : Nat → Int64) (s1_seed : Int64) (s1_questions : Int32) (s1_rightOnes : Int32) (s1_wrongOnes : Int32) (s1_isKept : Int32) (s1_dares : Nat → Int32) (s1_times : Nat → Int32) (s2_seed : Int64) (s2_questions : Int32) (s2_rightOnes : Int32) (s2_wrongOnes : Int32) (s2_isKept : Int32) (s2_dares : Nat → Int32) (s2_times : Nat → Int32) (ta_size : Int32) (ta_hands : Nat → Int32) (ta_ones : Nat → Int32) (ta_cells : Nat → Int64) (tr_waited : Int32) (tr_size : Int32) (tr_hands : Nat → Int32) (m_readMany : Int32) (m_pupils : Int32) (m_mood : Int32) (m_length : Int32) (m_at : Int32) (m_faultAt : Int32) (m_drawn : Int64) (m_questions : Int32) (m_rights : Int32) (m_wrongs : Int32) (m_tapes : Int32) (m_trials : Int32) (m_read : Nat → Int32) (m_pupil : Nat → Int32) (m_dares : Nat → Int32) (m_times : Nat → Int32) (m_text : Nat → Int32) (m_joint : Nat → Int64) (m_others : Nat → Int64) (m_tapeHands : Nat → Int32) (m_tapeTaken : Nat → Int32) (m_trialHands : Nat → Int32) (m_trialWaited : Nat → Int32) (m_isKept : Nat → Int32) (m_keptDares : Nat → Int32) (m_keptTimes : Nat → Int32) (m_keptDrawn : Nat → Int64) (m_keptLesson : Nat → Int32) (p1 : Int32) (hR : Rel N tx_length tx_bytes ro_pupils ro_mood ro_letters ro_rows ro_columns ro_tenths ro_needs ro_toldDares le_seed le_questions le_rightOnes le_wrongOnes le_dares le_times s1_seed s1_questions s1_rightOnes s1_wrongOnes s1_isKept s1_dares s1_times s2_seed s2_questions s2_rightOnes s2_wrongOnes s2_isKept s2_dares s2_times ta_size ta_hands ta_ones tr_waited tr_size tr_hands m_pupils m_mood m_length m_drawn m_questions m_rights m_wrongs m_tapes m_trials m_pupil m_dares m_times m_text m_tapeHands m_tapeTaken m_trialHands m_trialWaited m_isKept m_keptDares m_keptTimes m_keptDrawn m_keptLesson) : ∃ (u : Int32) (v : Int32), FX8_count tx_length ro_pupils ta_size tr_waited tr_size p1 = u ∧ FX9_count m_pupils m_length m_tapes m_trials m_trialWaited p1 = some v ∧ u = v ∧ Rel (N + 1) tx_length tx_bytes ro_pupils ro_mood ro_letters ro_rows ro_columns ro_tenths ro_needs ro_toldDares le_seed le_questions le_rightOnes le_wrongOnes le_dares le_times s1_seed s1_questions s1_rightOnes s1_wrongOnes s1_isKept s1_dares s1_times s2_seed s2_questions s2_rightOnes s2_wrongOnes s2_isKept s2_dares s2_times ta_size ta_hands ta_ones tr_waited tr_size tr_hands m_pupils m_mood m_length m_drawn m_questions m_rights m_wrongs m_tapes m_trials m_pupil m_dares m_times m_text m_tapeHands m_tapeTaken m_trialHands m_trialWaited m_isKept m_keptDares m_keptTimes m_keptDrawn m_keptLesson := by
  have hR' := Rel_mono hR (Nat.le_succ N)
  obtain ⟨⟨n, b, -, htl, hml, -⟩, -, ⟨P, r, c, k, q, d, f, da, ti, hRo, -, -, -⟩, -, ⟨T, h, o, -, hts, hmts, -⟩, ⟨S, W, hh, hS, hW, hss, hmS, htw, htr⟩⟩ := hR
  have key : ∃ x, FX8_count tx_length ro_pupils ta_size tr_waited tr_size p1 = x ∧ FX9_count m_pupils m_length m_tapes m_trials m_trialWaited p1 = some x := by
    unfold FX8_count FX9_count
    have hW2 : W < 4096 := Nat.lt_of_lt_of_le hW (pow12 (by omega))
    rw [waits_n hS hmS (fun i hi => (htr i hi).2.2.2), Option.bind_some, htw, bitCount_n hW2, pop_cut hW (by omega), htl, hml, hRo.2.1, hRo.2.2.1, hts, hmts, hss, hmS]
    by_cases c0 : p1 = (0 : Int32)
    · rw [if_pos c0, if_pos c0]; exact ⟨_, rfl, rfl⟩
    · rw [if_neg c0, if_neg c0]
      by_cases c1 : p1 = (1 : Int32)
      · rw [if_pos c1, if_pos c1]; exact ⟨_, rfl, rfl⟩
      · rw [if_neg c1, if_neg c1]
        by_cases c2 : p1 = (2 : Int32)
        · rw [if_pos c2, if_pos c2]; exact ⟨_, rfl, rfl⟩
        · rw [if_neg c2, if_neg c2]
          by_cases c3 : p1 = (3 : Int32)
          · rw [if_pos c3, if_pos c3]; exact ⟨_, rfl, rfl⟩
          · rw [if_neg c3, if_neg c3]
            by_cases c4 : p1 = (4 : Int32)
            · rw [if_pos c4, if_pos c4]; exact ⟨_, rfl, rfl⟩
            · rw [if_neg c4, if_neg c4]; exact ⟨_, rfl, rfl⟩
  obtain ⟨x, a, b⟩ := key
  exact ⟨x, x, a, b, rfl, hR'⟩
