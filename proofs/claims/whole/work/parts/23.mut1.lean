theorem zix' {m n : Nat} (h : m < n) (hn : n < 2 ^ 31) : (nI m < 0 ∨ n ≤ m) = False := by
  have := nI_pos (n := m) (by omega)
  simp only [this, false_or, eq_iff_iff, iff_false]
  omega
theorem s_isStep (x : Int32) (M : zM) : p_X8_isStep x M = some (zq (0 ≤ x ∧ x ≤ M 2 4 - 1)) := by simp [p_X8_isStep, s_within, zq_01]
theorem s_isSheet (x : Int32) (M : zM) : p_X8_isSheet x M = some (zq (0 ≤ x ∧ x ≤ M 6 4 - 1)) := by simp [p_X8_isSheet, s_within, zq_01]
theorem m_isSheet (x : Int32) (M : zM) : p_X9_isSheet x M = some (zq (0 ≤ x ∧ x ≤ M 9 18 - 1)) := by simp [p_X9_isSheet, s_in, zq_01]
theorem zltn {n k : Nat} (h : n < k) (hk : k < 2 ^ 31) : nI n < nI k := (nI_ltI (by omega) hk).mpr h
/-! ===== the simple calls: class and reference answer alike and the invariant stays ===== -/
theorem e_beat (x1 : Int32) {M : zM} (v : zInv M) : zAlike (p_X8_beat x1) (p_X9_beat x1) M := by
  obtain ⟨v1, v2, v3, v4, v5, v6, v7⟩ := v
  by_cases h : 1 ≤ x1 ∧ x1 ≤ 3
  · refine ⟨M 9 4, zset M 1 4 x1, zset (zset M 1 4 x1) 9 4 x1, ?_, ?_, ?_, ?_, ?_, ?_, ?_, ?_, ?_⟩
    · simp [p_X8_beat, s_within, zq_0, h, v1.2.2.2.2.1]
    · simp [p_X9_beat, s_in, zq_0, h, zs_ne]
    · obtain ⟨a1, a2, a3, a4, a5, a6⟩ := v1
      refine ⟨fun m hm => by simpa [zset] using a1 m hm, fun m i hm hi => by rw [zs_ne (by omega), zs_ne (by omega), zs_ne (by omega), zs_ne (by omega)]; exact a2 m i hm hi, fun m hm => by simpa [zset] using a3 m hm, fun m hm => by simpa [zset] using a4 m hm, by simp [zset], by simp only [zs_self]; exact zr_of (by decide) (by decide) h.1 h.2⟩
    · exact zvTune_s rfl (zvTune_s rfl (v2))
    · exact zvSong_s rfl (zvSong_s rfl (v3))
    · exact zvRules_s rfl (zvRules_s rfl (v4))
    · exact zvGround_s rfl (zvGround_s rfl (v5))
    · exact zvSheets_s rfl (zvSheets_s rfl (v6))
    · exact zvPipes_s rfl (zvPipes_s rfl (v7))
  · refine ⟨-3, M, M, ?_, ?_, v1, v2, v3, v4, v5, v6, v7⟩ <;> simp [p_X8_beat, p_X9_beat, s_within, s_in, zq_0, h]
theorem e_damp (x1 : Int32) {M : zM} (v : zInv M) : zAlike (p_X8_damp x1) (p_X9_damp x1) M := by
  obtain ⟨v1, v2, v3, v4, v5, v6, v7⟩ := v
  by_cases h : 0 ≤ x1 ∧ x1 ≤ 5
  · refine ⟨M 9 30, zset M 7 4 x1, zset (zset M 7 4 x1) 9 30 x1, ?_, ?_, ?_, ?_, ?_, ?_, ?_, ?_, ?_⟩
    · simp [p_X8_damp, s_within, zq_0, h, v7.2.2.2.2.1.1]
    · simp [p_X9_damp, s_in, zq_0, h, zs_ne]
    · exact zvMov_s rfl (zvMov_s rfl (v1))
    · exact zvTune_s rfl (zvTune_s rfl (v2))
    · exact zvSong_s rfl (zvSong_s rfl (v3))
    · exact zvRules_s rfl (zvRules_s rfl (v4))
    · exact zvGround_s rfl (zvGround_s rfl (v5))
    · exact zvSheets_s rfl (zvSheets_s rfl (v6))
    · obtain ⟨a1, a2, a3, a4, a5, a6⟩ := v7
      refine ⟨fun m hm => by simpa [zset] using a1 m hm, fun m hm => by simpa [zset] using a2 m hm, fun m hm => by simpa [zset] using a3 m hm, fun m hm => by simpa [zset] using a4 m hm, ⟨by simp [zset], by simp only [zs_self]; exact zr_of (by decide) (by decide) h.1 h.2⟩, fun m hm => by simpa [zset] using a6 m hm⟩
  · refine ⟨-3, M, M, ?_, ?_, v1, v2, v3, v4, v5, v6, v7⟩ <;> simp [p_X8_damp, p_X9_damp, s_within, s_in, zq_0, h]
theorem e_tone (x1 : Int32) (x2 : Int32) {M : zM} (v : zInv M) : zAlike (p_X8_tone x1 x2) (p_X9_tone x1 x2) M := by
  obtain ⟨v1, v2, v3, v4, v5, v6, v7⟩ := v
  by_cases h : 0 ≤ x1 ∧ x1 ≤ 8
  · by_cases h2 : -300 ≤ x2 ∧ x2 ≤ 300
    · obtain ⟨n, hn, rfl⟩ := zup (n := 8) rfl (by decide) h
      refine ⟨1, zset M 74 n x2, zset (zset M 74 n x2) 98 n x2, ?_, ?_, ?_, ?_, ?_, ?_, ?_, ?_, ?_⟩
      · simp (disch := omega) [p_X8_tone, s_isNote, s_within, zq_0, h, h2, ↓zix, zix', zcl']
      · simp (disch := omega) [p_X9_tone, m_isNote, s_in, zq_0, h, h2, ↓zix, zix', zcl']
      · exact zvMov_s rfl (zvMov_s rfl (v1))
      · exact zvTune_s rfl (zvTune_s rfl (v2))
      · exact zvSong_s rfl (zvSong_s rfl (v3))
      · exact zvRules_s rfl (zvRules_s rfl (v4))
      · exact zvGround_s rfl (zvGround_s rfl (v5))
      · exact zvSheets_s rfl (zvSheets_s rfl (v6))
      · obtain ⟨a1, a2, a3, a4, a5, a6⟩ := v7
        refine ⟨fun m hm => by simpa [zset] using a1 m hm, fun m hm => by simpa [zset] using a2 m hm, fun m hm => by simpa [zset] using a3 m hm, fun m hm => by simpa [zset] using a4 m hm, by simpa [zset] using a5, fun m hm => ?_⟩
        by_cases e : m = n
        · subst e
          simp [zset]
          exact zr_of (by decide) (by decide) h2.1 h2.2
        · simpa [zset, e] using a6 m hm
    · refine ⟨-3, M, M, ?_, ?_, v1, v2, v3, v4, v5, v6, v7⟩ <;> simp [p_X8_tone, p_X9_tone, s_isNote, m_isNote, s_within, s_in, zq_0, h, h2]
  · refine ⟨-2, M, M, ?_, ?_, v1, v2, v3, v4, v5, v6, v7⟩ <;> simp [p_X8_tone, p_X9_tone, s_isNote, m_isNote, s_within, s_in, zq_0, h]
theorem e_piper (x1 : Int32) (x2 : Int32) (x3 : Int32) (x4 : Int32) (x5 : Int32) {M : zM} (v : zInv M) : zAlike (p_X8_piper x1 x2 x3 x4 x5) (p_X9_piper x1 x2 x3 x4 x5) M := by
  obtain ⟨v1, v2, v3, v4, v5, v6, v7⟩ := v
  by_cases h : 0 ≤ x1 ∧ x1 ≤ 5
  · by_cases h2 : -99 ≤ x2 ∧ x2 ≤ 99
    · by_cases h3 : 0 ≤ x3 ∧ x3 ≤ 9
      · by_cases h4 : 1 ≤ x4 ∧ x4 ≤ 60
        · by_cases h5 : 0 ≤ x5 ∧ x5 ≤ 90
          · obtain ⟨p, hp, rfl⟩ := zup (n := 5) rfl (by decide) h
            refine ⟨1, zset (zset (zset (zset (M) 70 p x2) 71 p x3) 72 p x4) 73 p x5, zset (zset (zset (zset (zset (zset (zset (zset (M) 70 p x2) 71 p x3) 72 p x4) 73 p x5) 94 p x2) 95 p x3) 96 p x4) 97 p x5, ?_, ?_, ?_, ?_, ?_, ?_, ?_, ?_, ?_⟩
            · simp (disch := omega) [p_X8_piper, p_X3_become, s_isPiper, s_within, zq_0, h, h2, h3, h4, h5, ↓zix, zix', zcl']
            · simp (disch := omega) [p_X9_piper, m_isPiper, s_in, zq_0, h, h2, h3, h4, h5, ↓zix, zix', zcl']
            · exact zvMov_s rfl (zvMov_s rfl (zvMov_s rfl (zvMov_s rfl (zvMov_s rfl (zvMov_s rfl (zvMov_s rfl (zvMov_s rfl (v1))))))))
            · exact zvTune_s rfl (zvTune_s rfl (zvTune_s rfl (zvTune_s rfl (zvTune_s rfl (zvTune_s rfl (zvTune_s rfl (zvTune_s rfl (v2))))))))
            · exact zvSong_s rfl (zvSong_s rfl (zvSong_s rfl (zvSong_s rfl (zvSong_s rfl (zvSong_s rfl (zvSong_s rfl (zvSong_s rfl (v3))))))))
            · exact zvRules_s rfl (zvRules_s rfl (zvRules_s rfl (zvRules_s rfl (zvRules_s rfl (zvRules_s rfl (zvRules_s rfl (zvRules_s rfl (v4))))))))
            · exact zvGround_s rfl (zvGround_s rfl (zvGround_s rfl (zvGround_s rfl (zvGround_s rfl (zvGround_s rfl (zvGround_s rfl (zvGround_s rfl (v5))))))))
            · exact zvSheets_s rfl (zvSheets_s rfl (zvSheets_s rfl (zvSheets_s rfl (zvSheets_s rfl (zvSheets_s rfl (zvSheets_s rfl (zvSheets_s rfl (v6))))))))
            · obtain ⟨a1, a2, a3, a4, a5, a6⟩ := v7
              refine ⟨fun m hm => ?_, fun m hm => ?_, fun m hm => ?_, fun m hm => ?_, by simpa [zset] using a5, fun m hm => by simpa [zset] using a6 m hm⟩
              · by_cases e : m = p
                · subst e
                  simp [zset]
                  exact zr_of (by decide) (by decide) h2.1 h2.2
                · simpa [zset, e] using a1 m hm
              · by_cases e : m = p
                · subst e
                  simp [zset]
                  exact zr_of (by decide) (by decide) h3.1 h3.2
                · simpa [zset, e] using a2 m hm
              · by_cases e : m = p
                · subst e
                  simp [zset]
                  exact zr_of (by decide) (by decide) h4.1 h4.2
                · simpa [zset, e] using a3 m hm
              · by_cases e : m = p
                · subst e
                  simp [zset]
                  exact zr_of (by decide) (by decide) h5.1 h5.2
                · simpa [zset, e] using a4 m hm
          · refine ⟨-3, M, M, ?_, ?_, v1, v2, v3, v4, v5, v6, v7⟩ <;> simp [p_X8_piper, p_X9_piper, s_isPiper, m_isPiper, s_within, s_in, zq_0, h, h2, h3, h4, h5]
        · refine ⟨-3, M, M, ?_, ?_, v1, v2, v3, v4, v5, v6, v7⟩ <;> simp [p_X8_piper, p_X9_piper, s_isPiper, m_isPiper, s_within, s_in, zq_0, h, h2, h3, h4]
      · refine ⟨-3, M, M, ?_, ?_, v1, v2, v3, v4, v5, v6, v7⟩ <;> simp [p_X8_piper, p_X9_piper, s_isPiper, m_isPiper, s_within, s_in, zq_0, h, h2, h3]
    · refine ⟨-3, M, M, ?_, ?_, v1, v2, v3, v4, v5, v6, v7⟩ <;> simp [p_X8_piper, p_X9_piper, s_isPiper, m_isPiper, s_within, s_in, zq_0, h, h2]
  · refine ⟨-2, M, M, ?_, ?_, v1, v2, v3, v4, v5, v6, v7⟩ <;> simp [p_X8_piper, p_X9_piper, s_isPiper, m_isPiper, s_within, s_in, zq_0, h]
theorem e_hush {M : zM} (v : zInv M) : zAlike (p_X8_hush) (p_X9_hush) M := by
  obtain ⟨v1, v2, v3, v4, v5, v6, v7⟩ := v
  refine ⟨M 9 11, zset M 3 4 0, zset (zset M 3 4 0) 9 11 0, ?_, ?_, ?_, ?_, ?_, ?_, ?_, ?_, ?_⟩
  · simp [p_X8_hush, v3.2.2.1.1]
  · simp [p_X9_hush, zs_ne]
  · exact zvMov_s rfl (zvMov_s rfl (v1))
  · exact zvTune_s rfl (zvTune_s rfl (v2))
  · obtain ⟨a1, a2, a3, a4⟩ := v3
    refine ⟨fun r m hr hm => by rw [zs_ne (by omega), zs_ne (by omega), zs_ne (by omega), zs_ne (by omega)]; exact a1 r m hr hm, fun r m hr hm => by rw [zs_ne (by omega), zs_ne (by omega), zs_ne (by omega), zs_ne (by omega)]; exact a2 r m hr hm, ⟨by simp [zset], by simp only [zs_self]; unfold zr; decide⟩, fun m hm => by simpa [zset] using a4 m hm⟩
  · exact zvRules_s rfl (zvRules_s rfl (v4))
  · exact zvGround_s rfl (zvGround_s rfl (v5))
  · exact zvSheets_s rfl (zvSheets_s rfl (v6))
  · exact zvPipes_s rfl (zvPipes_s rfl (v7))
theorem e_silence {M : zM} (v : zInv M) : zAlike (p_X8_silence) (p_X9_silence) M := by
  obtain ⟨v1, v2, v3, v4, v5, v6, v7⟩ := v
  refine ⟨M 9 16, zset M 5 2 0, zset (zset M 5 2 0) 9 16 0, ?_, ?_, ?_, ?_, ?_, ?_, ?_, ?_, ?_⟩
  · simp [p_X8_silence, v5.1.1]
  · simp [p_X9_silence, zs_ne]
  · exact zvMov_s rfl (zvMov_s rfl (v1))
  · exact zvTune_s rfl (zvTune_s rfl (v2))
  · exact zvSong_s rfl (zvSong_s rfl (v3))
  · exact zvRules_s rfl (zvRules_s rfl (v4))
  · obtain ⟨a1, a2⟩ := v5
    exact ⟨⟨by simp [zset], by simp only [zs_self]; unfold zr; decide⟩, fun m hm => by simpa [zset] using a2 m hm⟩
  · exact zvSheets_s rfl (zvSheets_s rfl (v6))
  · exact zvPipes_s rfl (zvPipes_s rfl (v7))
theorem e_clear {M : zM} (v : zInv M) : zAlike (p_X8_clear) (p_X9_clear) M := by
  obtain ⟨v1, v2, v3, v4, v5, v6, v7⟩ := v
  refine ⟨M 9 18, zset M 6 4 0, zset (zset M 6 4 0) 9 18 0, ?_, ?_, ?_, ?_, ?_, ?_, ?_, ?_, ?_⟩
  · simp [p_X8_clear, v6.1.1]
  · simp [p_X9_clear, zs_ne]
  · exact zvMov_s rfl (zvMov_s rfl (v1))
  · exact zvTune_s rfl (zvTune_s rfl (v2))
  · exact zvSong_s rfl (zvSong_s rfl (v3))
  · exact zvRules_s rfl (zvRules_s rfl (v4))
  · exact zvGround_s rfl (zvGround_s rfl (v5))
  · obtain ⟨a1, a2, a3, a4, a5, a6, a7⟩ := v6
    refine ⟨⟨by simp [zset], by simp only [zs_self]; unfold zr; decide⟩, by simpa [zset] using a2, by simpa [zset] using a3, fun h => ?_, fun m hm => by simpa [zset] using a5 m hm, fun r m hr hm => by rw [zs_ne (by omega), zs_ne (by omega), zs_ne (by omega), zs_ne (by omega)]; exact a6 r m hr hm, fun s h => ?_⟩
    · simp only [zs_self] at h
      exact absurd h (by decide)
    · simp only [zs_self] at h
      have : (0 : Int32).toInt = 0 := by decide
      omega
  · exact zvPipes_s rfl (zvPipes_s rfl (v7))
theorem e_syllable (x1 : Int32) {M : zM} (v : zInv M) : zAlike (p_X8_syllable x1) (p_X9_syllable x1) M := by
  obtain ⟨v1, v2, v3, v4, v5, v6, v7⟩ := v
  by_cases h : 0 ≤ x1 ∧ x1 ≤ 31
  · obtain ⟨n, hn, e⟩ := zr_nat (hi := 12) v3.2.2.1.2 (by decide)
    have ec : M 3 4 = nI n := v3.2.2.1.1.trans e
    by_cases hf : n = 12
    · subst hf
      refine ⟨-5, M, M, ?_, ?_, v1, v2, v3, v4, v5, v6, v7⟩
      · simp [p_X8_syllable, s_within, zq_0, h, ec, show ¬ (nI 12 < 12) by decide]
      · simp [p_X9_syllable, s_in, zq_0, h, e, show nI 12 = 12 by decide]
    · refine ⟨nI (n + 1), zset (zset M 33 n x1) 3 4 (nI (n + 1)), zset (zset (zset (zset M 33 n x1) 3 4 (nI (n + 1))) 84 n x1) 9 11 (nI (n + 1)), ?_, ?_, ?_, ?_, ?_, ?_, ?_, ?_, ?_⟩
      · simp (disch := omega) [p_X8_syllable, p_X6_append, s_within, zq_0, h, ec, (zltn (by omega) (by decide) : nI n < nI 12), (show (12 : Int32) = nI 12 from rfl), ↓zix, zix', zcl', zs_ne, zs_self, nI_1]
      · simp (disch := omega) [p_X9_syllable, s_in, zq_0, h, e, zEqn, hf, (show (12 : Int32) = nI 12 from rfl), ↓zix, zix', zcl', zs_ne, zs_self, nI_1]
      · exact zvMov_s rfl (zvMov_s rfl (zvMov_s rfl (zvMov_s rfl (v1))))
      · exact zvTune_s rfl (zvTune_s rfl (zvTune_s rfl (zvTune_s rfl (v2))))
      · obtain ⟨a1, a2, a3, a4⟩ := v3
        refine ⟨fun r m hr hm => by rw [zs_ne (by omega), zs_ne (by omega), zs_ne (by omega), zs_ne (by omega), zs_ne (by omega), zs_ne (by omega), zs_ne (by omega), zs_ne (by omega)]; exact a1 r m hr hm, fun r m hr hm => by rw [zs_ne (by omega), zs_ne (by omega), zs_ne (by omega), zs_ne (by omega), zs_ne (by omega), zs_ne (by omega), zs_ne (by omega), zs_ne (by omega)]; exact a2 r m hr hm, ⟨by simp [zset], by simp only [zs_self]; exact zr_nI (hi := 12) (by omega) (by decide)⟩, fun m hm => ?_⟩
        by_cases em : m = n
        · subst em
          simp [zset]
          exact zr_of (by decide) (by decide) h.1 h.2
        · simpa [zset, em] using a4 m hm
      · exact zvRules_s rfl (zvRules_s rfl (zvRules_s rfl (zvRules_s rfl (v4))))
      · exact zvGround_s rfl (zvGround_s rfl (zvGround_s rfl (zvGround_s rfl (v5))))
      · exact zvSheets_s rfl (zvSheets_s rfl (zvSheets_s rfl (zvSheets_s rfl (v6))))
      · exact zvPipes_s rfl (zvPipes_s rfl (zvPipes_s rfl (zvPipes_s rfl (v7))))
  · refine ⟨-3, M, M, ?_, ?_, v1, v2, v3, v4, v5, v6, v7⟩ <;> simp [p_X8_syllable, p_X9_syllable, s_within, s_in, zq_0, h]
theorem e_note (x1 : Int32) {M : zM} (v : zInv M) : zAlike (p_X8_note x1) (p_X9_note x1) M := by
  obtain ⟨v1, v2, v3, v4, v5, v6, v7⟩ := v
  by_cases h : 0 ≤ x1 ∧ x1 ≤ 8
  · obtain ⟨n, hn, e⟩ := zr_nat (hi := 16) v5.1.2 (by decide)
    have ec : M 5 2 = nI n := v5.1.1.trans e
    by_cases hf : n = 16
    · subst hf
      refine ⟨-5, M, M, ?_, ?_, v1, v2, v3, v4, v5, v6, v7⟩
      · simp [p_X8_note, s_isNote, zq_0, h, ec, show ¬ (nI 16 < 16) by decide]
      · simp [p_X9_note, m_isNote, zq_0, h, e, show nI 16 = 16 by decide]
    · refine ⟨nI (n + 1), zset (zset M 44 n x1) 5 2 (nI (n + 1)), zset (zset (zset (zset M 44 n x1) 5 2 (nI (n + 1))) 88 n x1) 9 16 (nI (n + 1)), ?_, ?_, ?_, ?_, ?_, ?_, ?_, ?_, ?_⟩
      · simp (disch := omega) [p_X8_note, p_X1_append, s_isNote, zq_0, h, ec, (zltn (by omega) (by decide) : nI n < nI 16), (show (16 : Int32) = nI 16 from rfl), ↓zix, zix', zcl', zs_ne, zs_self, nI_1]
      · simp (disch := omega) [p_X9_note, m_isNote, zq_0, h, e, zEqn, hf, (show (16 : Int32) = nI 16 from rfl), ↓zix, zix', zcl', zs_ne, zs_self, nI_1]
      · exact zvMov_s rfl (zvMov_s rfl (zvMov_s rfl (zvMov_s rfl (v1))))
      · exact zvTune_s rfl (zvTune_s rfl (zvTune_s rfl (zvTune_s rfl (v2))))
      · exact zvSong_s rfl (zvSong_s rfl (zvSong_s rfl (zvSong_s rfl (v3))))
      · exact zvRules_s rfl (zvRules_s rfl (zvRules_s rfl (zvRules_s rfl (v4))))
      · obtain ⟨a1, a2⟩ := v5
        refine ⟨⟨by simp [zset], by simp only [zs_self]; exact zr_nI (hi := 16) (by omega) (by decide)⟩, fun m hm => ?_⟩
        by_cases em : m = n
        · subst em
          simp [zset]
          exact zr_of (by decide) (by decide) h.1 h.2
        · simpa [zset, em] using a2 m hm
      · exact zvSheets_s rfl (zvSheets_s rfl (zvSheets_s rfl (zvSheets_s rfl (v6))))
      · exact zvPipes_s rfl (zvPipes_s rfl (zvPipes_s rfl (zvPipes_s rfl (v7))))
  · refine ⟨-2, M, M, ?_, ?_, v1, v2, v3, v4, v5, v6, v7⟩ <;> simp [p_X8_note, p_X9_note, s_isNote, m_isNote, zq_0, h]
theorem e_step (x1 : Int32) (x2 : Int32) (x3 : Int32) {M : zM} (v : zInv M) : zAlike (p_X8_step x1 x2 x3) (p_X9_step x1 x2 x3) M := by
  obtain ⟨v1, v2, v3, v4, v5, v6, v7⟩ := v
  by_cases h : 0 ≤ x1 ∧ x1 ≤ 8
  · by_cases h3 : -1 ≤ x3 ∧ x3 ≤ 7
    · by_cases h2 : 1 ≤ x2 ∧ x2 ≤ 9
      · obtain ⟨n, hn, e⟩ := zr_nat (hi := 24) v2.1.2 (by decide)
        have ec : M 2 4 = nI n := v2.1.1.trans e
        by_cases hf : n = 24
        · subst hf
          refine ⟨-5, M, M, ?_, ?_, v1, v2, v3, v4, v5, v6, v7⟩
          · simp [p_X8_step, s_isNote, s_isMovementOrLost, s_within, zq_0, h, h2, h3, ec, show ¬ (nI 24 < 24) by decide]
          · simp [p_X9_step, m_isNote, s_in, zq_0, h, h2, h3, e, show nI 24 = 24 by decide]
        · refine ⟨nI (n + 1), zset (zset (zset (zset M 22 n x1) 23 n x2) 24 n x3) 2 4 (nI (n + 1)), zset (zset (zset (zset (zset (zset (zset (zset M 22 n x1) 23 n x2) 24 n x3) 2 4 (nI (n + 1))) 79 n x1) 80 n x2) 81 n x3) 9 5 (nI (n + 1)), ?_, ?_, ?_, ?_, ?_, ?_, ?_, ?_, ?_⟩
          · simp (disch := omega) [p_X8_step, p_X7_append, s_isNote, s_isMovementOrLost, s_within, zq_0, h, h2, h3, ec, (zltn (by omega) (by decide) : nI n < nI 24), (show (24 : Int32) = nI 24 from rfl), ↓zix, zix', zcl', zs_ne, zs_self, nI_1]
          · simp (disch := omega) [p_X9_step, m_isNote, s_in, zq_0, h, h2, h3, e, zEqn, hf, (show (24 : Int32) = nI 24 from rfl), ↓zix, zix', zcl', zs_ne, zs_self, nI_1]
          · exact zvMov_s rfl (zvMov_s rfl (zvMov_s rfl (zvMov_s rfl (zvMov_s rfl (zvMov_s rfl (zvMov_s rfl (zvMov_s rfl (v1))))))))
          · obtain ⟨a1, a2, a3, a4⟩ := v2
            refine ⟨⟨by simp [zset], by simp only [zs_self]; exact zr_nI (hi := 24) (by omega) (by decide)⟩, fun m hm => ?_, fun m hm => ?_, fun m hm => ?_⟩
            · by_cases em : m = n
              · subst em
                simp [zset]
                exact zr_of (by decide) (by decide) h.1 h.2
              · simpa [zset, em] using a2 m hm
            · by_cases em : m = n
              · subst em
                simp [zset]
                exact zr_wk (zr_of (lo := 1) (hi := 9) (by decide) (by decide) h2.1 h2.2) (by decide) (by decide)
              · simpa [zset, em] using a3 m hm
            · by_cases em : m = n
              · subst em
                simp [zset]
                exact zr_of (by decide) (by decide) h3.1 h3.2
              · simpa [zset, em] using a4 m hm
          · exact zvSong_s rfl (zvSong_s rfl (zvSong_s rfl (zvSong_s rfl (zvSong_s rfl (zvSong_s rfl (zvSong_s rfl (zvSong_s rfl (v3))))))))
          · exact zvRules_s rfl (zvRules_s rfl (zvRules_s rfl (zvRules_s rfl (zvRules_s rfl (zvRules_s rfl (zvRules_s rfl (zvRules_s rfl (v4))))))))
          · exact zvGround_s rfl (zvGround_s rfl (zvGround_s rfl (zvGround_s rfl (zvGround_s rfl (zvGround_s rfl (zvGround_s rfl (zvGround_s rfl (v5))))))))
          · exact zvSheets_s rfl (zvSheets_s rfl (zvSheets_s rfl (zvSheets_s rfl (zvSheets_s rfl (zvSheets_s rfl (zvSheets_s rfl (zvSheets_s rfl (v6))))))))
          · exact zvPipes_s rfl (zvPipes_s rfl (zvPipes_s rfl (zvPipes_s rfl (zvPipes_s rfl (zvPipes_s rfl (zvPipes_s rfl (zvPipes_s rfl (v7))))))))
      · refine ⟨-3, M, M, ?_, ?_, v1, v2, v3, v4, v5, v6, v7⟩ <;> simp [p_X8_step, p_X9_step, s_isNote, m_isNote, s_isMovementOrLost, s_within, s_in, zq_0, h, h2, h3]
    · refine ⟨-2, M, M, ?_, ?_, v1, v2, v3, v4, v5, v6, v7⟩ <;> simp [p_X8_step, p_X9_step, s_isNote, m_isNote, s_isMovementOrLost, s_within, s_in, zq_0, h, h3]
  · refine ⟨-2, M, M, ?_, ?_, v1, v2, v3, v4, v5, v6, v7⟩ <;> simp [p_X8_step, p_X9_step, s_isNote, m_isNote, s_isMovementOrLost, s_within, s_in, zq_0, h]
theorem e_back {M : zM} (v : zInv M) : zAlike (p_X8_back) (p_X9_back) M := by
  obtain ⟨v1, v2, v3, v4, v5, v6, v7⟩ := v
  obtain ⟨n, hn, e⟩ := zr_nat (hi := 24) v2.1.2 (by decide)
  have ec : M 2 4 = nI n := v2.1.1.trans e
  cases n with
  | zero => refine ⟨-4, M, M, ?_, ?_, v1, v2, v3, v4, v5, v6, v7⟩ <;> simp [p_X8_back, p_X9_back, e, ec, show nI 0 = 0 from rfl]
  | succ n =>
    have h0 : ¬ (nI (n + 1) = 0) := nI_ne0 (by omega) (by omega)
    refine ⟨nI n, zset M 2 4 (nI n), zset (zset M 2 4 (nI n)) 9 5 (nI n), ?_, ?_, ?_, ?_, ?_, ?_, ?_, ?_, ?_⟩
    · simp [p_X8_back, ec, h0, nI_pred, zs_self]
    · simp [p_X9_back, e, h0, nI_pred, zs_self, zs_ne]
    · exact zvMov_s rfl (zvMov_s rfl (v1))
    · obtain ⟨a1, a2, a3, a4⟩ := v2
      exact ⟨⟨by simp [zset], by simp only [zs_self]; exact zr_nI (hi := 24) (by omega) (by decide)⟩, fun m hm => by simpa [zset] using a2 m hm, fun m hm => by simpa [zset] using a3 m hm, fun m hm => by simpa [zset] using a4 m hm⟩
    · exact zvSong_s rfl (zvSong_s rfl (v3))
    · exact zvRules_s rfl (zvRules_s rfl (v4))
    · exact zvGround_s rfl (zvGround_s rfl (v5))
    · exact zvSheets_s rfl (zvSheets_s rfl (v6))
    · exact zvPipes_s rfl (zvPipes_s rfl (v7))
/-- one of n, n as the memory has it -/
theorem zbelow {x c : Int32} {n : Nat} (hc : c = nI n) (hn : n < 2 ^ 30) (h : 0 ≤ x ∧ x ≤ c - 1) : ∃ k, k < n ∧ x = nI k := by
  subst hc
  cases n with
  | zero =>
    have e : nI 0 - 1 = -1 := by decide
    rw [e, fa_le, fa_le] at h
    have : ((-1 : Int32)).toInt = -1 := by decide
    have : ((0 : Int32)).toInt = 0 := by decide
    omega
  | succ n =>
    rw [nI_pred] at h
    obtain ⟨k, hk, rfl⟩ := zup rfl (by omega) h
    exact ⟨k, by omega, rfl⟩
theorem e_put (x1 : Int32) (x2 : Int32) {M : zM} (v : zInv M) : zAlike (p_X8_put x1 x2) (p_X9_put x1 x2) M := by
  obtain ⟨v1, v2, v3, v4, v5, v6, v7⟩ := v
  obtain ⟨n, hn, e⟩ := zr_nat (hi := 24) v2.1.2 (by decide)
  have ec : M 2 4 = nI n := v2.1.1.trans e
  by_cases h : 0 ≤ x1 ∧ x1 ≤ nI n - 1
  · by_cases h2 : -1 ≤ x2 ∧ x2 ≤ 7
    · obtain ⟨s, hs, rfl⟩ := zbelow rfl (by omega) h
      refine ⟨M 81 s, zset M 24 s x2, zset (zset M 24 s x2) 81 s x2, ?_, ?_, ?_, ?_, ?_, ?_, ?_, ?_, ?_⟩
      · simp (disch := omega) [p_X8_put, s_isStep, p_X8_replace, s_isMovementOrLost, s_within, zq_0, zq_01, ec, h, h2, ↓zix, zix', zcl', (v2.2.2.2 s (by omega)).1]
      · simp (disch := omega) [p_X9_put, s_in, zq_0, e, h, h2, ↓zix, zix', zcl', zs_ne]
      · exact zvMov_s rfl (zvMov_s rfl (v1))
      · obtain ⟨a1, a2, a3, a4⟩ := v2
        refine ⟨by simpa [zset] using a1, fun m hm => by simpa [zset] using a2 m hm, fun m hm => by simpa [zset] using a3 m hm, fun m hm => ?_⟩
        by_cases em : m = s
        · subst em
          simp [zset]
          exact zr_of (by decide) (by decide) h2.1 h2.2
        · simpa [zset, em] using a4 m hm
      · exact zvSong_s rfl (zvSong_s rfl (v3))
      · exact zvRules_s rfl (zvRules_s rfl (v4))
      · exact zvGround_s rfl (zvGround_s rfl (v5))
      · exact zvSheets_s rfl (zvSheets_s rfl (v6))
      · exact zvPipes_s rfl (zvPipes_s rfl (v7))
    · refine ⟨-2, M, M, ?_, ?_, v1, v2, v3, v4, v5, v6, v7⟩ <;> simp [p_X8_put, p_X9_put, s_isStep, s_isMovementOrLost, s_within, s_in, zq_0, zq_01, e, ec, h, h2]
  · refine ⟨-2, M, M, ?_, ?_, v1, v2, v3, v4, v5, v6, v7⟩ <;> simp [p_X8_put, p_X9_put, s_isStep, s_isMovementOrLost, s_within, s_in, zq_0, zq_01, e, ec, h]
