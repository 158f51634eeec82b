def zcase (Y1 Y2 : zY) (as : List zAV) (M : zM) : Prop := ∃ (v : Int32) (M1 M2 : zM), zS Y1 0 ((zO 0 :: as).map some) [] M (some v, M1) ∧ zS Y2 0 ((zO 9 :: as).map some) [] M1 (some v, M2) ∧ zInv M2
theorem zcase_movement (x1 x2 x3 : Int32) {M : zM} (v : zInv M) : zcase Y_X8_movement Y_X9_movement [zI x1, zI x2, zI x3] M := by
  obtain ⟨r, M1, M2, h1, h2, h3⟩ := e_movement x1 x2 x3 v
  exact ⟨r, M1, M2, zS_wk [some (zO 0), some (zI x1), some (zI x2), some (zI x3)] (And.intro rfl (And.intro rfl (And.intro rfl (And.intro rfl trivial)))) (zc_X8_movement x1 x2 x3 M h1), zS_wk [some (zO 9), some (zI x1), some (zI x2), some (zI x3), none] (And.intro rfl (And.intro rfl (And.intro rfl (And.intro rfl trivial)))) (zc_X9_movement x1 x2 x3 M1 h2), h3⟩
theorem zcase_may (x1 x2 x3 : Int32) {M : zM} (v : zInv M) : zcase Y_X8_may Y_X9_may [zI x1, zI x2, zI x3] M := by
  obtain ⟨r, M1, M2, h1, h2, h3⟩ := e_may x1 x2 x3 v
  exact ⟨r, M1, M2, zS_wk [some (zO 0), some (zI x1), some (zI x2), some (zI x3)] (And.intro rfl (And.intro rfl (And.intro rfl (And.intro rfl trivial)))) (zc_X8_may x1 x2 x3 M h1), zS_wk [some (zO 9), some (zI x1), some (zI x2), some (zI x3), none] (And.intro rfl (And.intro rfl (And.intro rfl (And.intro rfl trivial)))) (zc_X9_may x1 x2 x3 M1 h2), h3⟩
theorem zcase_beat (x1 : Int32) {M : zM} (v : zInv M) : zcase Y_X8_beat Y_X9_beat [zI x1] M := by
  obtain ⟨r, M1, M2, h1, h2, h3⟩ := e_beat x1 v
  exact ⟨r, M1, M2, zS_wk [some (zO 0), some (zI x1), none] (And.intro rfl (And.intro rfl trivial)) (zc_X8_beat x1 M h1), zS_wk [some (zO 9), some (zI x1), none] (And.intro rfl (And.intro rfl trivial)) (zc_X9_beat x1 M1 h2), h3⟩
theorem zcase_fits (x1 x2 x3 : Int32) {M : zM} (v : zInv M) : zcase Y_X8_fits Y_X9_fits [zI x1, zI x2, zI x3] M := by
  obtain ⟨r, h1, h2⟩ := e_fits x1 x2 x3 v
  exact ⟨r, M, M, zS_wk [some (zO 0), some (zI x1), some (zI x2), some (zI x3)] (And.intro rfl (And.intro rfl (And.intro rfl (And.intro rfl trivial)))) (zc_X8_fits x1 x2 x3 M h1), zS_wk [some (zO 9), some (zI x1), some (zI x2), some (zI x3)] (And.intro rfl (And.intro rfl (And.intro rfl (And.intro rfl trivial)))) (zc_X9_fits x1 x2 x3 M h2), v⟩
theorem zcase_step (x1 x2 x3 : Int32) {M : zM} (v : zInv M) : zcase Y_X8_step Y_X9_step [zI x1, zI x2, zI x3] M := by
  obtain ⟨r, M1, M2, h1, h2, h3⟩ := e_step x1 x2 x3 v
  exact ⟨r, M1, M2, zS_wk [some (zO 0), some (zI x1), some (zI x2), some (zI x3)] (And.intro rfl (And.intro rfl (And.intro rfl (And.intro rfl trivial)))) (zc_X8_step x1 x2 x3 M h1), zS_wk [some (zO 9), some (zI x1), some (zI x2), some (zI x3)] (And.intro rfl (And.intro rfl (And.intro rfl (And.intro rfl trivial)))) (zc_X9_step x1 x2 x3 M1 h2), h3⟩
theorem zcase_put (x1 x2 : Int32) {M : zM} (v : zInv M) : zcase Y_X8_put Y_X9_put [zI x1, zI x2] M := by
  obtain ⟨r, M1, M2, h1, h2, h3⟩ := e_put x1 x2 v
  exact ⟨r, M1, M2, zS_wk [some (zO 0), some (zI x1), some (zI x2)] (And.intro rfl (And.intro rfl (And.intro rfl trivial))) (zc_X8_put x1 x2 M h1), zS_wk [some (zO 9), some (zI x1), some (zI x2), none] (And.intro rfl (And.intro rfl (And.intro rfl trivial))) (zc_X9_put x1 x2 M1 h2), h3⟩
theorem zcase_back {M : zM} (v : zInv M) : zcase Y_X8_back Y_X9_back [] M := by
  obtain ⟨r, M1, M2, h1, h2, h3⟩ := e_back v
  exact ⟨r, M1, M2, zS_wk [some (zO 0)] (And.intro rfl trivial) (zc_X8_back M h1), zS_wk [some (zO 9)] (And.intro rfl trivial) (zc_X9_back M1 h2), h3⟩
theorem zcase_wrong {M : zM} (v : zInv M) : zcase Y_X8_wrong Y_X9_wrong [] M := by
  obtain ⟨r, h1, h2⟩ := e_wrong v
  exact ⟨r, M, M, zS_wk [some (zO 0)] (And.intro rfl trivial) (zc_X8_wrong M h1), zS_wk [some (zO 9), none] (And.intro rfl trivial) (zc_X9_wrong M h2), v⟩
theorem zcase_fillings {M : zM} (v : zInv M) : zcase Y_X8_fillings Y_X9_fillings [] M := by
  obtain ⟨r, h1, h2⟩ := e_fillings v
  exact ⟨r, M, M, zS_wk [some (zO 0)] (And.intro rfl trivial) (zc_X8_fillings M h1), zS_wk [some (zO 9), none, none, none, none, none] (And.intro rfl trivial) (zc_X9_fillings M h2), v⟩
theorem zcase_quickest (x1 : Int32) {M : zM} (v : zInv M) : zcase Y_X8_quickest Y_X9_quickest [zI x1] M := by
  obtain ⟨r, h1, h2⟩ := e_quickest x1 v
  exact ⟨r, M, M, zS_wk [some (zO 0), some (zI x1)] (And.intro rfl (And.intro rfl trivial)) (zc_X8_quickest x1 M h1), zS_wk [some (zO 9), some (zI x1)] (And.intro rfl (And.intro rfl trivial)) (zc_X9_quickest x1 M h2), v⟩
theorem zcase_graces {M : zM} (v : zInv M) : zcase Y_X8_graces Y_X9_graces [] M := by
  obtain ⟨r, h1, h2⟩ := e_graces v
  exact ⟨r, M, M, zS_wk [some (zO 0)] (And.intro rfl trivial) (zc_X8_graces M h1), zS_wk [some (zO 9), none, none] (And.intro rfl trivial) (zc_X9_graces M h2), v⟩
theorem zcase_region (x1 x2 x3 x4 : Int32) {M : zM} (v : zInv M) : zcase Y_X8_region Y_X9_region [zI x1, zI x2, zI x3, zI x4] M := by
  obtain ⟨r, M1, M2, h1, h2, h3⟩ := e_region x1 x2 x3 x4 v
  exact ⟨r, M1, M2, zS_wk [some (zO 0), some (zI x1), some (zI x2), some (zI x3), some (zI x4), none] (And.intro rfl (And.intro rfl (And.intro rfl (And.intro rfl (And.intro rfl trivial))))) (zc_X8_region x1 x2 x3 x4 M h1), zS_wk [some (zO 9), some (zI x1), some (zI x2), some (zI x3), some (zI x4), none] (And.intro rfl (And.intro rfl (And.intro rfl (And.intro rfl (And.intro rfl trivial))))) (zc_X9_region x1 x2 x3 x4 M1 h2), h3⟩
theorem zcase_sung (x1 x2 : Int32) {M : zM} (v : zInv M) : zcase Y_X8_sung Y_X9_sung [zI x1, zI x2] M := by
  obtain ⟨r, h1, h2⟩ := e_sung x1 x2 v
  exact ⟨r, M, M, zS_wk [some (zO 0), some (zI x1), some (zI x2), none] (And.intro rfl (And.intro rfl (And.intro rfl trivial))) (zc_X8_sung x1 x2 M h1), zS_wk [some (zO 9), some (zI x1), some (zI x2)] (And.intro rfl (And.intro rfl (And.intro rfl trivial))) (zc_X9_sung x1 x2 M h2), v⟩
theorem zcase_syllable (x1 : Int32) {M : zM} (v : zInv M) : zcase Y_X8_syllable Y_X9_syllable [zI x1] M := by
  obtain ⟨r, M1, M2, h1, h2, h3⟩ := e_syllable x1 v
  exact ⟨r, M1, M2, zS_wk [some (zO 0), some (zI x1)] (And.intro rfl (And.intro rfl trivial)) (zc_X8_syllable x1 M h1), zS_wk [some (zO 9), some (zI x1)] (And.intro rfl (And.intro rfl trivial)) (zc_X9_syllable x1 M1 h2), h3⟩
theorem zcase_hush {M : zM} (v : zInv M) : zcase Y_X8_hush Y_X9_hush [] M := by
  obtain ⟨r, M1, M2, h1, h2, h3⟩ := e_hush v
  exact ⟨r, M1, M2, zS_wk [some (zO 0), none] (And.intro rfl trivial) (zc_X8_hush M h1), zS_wk [some (zO 9), none] (And.intro rfl trivial) (zc_X9_hush M1 h2), h3⟩
theorem zcase_read (x1 : Int32) {M : zM} (v : zInv M) : zcase Y_X8_read Y_X9_read [zI x1] M := by
  obtain ⟨r, M1, M2, h1, h2, h3⟩ := e_read x1 v
  exact ⟨r, M1, M2, zS_wk [some (zO 0), some (zI x1)] (And.intro rfl (And.intro rfl trivial)) (zc_X8_read x1 M h1), zS_wk [some (zO 9), some (zI x1)] (And.intro rfl (And.intro rfl trivial)) (zc_X9_read x1 M1 h2), h3⟩
theorem zcase_first (x1 x2 : Int32) {M : zM} (v : zInv M) : zcase Y_X8_first Y_X9_first [zI x1, zI x2] M := by
  obtain ⟨r, M1, M2, h1, h2, h3⟩ := e_first x1 x2 v
  exact ⟨r, M1, M2, zS_wk [some (zO 0), some (zI x1), some (zI x2)] (And.intro rfl (And.intro rfl (And.intro rfl trivial))) (zc_X8_first x1 x2 M h1), zS_wk [some (zO 9), some (zI x1), some (zI x2), none, none, none, none, none, none] (And.intro rfl (And.intro rfl (And.intro rfl trivial))) (zc_X9_first x1 x2 M1 h2), h3⟩
theorem zcase_home {M : zM} (v : zInv M) : zcase Y_X8_home Y_X9_home [] M := by
  obtain ⟨r, M1, M2, h1, h2, h3⟩ := e_home v
  exact ⟨r, M1, M2, zS_wk [some (zO 0)] (And.intro rfl trivial) (zc_X8_home M h1), zS_wk [some (zO 9), none, none, none, none] (And.intro rfl trivial) (zc_X9_home M1 h2), h3⟩
theorem zcase_rule (x1 x2 x3 : Int32) {M : zM} (v : zInv M) : zcase Y_X8_rule Y_X9_rule [zI x1, zI x2, zI x3] M := by
  obtain ⟨r, M1, M2, h1, h2, h3⟩ := e_rule x1 x2 x3 v
  exact ⟨r, M1, M2, zS_wk [some (zO 0), some (zI x1), some (zI x2), some (zI x3)] (And.intro rfl (And.intro rfl (And.intro rfl (And.intro rfl trivial)))) (zc_X8_rule x1 x2 x3 M h1), zS_wk [some (zO 9), some (zI x1), some (zI x2), some (zI x3), none] (And.intro rfl (And.intro rfl (And.intro rfl (And.intro rfl trivial)))) (zc_X9_rule x1 x2 x3 M1 h2), h3⟩
theorem zcase_note (x1 : Int32) {M : zM} (v : zInv M) : zcase Y_X8_note Y_X9_note [zI x1] M := by
  obtain ⟨r, M1, M2, h1, h2, h3⟩ := e_note x1 v
  exact ⟨r, M1, M2, zS_wk [some (zO 0), some (zI x1)] (And.intro rfl (And.intro rfl trivial)) (zc_X8_note x1 M h1), zS_wk [some (zO 9), some (zI x1)] (And.intro rfl (And.intro rfl trivial)) (zc_X9_note x1 M1 h2), h3⟩
theorem zcase_silence {M : zM} (v : zInv M) : zcase Y_X8_silence Y_X9_silence [] M := by
  obtain ⟨r, M1, M2, h1, h2, h3⟩ := e_silence v
  exact ⟨r, M1, M2, zS_wk [some (zO 0), none] (And.intro rfl trivial) (zc_X8_silence M h1), zS_wk [some (zO 9), none] (And.intro rfl trivial) (zc_X9_silence M1 h2), h3⟩
theorem zcase_varied (x1 x2 x3 : Int32) {M : zM} (v : zInv M) : zcase Y_X8_varied Y_X9_varied [zI x1, zI x2, zI x3] M := by
  obtain ⟨r, h1, h2⟩ := e_varied x1 x2 x3 v
  exact ⟨r, M, M, zS_wk [some (zO 0), some (zI x1), some (zI x2), some (zI x3)] (And.intro rfl (And.intro rfl (And.intro rfl (And.intro rfl trivial)))) (zc_X8_varied x1 x2 x3 M h1), zS_wk [some (zO 9), some (zI x1), some (zI x2), some (zI x3), none, none, none] (And.intro rfl (And.intro rfl (And.intro rfl (And.intro rfl trivial)))) (zc_X9_varied x1 x2 x3 M h2), v⟩
theorem zcase_sheet (x1 x2 x3 : Int32) {M : zM} (v : zInv M) : zcase Y_X8_sheet Y_X9_sheet [zI x1, zI x2, zI x3] M := by
  obtain ⟨r, M1, M2, h1, h2, h3⟩ := e_sheet x1 x2 x3 v
  exact ⟨r, M1, M2, zS_wk [some (zO 0), some (zI x1), some (zI x2), some (zI x3)] (And.intro rfl (And.intro rfl (And.intro rfl (And.intro rfl trivial)))) (zc_X8_sheet x1 x2 x3 M h1), zS_wk [some (zO 9), some (zI x1), some (zI x2), some (zI x3), none] (And.intro rfl (And.intro rfl (And.intro rfl (And.intro rfl trivial)))) (zc_X9_sheet x1 x2 x3 M1 h2), h3⟩
theorem zcase_tell (x1 x2 x3 : Int32) {M : zM} (v : zInv M) : zcase Y_X8_tell Y_X9_tell [zI x1, zI x2, zI x3] M := by
  obtain ⟨r, M1, M2, h1, h2, h3⟩ := e_tell x1 x2 x3 v
  exact ⟨r, M1, M2, zS_wk [some (zO 0), some (zI x1), some (zI x2), some (zI x3)] (And.intro rfl (And.intro rfl (And.intro rfl (And.intro rfl trivial)))) (zc_X8_tell x1 x2 x3 M h1), zS_wk [some (zO 9), some (zI x1), some (zI x2), some (zI x3), none] (And.intro rfl (And.intro rfl (And.intro rfl (And.intro rfl trivial)))) (zc_X9_tell x1 x2 x3 M1 h2), h3⟩
theorem zcase_cells (x1 : Int32) {M : zM} (v : zInv M) : zcase Y_X8_cells Y_X9_cells [zI x1] M := by
  obtain ⟨r, h1, h2⟩ := e_cells x1 v
  exact ⟨r, M, M, zS_wk [some (zO 0), some (zI x1)] (And.intro rfl (And.intro rfl trivial)) (zc_X8_cells x1 M h1), zS_wk [some (zO 9), some (zI x1)] (And.intro rfl (And.intro rfl trivial)) (zc_X9_cells x1 M h2), v⟩
theorem zcase_clear {M : zM} (v : zInv M) : zcase Y_X8_clear Y_X9_clear [] M := by
  obtain ⟨r, M1, M2, h1, h2, h3⟩ := e_clear v
  exact ⟨r, M1, M2, zS_wk [some (zO 0), none] (And.intro rfl trivial) (zc_X8_clear M h1), zS_wk [some (zO 9), none] (And.intro rfl trivial) (zc_X9_clear M1 h2), h3⟩
theorem zcase_agreeing {M : zM} (v : zInv M) : zcase Y_X8_agreeing Y_X9_agreeing [] M := by
  obtain ⟨r, M1, M2, h1, h2, h3⟩ := e_agreeing v
  exact ⟨r, M1, M2, zS_wk [some (zO 0)] (And.intro rfl trivial) (zc_X8_agreeing M h1), zS_wk [some (zO 9), none, none, none, none, none, none] (And.intro rfl trivial) (zc_X9_agreeing M1 h2), h3⟩
theorem zcase_least (x1 : Int32) {M : zM} (v : zInv M) : zcase Y_X8_least Y_X9_least [zI x1] M := by
  obtain ⟨r, M1, M2, h1, h2, h3⟩ := e_least x1 v
  exact ⟨r, M1, M2, zS_wk [some (zO 0), some (zI x1)] (And.intro rfl (And.intro rfl trivial)) (zc_X8_least x1 M h1), zS_wk [some (zO 9), some (zI x1)] (And.intro rfl (And.intro rfl trivial)) (zc_X9_least x1 M1 h2), h3⟩
theorem zcase_blamed (x1 x2 : Int32) {M : zM} (v : zInv M) : zcase Y_X8_blamed Y_X9_blamed [zI x1, zI x2] M := by
  obtain ⟨r, M1, M2, h1, h2, h3⟩ := e_blamed x1 x2 v
  exact ⟨r, M1, M2, zS_wk [some (zO 0), some (zI x1), some (zI x2)] (And.intro rfl (And.intro rfl (And.intro rfl trivial))) (zc_X8_blamed x1 x2 M h1), zS_wk [some (zO 9), some (zI x1), some (zI x2), none, none, none, none, none, none] (And.intro rfl (And.intro rfl (And.intro rfl trivial))) (zc_X9_blamed x1 x2 M1 h2), h3⟩
theorem zcase_piper (x1 x2 x3 x4 x5 : Int32) {M : zM} (v : zInv M) : zcase Y_X8_piper Y_X9_piper [zI x1, zI x2, zI x3, zI x4, zI x5] M := by
  obtain ⟨r, M1, M2, h1, h2, h3⟩ := e_piper x1 x2 x3 x4 x5 v
  exact ⟨r, M1, M2, zS_wk [some (zO 0), some (zI x1), some (zI x2), some (zI x3), some (zI x4), some (zI x5)] (And.intro rfl (And.intro rfl (And.intro rfl (And.intro rfl (And.intro rfl (And.intro rfl trivial)))))) (zc_X8_piper x1 x2 x3 x4 x5 M h1), zS_wk [some (zO 9), some (zI x1), some (zI x2), some (zI x3), some (zI x4), some (zI x5)] (And.intro rfl (And.intro rfl (And.intro rfl (And.intro rfl (And.intro rfl (And.intro rfl trivial)))))) (zc_X9_piper x1 x2 x3 x4 x5 M1 h2), h3⟩
theorem zcase_damp (x1 : Int32) {M : zM} (v : zInv M) : zcase Y_X8_damp Y_X9_damp [zI x1] M := by
  obtain ⟨r, M1, M2, h1, h2, h3⟩ := e_damp x1 v
  exact ⟨r, M1, M2, zS_wk [some (zO 0), some (zI x1), none] (And.intro rfl (And.intro rfl trivial)) (zc_X8_damp x1 M h1), zS_wk [some (zO 9), some (zI x1), none] (And.intro rfl (And.intro rfl trivial)) (zc_X9_damp x1 M1 h2), h3⟩
theorem zcase_pitch (x1 x2 x3 : Int32) {M : zM} (v : zInv M) : zcase Y_X8_pitch Y_X9_pitch [zI x1, zI x2, zI x3] M := by
  obtain ⟨r, h1, h2⟩ := e_pitch x1 x2 x3 v
  exact ⟨r, M, M, zS_wk [some (zO 0), some (zI x1), some (zI x2), some (zI x3)] (And.intro rfl (And.intro rfl (And.intro rfl (And.intro rfl trivial)))) (zc_X8_pitch x1 x2 x3 M h1), zS_wk [some (zO 9), some (zI x1), some (zI x2), some (zI x3)] (And.intro rfl (And.intro rfl (And.intro rfl (And.intro rfl trivial)))) (zc_X9_pitch x1 x2 x3 M h2), v⟩
theorem zcase_band (x1 x2 x3 : Int32) {M : zM} (v : zInv M) : zcase Y_X8_band Y_X9_band [zI x1, zI x2, zI x3] M := by
  obtain ⟨r, M1, M2, h1, h2, h3⟩ := e_band x1 x2 x3 v
  exact ⟨r, M1, M2, zS_wk [some (zO 0), some (zI x1), some (zI x2), some (zI x3)] (And.intro rfl (And.intro rfl (And.intro rfl (And.intro rfl trivial)))) (zc_X8_band x1 x2 x3 M h1), zS_wk [some (zO 9), some (zI x1), some (zI x2), some (zI x3), none] (And.intro rfl (And.intro rfl (And.intro rfl (And.intro rfl trivial)))) (zc_X9_band x1 x2 x3 M1 h2), h3⟩
theorem zcase_begins (x1 x2 x3 : Int32) {M : zM} (v : zInv M) : zcase Y_X8_begins Y_X9_begins [zI x1, zI x2, zI x3] M := by
  obtain ⟨r, M1, M2, h1, h2, h3⟩ := e_begins x1 x2 x3 v
  exact ⟨r, M1, M2, zS_wk [some (zO 0), some (zI x1), some (zI x2), some (zI x3)] (And.intro rfl (And.intro rfl (And.intro rfl (And.intro rfl trivial)))) (zc_X8_begins x1 x2 x3 M h1), zS_wk [some (zO 9), some (zI x1), some (zI x2), some (zI x3), none] (And.intro rfl (And.intro rfl (And.intro rfl (And.intro rfl trivial)))) (zc_X9_begins x1 x2 x3 M1 h2), h3⟩
theorem zcase_tone (x1 x2 : Int32) {M : zM} (v : zInv M) : zcase Y_X8_tone Y_X9_tone [zI x1, zI x2] M := by
  obtain ⟨r, M1, M2, h1, h2, h3⟩ := e_tone x1 x2 v
  exact ⟨r, M1, M2, zS_wk [some (zO 0), some (zI x1), some (zI x2)] (And.intro rfl (And.intro rfl (And.intro rfl trivial))) (zc_X8_tone x1 x2 M h1), zS_wk [some (zO 9), some (zI x1), some (zI x2)] (And.intro rfl (And.intro rfl (And.intro rfl trivial))) (zc_X9_tone x1 x2 M1 h2), h3⟩
theorem zcase_harsh (x1 x2 : Int32) {M : zM} (v : zInv M) : zcase Y_X8_harsh Y_X9_harsh [zI x1, zI x2] M := by
  obtain ⟨r, h1, h2⟩ := e_harsh x1 x2 v
  exact ⟨r, M, M, zS_wk [some (zO 0), some (zI x1), some (zI x2)] (And.intro rfl (And.intro rfl (And.intro rfl trivial))) (zc_X8_harsh x1 x2 M h1), zS_wk [some (zO 9), some (zI x1), some (zI x2)] (And.intro rfl (And.intro rfl (And.intro rfl trivial))) (zc_X9_harsh x1 x2 M h2), v⟩
theorem zcase_set (x1 : Int32) {M : zM} (v : zInv M) : zcase Y_X8_set Y_X9_set [zI x1] M := by
  obtain ⟨r, h1, h2⟩ := e_set x1 v
  exact ⟨r, M, M, zS_wk [some (zO 0), some (zI x1)] (And.intro rfl (And.intro rfl trivial)) (zc_X8_set x1 M h1), zS_wk [some (zO 9), some (zI x1), none, none] (And.intro rfl (And.intro rfl trivial)) (zc_X9_set x1 M h2), v⟩
theorem zcase_count (x1 : Int32) {M : zM} (v : zInv M) : zcase Y_X8_count Y_X9_count [zI x1] M := by
  obtain ⟨r, h1, h2⟩ := e_count x1 v
  exact ⟨r, M, M, zS_wk [some (zO 0), some (zI x1)] (And.intro rfl (And.intro rfl trivial)) (zc_X8_count x1 M h1), zS_wk [some (zO 9), some (zI x1), none, none] (And.intro rfl (And.intro rfl trivial)) (zc_X9_count x1 M h2), v⟩
theorem zM0_ok : zInv zM0 := by
  refine ⟨⟨?_, ?_, ?_, ?_, ?_, ?_⟩, ⟨⟨rfl, ?_⟩, ?_, ?_, ?_⟩, ⟨?_, ?_, ⟨rfl, ?_⟩, ?_⟩, ⟨?_, ?_⟩, ⟨⟨rfl, ?_⟩, ?_⟩, ⟨⟨rfl, ?_⟩, ⟨rfl, ?_⟩, ⟨rfl, ?_⟩, ?_, ?_, ?_, ?_⟩, ⟨?_, ?_, ?_, ?_, ⟨rfl, ?_⟩, ?_⟩⟩
  all_goals (try unfold zr)
  all_goals (try (decide +kernel))
  all_goals (first | (intro a b ha hb; revert hb; revert b; revert ha; revert a; decide +kernel) | skip)
  intro s hs
  have h0 : (zM0 9 18).toInt = 0 := by decide
  omega
