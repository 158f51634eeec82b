/-! ===== parts of a packed number; rows filled; loops that ask of each ===== -/
theorem zup1 {x b : Int32} {n : Nat} (hb : b = nI n) (hn : n < 2 ^ 31) (h : 1 ≤ x ∧ x ≤ b) : ∃ k, 1 ≤ k ∧ k ≤ n ∧ x = nI k := by
  have e1 : ((1 : Int32)).toInt = 1 := by decide
  have e0 : ((0 : Int32)).toInt = 0 := by decide
  have h1 : 0 ≤ x := by
    have := h.1
    rw [fa_le] at this ⊢
    omega
  obtain ⟨k, hk, rfl⟩ := zup hb hn ⟨h1, h.2⟩
  refine ⟨k, ?_, hk, rfl⟩
  have := h.1
  rw [show (1 : Int32) = nI 1 from rfl, zLe (by omega) (by omega)] at this
  exact this
abbrev znib (x : Int32) (i : Nat) : Int32 := (x >>> (((4 : Int32) * nI i) &&& 31)) &&& (15 : Int32)
theorem znib_nat (x : Int32) (i : Nat) : ∃ j, j < 16 ∧ znib x i = nI j := pk_andE _ 4 (by decide)
def zall (P : Nat → Bool) : Nat → Nat → Bool
  | _, 0 => true
  | i, k + 1 => P i && zall P (i + 1) k
theorem zall_iff {P : Nat → Bool} : ∀ (k i : Nat), zall P i k = true ↔ ∀ j, i ≤ j → j < i + k → P j = true
  | 0, i => by simp [zall]; intro j h1 h2; omega
  | k + 1, i => by
    rw [zall, Bool.and_eq_true, zall_iff k (i + 1)]
    constructor
    · rintro ⟨h1, h2⟩ j h3 h4
      rcases Nat.eq_or_lt_of_le h3 with rfl | h5
      · exact h1
      · exact h2 j h5 (by omega)
    · intro h
      exact ⟨h i (Nat.le_refl i) (by omega), fun j h1 h2 => h j (by omega) (by omega)⟩
def zfil (M : zM) (row lo hi : Nat) (g : Nat → Int32) : zM := fun a b => if a = row ∧ lo ≤ b ∧ b < hi then g b else M a b
theorem zfil_nil {M : zM} {row lo hi : Nat} {g : Nat → Int32} (h : hi ≤ lo) : zfil M row lo hi g = M := by
  funext a b
  rw [zfil, if_neg (by omega)]
theorem zfil_step {M : zM} {row lo hi : Nat} {g : Nat → Int32} (h : lo < hi) : zfil (zset M row lo (g lo)) row (lo + 1) hi g = zfil M row lo hi g := by
  funext a b
  unfold zfil zset
  by_cases h1 : a = row ∧ lo + 1 ≤ b ∧ b < hi
  · rw [if_pos h1, if_pos (by omega)]
  · rw [if_neg h1]
    by_cases h2 : a = row ∧ b = lo
    · obtain ⟨rfl, rfl⟩ := h2
      rw [if_pos ⟨rfl, rfl⟩, if_pos (by omega)]
    · rw [if_neg h2, if_neg (by omega)]
theorem zfil_ne {M : zM} {row lo hi a b : Nat} {g : Nat → Int32} (h : a ≠ row) : zfil M row lo hi g a b = M a b := by rw [zfil, if_neg (fun q => h q.1)]
theorem zfil_in {M : zM} {row lo hi b : Nat} {g : Nat → Int32} (h : lo ≤ b ∧ b < hi) : zfil M row lo hi g row b = g b := by rw [zfil, if_pos ⟨rfl, h⟩]
theorem zfil_out {M : zM} {row lo hi b : Nat} {g : Nat → Int32} (h : ¬ (lo ≤ b ∧ b < hi)) : zfil M row lo hi g row b = M row b := by rw [zfil, if_neg (fun q => h q.2)]
theorem zfuel {k nn : Nat} (h : k < nn) : ∃ n, nn = n + 1 := ⟨nn - 1, by omega⟩
theorem s_nibW {x hi : Int32} {N : Nat} (hN : N < 2 ^ 31) : ∀ (k nn i : Nat), i + k = N → k < nn → p_X8_nibblesWithin_2 x (nI N) hi nn (nI i) = some (if zall (fun j => decide (znib x j ≤ hi)) i k then 1 else 0) := by
  intro k
  induction k with
  | zero =>
    intro nn i h1 h2
    obtain ⟨n, rfl⟩ := zfuel h2
    rw [p_X8_nibblesWithin_2, if_pos (by rw [zLe (by omega) (by omega)]; omega)]
    rfl
  | succ k ih =>
    intro nn i h1 h2
    obtain ⟨n, rfl⟩ := zfuel h2
    rw [p_X8_nibblesWithin_2, if_neg (by rw [zLe (by omega) (by omega)]; omega)]
    simp only [p_X8_nibble, Option.bind_some]
    by_cases h : znib x i ≤ hi
    · rw [if_pos h, nI_1, ih n (i + 1) (by omega) (by omega)]
      simp [zall, h]
    · rw [if_neg h]
      simp [zall, h]
theorem s_nibbles {x hi : Int32} {N : Nat} (hN : N < 100) : p_X8_nibblesWithin x (nI N) hi = some (if zall (fun j => decide (znib x j ≤ hi)) 0 N then 1 else 0) := s_nibW (by omega) N 5000 0 (by omega) (by omega)
theorem s_movBecome {x : Int32} {m N : Nat} (hm : m < 8) (hN : N ≤ 4) : ∀ (k nn i : Nat) (M : zM), i + k = N → k < nn → p_X2_become_10 (nI m) (nI N) x nn (nI i) M = some (zfil M (12 + m) i N (fun b => znib x b)) := by
  intro k
  induction k with
  | zero =>
    intro nn i M h1 h2
    obtain ⟨n, rfl⟩ := zfuel h2
    rw [p_X2_become_10, if_pos (by rw [zLe (by omega) (by omega)]; omega), zfil_nil (by omega)]
  | succ k ih =>
    intro nn i M h1 h2
    obtain ⟨n, rfl⟩ := zfuel h2
    rw [p_X2_become_10, if_neg (by rw [zLe (by omega) (by omega)]; omega)]
    simp only [p_X8_nibble, Option.bind_some]
    rw [if_neg (by rw [zix (by omega) (by omega)]; exact id), if_neg (by rw [zix (by omega) (by omega)]; exact id), nI_1, zcl' (by omega), zcl' (by omega), ih n (i + 1) _ (by omega) (by omega)]
    exact congrArg some (zfil_step (g := fun b => znib x b) (by omega))
theorem s_ruleBecome {x : Int32} {m N : Nat} (hm : m < 5) (hN : N ≤ 4) : ∀ (k nn i : Nat) (M : zM), i + k = N → k < nn → p_X4_become_10 (nI m) (nI N) x nn (nI i) M = some (zfil M (39 + m) i N (fun b => znib x b)) := by
  intro k
  induction k with
  | zero =>
    intro nn i M h1 h2
    obtain ⟨n, rfl⟩ := zfuel h2
    rw [p_X4_become_10, if_pos (by rw [zLe (by omega) (by omega)]; omega), zfil_nil (by omega)]
  | succ k ih =>
    intro nn i M h1 h2
    obtain ⟨n, rfl⟩ := zfuel h2
    rw [p_X4_become_10, if_neg (by rw [zLe (by omega) (by omega)]; omega)]
    simp only [p_X8_nibble, Option.bind_some]
    rw [if_neg (by rw [zix (by omega) (by omega)]; exact id), if_neg (by rw [zix (by omega) (by omega)]; exact id), nI_1, zcl' (by omega), zcl' (by omega), ih n (i + 1) _ (by omega) (by omega)]
    exact congrArg some (zfil_step (g := fun b => znib x b) (by omega))
theorem z4 (m i : Nat) : (4 : Int32) * nI m + nI i = nI (4 * m + i) := by rw [show (4 : Int32) = nI 4 from rfl, pk_mul, nI_add]
theorem z8 (m i : Nat) : (8 : Int32) * nI m + nI i = nI (8 * m + i) := by rw [show (8 : Int32) = nI 8 from rfl, pk_mul, nI_add]
theorem z9 (m i : Nat) : (9 : Int32) * nI m + nI i = nI (9 * m + i) := by rw [show (9 : Int32) = nI 9 from rfl, pk_mul, nI_add]
theorem z64 (m i : Nat) : (64 : Int32) * nI m + nI i = nI (64 * m + i) := by rw [show (64 : Int32) = nI 64 from rfl, pk_mul, nI_add]
theorem m_mov65 {x : Int32} {m N : Nat} (hm : m < 8) (hN : N ≤ 4) : ∀ (k nn i : Nat) (M : zM), i + k = N → k < nn → p_X9_movement_65 (nI m) (nI N) x nn (nI i) M = some (1, zfil M 76 (4 * m + i) (4 * m + N) (fun b => znib x (b - 4 * m))) := by
  intro k
  induction k with
  | zero =>
    intro nn i M h1 h2
    obtain ⟨n, rfl⟩ := zfuel h2
    rw [p_X9_movement_65, if_pos (by rw [zLe (by omega) (by omega)]; omega), zfil_nil (by omega)]
  | succ k ih =>
    intro nn i M h1 h2
    obtain ⟨n, rfl⟩ := zfuel h2
    rw [p_X9_movement_65, if_neg (by rw [zLe (by omega) (by omega)]; omega), z4, if_neg (by rw [zix (by omega) (by omega)]; exact id), nI_1, zcl' (by omega), ih n (i + 1) _ (by omega) (by omega)]
    have := zfil_step (M := M) (row := 76) (lo := 4 * m + i) (hi := 4 * m + N) (g := fun b => znib x (b - 4 * m)) (by omega)
    rw [show 4 * m + i - 4 * m = i by omega] at this
    exact congrArg (fun q => some ((1 : Int32), q)) this
theorem m_rule96 {x : Int32} {m N : Nat} (hm : m < 5) (hN : N ≤ 4) : ∀ (k nn i : Nat) (M : zM), i + k = N → k < nn → p_X9_rule_96 (nI m) (nI N) x nn (nI i) M = some (1, zfil M 87 (4 * m + i) (4 * m + N) (fun b => znib x (b - 4 * m))) := by
  intro k
  induction k with
  | zero =>
    intro nn i M h1 h2
    obtain ⟨n, rfl⟩ := zfuel h2
    rw [p_X9_rule_96, if_pos (by rw [zLe (by omega) (by omega)]; omega), zfil_nil (by omega)]
  | succ k ih =>
    intro nn i M h1 h2
    obtain ⟨n, rfl⟩ := zfuel h2
    rw [p_X9_rule_96, if_neg (by rw [zLe (by omega) (by omega)]; omega), z4, if_neg (by rw [zix (by omega) (by omega)]; exact id), nI_1, zcl' (by omega), ih n (i + 1) _ (by omega) (by omega)]
    have := zfil_step (M := M) (row := 87) (lo := 4 * m + i) (hi := 4 * m + N) (g := fun b => znib x (b - 4 * m)) (by omega)
    rw [show 4 * m + i - 4 * m = i by omega] at this
    exact congrArg (fun q => some ((1 : Int32), q)) this
theorem znib_ge (x : Int32) (i : Nat) : 0 ≤ znib x i := by
  obtain ⟨j, hj, e⟩ := znib_nat x i
  rw [e]
  exact nI_pos' (by omega)
theorem m_mov25 {x : Int32} {m N : Nat} {M : zM} (hm : m < 8) (hN : N ≤ 4) : ∀ (k nn i : Nat), i + k = N → k < nn → p_X9_movement_25 (nI m) (nI N) x M nn (nI i) = if zall (fun j => decide (znib x j ≤ 8)) i k then some (1, zfil (zset M 75 m (nI N)) 76 (4 * m) (4 * m + N) (fun b => znib x (b - 4 * m))) else some (-3, M) := by
  intro k
  induction k with
  | zero =>
    intro nn i h1 h2
    obtain ⟨n, rfl⟩ := zfuel h2
    rw [p_X9_movement_25, if_pos (by rw [zLe (by omega) (by omega)]; omega), if_neg (by rw [zix (by omega) (by omega)]; exact id), zcl' (by omega)]
    have := m_mov65 (x := x) hm hN N 5000 0 (zset M 75 m (nI N)) (by omega) (by omega)
    rw [show nI 0 = 0 from rfl] at this
    rw [this]
    simp [zall]
  | succ k ih =>
    intro nn i h1 h2
    obtain ⟨n, rfl⟩ := zfuel h2
    rw [p_X9_movement_25, if_neg (by rw [zLe (by omega) (by omega)]; omega), m_isNote]
    simp only [Option.bind_some, zq_0]
    by_cases h : znib x i ≤ 8
    · rw [if_neg (by simp only [Classical.not_not]; exact ⟨znib_ge x i, h⟩), nI_1, ih n (i + 1) (by omega) (by omega)]
      simp [zall, h]
    · rw [if_pos (fun q => h q.2)]
      simp [zall, h]
theorem m_rule57 {x r : Int32} {n N : Nat} {M : zM} (hN : M 9 18 = nI N) (hN3 : N ≤ 3) : ∀ (k nn i : Nat), i + k = N → k < nn → p_X9_rule_57 r (nI n) x M nn (nI i) = if zall (fun s => decide (¬ M 89 s = r)) i k then (if r < 0 ∨ 5 ≤ r.toNatClampNeg then none else p_X9_rule_96 r (nI n) x 5000 0 (zset M 86 r.toNatClampNeg (nI n))) else some (-4, M) := by
  intro k
  induction k with
  | zero =>
    intro nn i h1 h2
    obtain ⟨n, rfl⟩ := zfuel h2
    rw [p_X9_rule_57, hN, if_pos (by rw [zLe (by omega) (by omega)]; omega)]
    simp [zall]
  | succ k ih =>
    intro nn i h1 h2
    obtain ⟨n, rfl⟩ := zfuel h2
    rw [p_X9_rule_57, hN, if_neg (by rw [zLe (by omega) (by omega)]; omega), if_neg (by rw [zix (by omega) (by omega)]; exact id), zcl' (by omega)]
    by_cases h : M 89 i = r
    · rw [if_pos h]
      simp [zall, h]
    · rw [if_neg h, nI_1, ih n (i + 1) (by omega) (by omega)]
      simp [zall, h]
theorem s_useRule2 {r : Int32} {N : Nat} {M : zM} (hN : M 6 4 = nI N) (hN3 : N ≤ 3) : ∀ (k nn i : Nat), i + k = N → k < nn → p_X5_useRule_2 r M nn (nI i) = some (if zall (fun s => decide (¬ M 45 s = r)) i k then 0 else 1) := by
  intro k
  induction k with
  | zero =>
    intro nn i h1 h2
    obtain ⟨n, rfl⟩ := zfuel h2
    rw [p_X5_useRule_2, hN, if_pos (by rw [zLe (by omega) (by omega)]; omega)]
    simp [zall]
  | succ k ih =>
    intro nn i h1 h2
    obtain ⟨n, rfl⟩ := zfuel h2
    rw [p_X5_useRule_2, hN, if_neg (by rw [zLe (by omega) (by omega)]; omega), if_neg (by rw [zix (by omega) (by omega)]; exact id), zcl' (by omega)]
    by_cases h : M 45 i = r
    · rw [if_pos h]
      simp [zall, h]
    · rw [if_neg h, nI_1, ih n (i + 1) (by omega) (by omega)]
      simp [zall, h]
theorem m_rule25 {x r : Int32} {n : Nat} {M : zM} (hn : n ≤ 4) : ∀ (k nn i : Nat), i + k = n → k < nn → p_X9_rule_25 r (nI n) x M nn (nI i) = if zall (fun j => decide (znib x j ≤ 10)) i k then p_X9_rule_57 r (nI n) x M 5000 0 else some (-3, M) := by
  intro k
  induction k with
  | zero =>
    intro nn i h1 h2
    obtain ⟨n, rfl⟩ := zfuel h2
    rw [p_X9_rule_25, if_pos (by rw [zLe (by omega) (by omega)]; omega)]
    simp [zall]
  | succ k ih =>
    intro nn i h1 h2
    obtain ⟨n, rfl⟩ := zfuel h2
    rw [p_X9_rule_25, if_neg (by rw [zLe (by omega) (by omega)]; omega)]
    by_cases h : znib x i ≤ 10
    · rw [if_pos h, nI_1, ih n (i + 1) (by omega) (by omega)]
      simp [zall, h]
    · rw [if_neg h]
      simp [zall, h]
theorem e_movement (x1 : Int32) (x2 : Int32) (x3 : Int32) {M : zM} (v : zInv M) : zAlike (p_X8_movement x1 x2 x3) (p_X9_movement x1 x2 x3) M := by
  obtain ⟨v1, v2, v3, v4, v5, v6, v7⟩ := v
  by_cases h : 0 ≤ x1 ∧ x1 ≤ 7
  · by_cases h2 : 0 ≤ x2 ∧ x2 ≤ 4
    · obtain ⟨m, hm, rfl⟩ := zup (n := 7) rfl (by decide) h
      obtain ⟨n, hn, rfl⟩ := zup (n := 4) rfl (by decide) h2
      by_cases h3 : zall (fun j => decide (znib x3 j ≤ 8)) 0 n = true
      · refine ⟨1, zfil (zset M 10 m (nI n)) (12 + m) 0 n (fun b => znib x3 b), zfil (zset (zfil (zset M 10 m (nI n)) (12 + m) 0 n (fun b => znib x3 b)) 75 m (nI n)) 76 (4 * m) (4 * m + n) (fun b => znib x3 (b - 4 * m)), ?_, ?_, ?_, ?_, ?_, ?_, ?_, ?_, ?_⟩
        · have hb := s_movBecome (x := x3) (m := m) (N := n) (by omega) hn n 5000 0 (zset M 10 m (nI n)) (by omega) (by omega)
          rw [show nI 0 = 0 from rfl] at hb
          simp (disch := omega) [p_X8_movement, s_isMovement, s_within, s_nibbles, zq_0, h, h2, h3, p_X2_become, ↓zix, zcl', hb]
        · have hb := m_mov25 (x := x3) (m := m) (N := n) (M := zfil (zset M 10 m (nI n)) (12 + m) 0 n (fun b => znib x3 b)) (by omega) hn n 5000 0 (by omega) (by omega)
          rw [if_pos h3, show nI 0 = 0 from rfl] at hb
          simp [p_X9_movement, m_isMovement, s_in, zq_0, h, h2, hb]
        · obtain ⟨a1, a2, a3, a4, a5, a6⟩ := v1
          refine ⟨fun q hq => ?_, fun q i hq hi => ?_, fun q hq => ?_, fun q hq => ?_, ?_, ?_⟩
          · rw [zfil_ne (by omega), zfil_ne (by omega), zs_ne (by omega), zfil_ne (by omega)]
            by_cases e : q = m
            · subst e
              rw [zs_self, zs_self]
              exact ⟨rfl, zr_nI (hi := 4) hn (by decide)⟩
            · rw [zs_nj e, zs_nj e, zfil_ne (by omega), zs_ne (by omega)]
              exact a1 q hq
          · rw [zfil_ne (by omega), zs_ne (by omega)]
            by_cases e : q = m
            · subst e
              by_cases e2 : i < n
              · rw [zfil_in (by omega), zfil_in (by omega), show 4 * q + i - 4 * q = i by omega]
                have h4 := (zall_iff n 0).mp h3 i (by omega) (by omega)
                exact ⟨rfl, zr_of (a := 0) (b := 8) (by decide) (by decide) (znib_ge x3 i) (by simpa using h4)⟩
              · rw [zfil_out (by omega), zfil_out (by omega), zs_ne (by omega), zs_ne (by omega), zfil_ne (by omega), zs_ne (by omega)]
                exact a2 q i hq hi
            · rw [zfil_ne (by omega), zfil_out (by omega), zs_ne (by omega), zs_ne (by omega), zfil_ne (by omega), zs_ne (by omega)]
              exact a2 q i hq hi
          · rw [zfil_ne (by omega), zfil_ne (by omega), zs_ne (by omega), zs_ne (by omega), zfil_ne (by omega), zfil_ne (by omega), zs_ne (by omega), zs_ne (by omega)]
            exact a3 q hq
          · rw [zfil_ne (by omega), zfil_ne (by omega), zs_ne (by omega), zs_ne (by omega), zfil_ne (by omega), zfil_ne (by omega), zs_ne (by omega), zs_ne (by omega)]
            exact a4 q hq
          · rw [zfil_ne (by omega), zfil_ne (by omega), zs_ne (by omega), zs_ne (by omega), zfil_ne (by omega), zfil_ne (by omega), zs_ne (by omega), zs_ne (by omega)]
            exact a5
          · rw [zfil_ne (by omega), zs_ne (by omega), zfil_ne (by omega), zs_ne (by omega)]
            exact a6
        · exact zvTune_c (fun a b e => by rw [zfil_ne (fun q => by subst q; simp [zdTune] at e), zs_ne (fun q => by subst q; simp [zdTune] at e), zfil_ne (fun q => by subst q; simp [zdTune] at e; try omega), zs_ne (fun q => by subst q; simp [zdTune] at e)]) v2
        · exact zvSong_c (fun a b e => by rw [zfil_ne (fun q => by subst q; simp [zdSong] at e), zs_ne (fun q => by subst q; simp [zdSong] at e), zfil_ne (fun q => by subst q; simp [zdSong] at e; try omega), zs_ne (fun q => by subst q; simp [zdSong] at e)]) v3
        · exact zvRules_c (fun a b e => by rw [zfil_ne (fun q => by subst q; simp [zdRules] at e), zs_ne (fun q => by subst q; simp [zdRules] at e), zfil_ne (fun q => by subst q; simp [zdRules] at e; try omega), zs_ne (fun q => by subst q; simp [zdRules] at e)]) v4
        · exact zvGround_c (fun a b e => by rw [zfil_ne (fun q => by subst q; simp [zdGround] at e), zs_ne (fun q => by subst q; simp [zdGround] at e), zfil_ne (fun q => by subst q; simp [zdGround] at e; try omega), zs_ne (fun q => by subst q; simp [zdGround] at e)]) v5
        · exact zvSheets_c (fun a b e => by rw [zfil_ne (fun q => by subst q; simp [zdSheets] at e), zs_ne (fun q => by subst q; simp [zdSheets] at e), zfil_ne (fun q => by subst q; simp [zdSheets] at e; try omega), zs_ne (fun q => by subst q; simp [zdSheets] at e)]) v6
        · exact zvPipes_c (fun a b e => by rw [zfil_ne (fun q => by subst q; simp [zdPipes] at e), zs_ne (fun q => by subst q; simp [zdPipes] at e), zfil_ne (fun q => by subst q; simp [zdPipes] at e; try omega), zs_ne (fun q => by subst q; simp [zdPipes] at e)]) v7
      · refine ⟨-3, M, M, ?_, ?_, v1, v2, v3, v4, v5, v6, v7⟩
        · simp (disch := omega) [p_X8_movement, s_isMovement, s_within, s_nibbles, zq_0, h, h2, h3]
        · have hb := m_mov25 (x := x3) (m := m) (N := n) (M := M) (by omega) hn n 5000 0 (by omega) (by omega)
          rw [if_neg h3, show nI 0 = 0 from rfl] at hb
          simp [p_X9_movement, m_isMovement, s_in, zq_0, h, h2, hb]
    · refine ⟨-3, M, M, ?_, ?_, v1, v2, v3, v4, v5, v6, v7⟩ <;> simp [p_X8_movement, p_X9_movement, s_isMovement, m_isMovement, s_within, s_in, zq_0, h, h2]
  · refine ⟨-2, M, M, ?_, ?_, v1, v2, v3, v4, v5, v6, v7⟩ <;> simp [p_X8_movement, p_X9_movement, s_isMovement, m_isMovement, s_within, s_in, zq_0, h]
theorem e_may (x1 : Int32) (x2 : Int32) (x3 : Int32) {M : zM} (v : zInv M) : zAlike (p_X8_may x1 x2 x3) (p_X9_may x1 x2 x3) M := by
  obtain ⟨v1, v2, v3, v4, v5, v6, v7⟩ := v
  by_cases h : 0 ≤ x1 ∧ x1 ≤ 7
  · by_cases h2 : 0 ≤ x2 ∧ x2 ≤ 1
    · by_cases h3 : 0 ≤ x3 ∧ x3 ≤ 511
      · obtain ⟨m, hm, rfl⟩ := zup (n := 7) rfl (by decide) h
        obtain ⟨w, hw, rfl⟩ := zup (n := 1) rfl (by decide) h2
        have hw2 : w = 0 ∨ w = 1 := by omega
        rcases hw2 with rfl | rfl
        · refine ⟨M 77 m, zset M 20 m x3, zset (zset (zset M 20 m x3) 77 m x3) 78 m (M 78 m), ?_, ?_, ?_, ?_, ?_, ?_, ?_, ?_, ?_⟩
          · simp (disch := omega) [p_X8_may, s_isMovement, s_within, zq_0, h, h2, h3, p_X8_replace, ↓zix, zcl', (v1.2.2.1 m (by omega)).1, show nI 0 = 0 from rfl, show nI 1 = 1 from rfl]
          · simp (disch := omega) [p_X9_may, p_X9_may_52, p_X9_may_73, m_isMovement, s_in, zq_0, h, h2, h3, ↓zix, zcl', zs_ne, show nI 0 = 0 from rfl, show nI 1 = 1 from rfl]
          · obtain ⟨a1, a2, a3, a4, a5, a6⟩ := v1
            refine ⟨fun q hq => by simpa [zset] using a1 q hq, fun q i hq hi => by rw [zs_ne (by omega), zs_ne (by omega), zs_ne (by omega), zs_ne (by omega), zs_ne (by omega), zs_ne (by omega)]; exact a2 q i hq hi, fun q hq => ?_, fun q hq => ?_, by simpa [zset] using a5, by simpa [zset] using a6⟩
            · by_cases e : q = m
              · subst e
                simp [zset]
                exact zr_of (by decide) (by decide) h3.1 h3.2
              · simpa [zset, e] using a3 q hq
            · by_cases e : q = m
              · subst e
                simpa [zset] using a4 q hq
              · simpa [zset, e] using a4 q hq
          · exact zvTune_s rfl (zvTune_s rfl (zvTune_s rfl (v2)))
          · exact zvSong_s rfl (zvSong_s rfl (zvSong_s rfl (v3)))
          · exact zvRules_s rfl (zvRules_s rfl (zvRules_s rfl (v4)))
          · exact zvGround_s rfl (zvGround_s rfl (zvGround_s rfl (v5)))
          · exact zvSheets_s rfl (zvSheets_s rfl (zvSheets_s rfl (v6)))
          · exact zvPipes_s rfl (zvPipes_s rfl (zvPipes_s rfl (v7)))
        · refine ⟨M 78 m, zset M 21 m x3, zset (zset (zset M 21 m x3) 77 m (M 77 m)) 78 m x3, ?_, ?_, ?_, ?_, ?_, ?_, ?_, ?_, ?_⟩
          · simp (disch := omega) [p_X8_may, s_isMovement, s_within, zq_0, h, h2, h3, p_X8_replace, ↓zix, zcl', (v1.2.2.2.1 m (by omega)).1, show nI 0 = 0 from rfl, show nI 1 = 1 from rfl]
          · simp (disch := omega) [p_X9_may, p_X9_may_52, p_X9_may_73, m_isMovement, s_in, zq_0, h, h2, h3, ↓zix, zcl', zs_ne, show nI 0 = 0 from rfl, show nI 1 = 1 from rfl]
          · obtain ⟨a1, a2, a3, a4, a5, a6⟩ := v1
            refine ⟨fun q hq => by simpa [zset] using a1 q hq, fun q i hq hi => by rw [zs_ne (by omega), zs_ne (by omega), zs_ne (by omega), zs_ne (by omega), zs_ne (by omega), zs_ne (by omega)]; exact a2 q i hq hi, fun q hq => ?_, fun q hq => ?_, by simpa [zset] using a5, by simpa [zset] using a6⟩
            · by_cases e : q = m
              · subst e
                simpa [zset] using a3 q hq
              · simpa [zset, e] using a3 q hq
            · by_cases e : q = m
              · subst e
                simp [zset]
                exact zr_of (by decide) (by decide) h3.1 h3.2
              · simpa [zset, e] using a4 q hq
          · exact zvTune_s rfl (zvTune_s rfl (zvTune_s rfl (v2)))
          · exact zvSong_s rfl (zvSong_s rfl (zvSong_s rfl (v3)))
          · exact zvRules_s rfl (zvRules_s rfl (zvRules_s rfl (v4)))
          · exact zvGround_s rfl (zvGround_s rfl (zvGround_s rfl (v5)))
          · exact zvSheets_s rfl (zvSheets_s rfl (zvSheets_s rfl (v6)))
          · exact zvPipes_s rfl (zvPipes_s rfl (zvPipes_s rfl (v7)))
      · refine ⟨-3, M, M, ?_, ?_, v1, v2, v3, v4, v5, v6, v7⟩ <;> simp [p_X8_may, p_X9_may, s_isMovement, m_isMovement, s_within, s_in, zq_0, h, h2, h3]
    · refine ⟨-3, M, M, ?_, ?_, v1, v2, v3, v4, v5, v6, v7⟩ <;> simp [p_X8_may, p_X9_may, s_isMovement, m_isMovement, s_within, s_in, zq_0, h, h2]
  · refine ⟨-2, M, M, ?_, ?_, v1, v2, v3, v4, v5, v6, v7⟩ <;> simp [p_X8_may, p_X9_may, s_isMovement, m_isMovement, s_within, s_in, zq_0, h]
theorem e_rule (x1 : Int32) (x2 : Int32) (x3 : Int32) {M : zM} (v : zInv M) : zAlike (p_X8_rule x1 x2 x3) (p_X9_rule x1 x2 x3) M := by
  obtain ⟨v1, v2, v3, v4, v5, v6, v7⟩ := v
  obtain ⟨N, hN, eN⟩ := zr_nat (hi := 3) v6.1.2 (by decide)
  have ecN : M 6 4 = nI N := v6.1.1.trans eN
  by_cases h : 0 ≤ x1 ∧ x1 ≤ 4
  · by_cases h2 : 1 ≤ x2 ∧ x2 ≤ 4
    · obtain ⟨m, hm, rfl⟩ := zup (n := 4) rfl (by decide) h
      obtain ⟨n, hn1, hn, rfl⟩ := zup1 (n := 4) rfl (by decide) h2
      have hus : p_X5_useRule (nI m) M = some (if zall (fun s => decide (¬ M 45 s = nI m)) 0 N then 0 else 1) := s_useRule2 ecN hN N 5000 0 (by omega) (by omega)
      by_cases h3 : zall (fun j => decide (znib x3 j ≤ 10)) 0 n = true
      · by_cases h4 : zall (fun s => decide (¬ M 45 s = nI m)) 0 N = true
        · have hus2 := hus
          rw [if_pos h4] at hus2
          have hfree : ∀ s, s < N → ¬ M 89 s = nI m := fun s hs => by
            have := (zall_iff N 0).mp h4 s (by omega) (by omega)
            rw [← (v6.2.2.2.2.1 s (by omega)).1]
            simpa using this
          refine ⟨1, zfil (zset M 37 m (nI n)) (39 + m) 0 n (fun b => znib x3 b), zfil (zset (zfil (zset M 37 m (nI n)) (39 + m) 0 n (fun b => znib x3 b)) 86 m (nI n)) 87 (4 * m) (4 * m + n) (fun b => znib x3 (b - 4 * m)), ?_, ?_, ?_, ?_, ?_, ?_, ?_, ?_, ?_⟩
          · have hb := s_ruleBecome (x := x3) (m := m) (N := n) (by omega) hn n 5000 0 (zset M 37 m (nI n)) (by omega) (by omega)
            rw [show nI 0 = 0 from rfl] at hb
            simp (disch := omega) [p_X8_rule, s_isRule, s_within, s_nibbles, zq_0, h, h2, h3, hus2, p_X4_become, ↓zix, zcl', hb]
          · have hb := m_rule25 (x := x3) (r := nI m) (n := n) (M := zfil (zset M 37 m (nI n)) (39 + m) 0 n (fun b => znib x3 b)) hn n 5000 0 (by omega) (by omega)
            rw [if_pos h3, show nI 0 = 0 from rfl] at hb
            have hc := m_rule57 (x := x3) (r := nI m) (n := n) (N := N) (M := zfil (zset M 37 m (nI n)) (39 + m) 0 n (fun b => znib x3 b)) (by rw [zfil_ne (by omega), zs_ne (by omega)]; exact eN) hN N 5000 0 (by omega) (by omega)
            rw [if_pos ((zall_iff N 0).mpr (fun s _ hs => by
              simp only [decide_eq_true_eq]
              rw [zfil_ne (by omega), zs_ne (by omega)]
              exact hfree s (by omega))), show nI 0 = 0 from rfl, if_neg (by rw [zix (by omega) (by omega)]; exact id), zcl' (by omega)] at hc
            have hd := m_rule96 (x := x3) (m := m) (N := n) (by omega) hn n 5000 0 (zset (zfil (zset M 37 m (nI n)) (39 + m) 0 n (fun b => znib x3 b)) 86 m (nI n)) (by omega) (by omega)
            rw [show nI 0 = 0 from rfl] at hd
            rw [hd] at hc
            simp [p_X9_rule, m_isRule, s_in, zq_0, h, h2, hb, hc]
          · exact zvMov_c (fun a b e => by rw [zfil_ne (fun q => by subst q; simp [zdMov] at e), zs_ne (fun q => by subst q; simp [zdMov] at e), zfil_ne (fun q => by subst q; simp [zdMov] at e; try omega), zs_ne (fun q => by subst q; simp [zdMov] at e)]) v1
          · exact zvTune_c (fun a b e => by rw [zfil_ne (fun q => by subst q; simp [zdTune] at e), zs_ne (fun q => by subst q; simp [zdTune] at e), zfil_ne (fun q => by subst q; simp [zdTune] at e; try omega), zs_ne (fun q => by subst q; simp [zdTune] at e)]) v2
          · exact zvSong_c (fun a b e => by rw [zfil_ne (fun q => by subst q; simp [zdSong] at e), zs_ne (fun q => by subst q; simp [zdSong] at e), zfil_ne (fun q => by subst q; simp [zdSong] at e; try omega), zs_ne (fun q => by subst q; simp [zdSong] at e)]) v3
          · obtain ⟨a1, a2⟩ := v4
            refine ⟨fun q hq => ?_, fun q i hq hi => ?_⟩
            · rw [zfil_ne (by omega), zfil_ne (by omega), zs_ne (by omega), zfil_ne (by omega)]
              by_cases e : q = m
              · subst e
                rw [zs_self, zs_self]
                exact ⟨rfl, by unfold zr; rw [nI_toInt (by omega)]; omega⟩
              · rw [zs_nj e, zs_nj e, zfil_ne (by omega), zs_ne (by omega)]
                exact a1 q hq
            · rw [zfil_ne (by omega), zs_ne (by omega)]
              by_cases e : q = m
              · subst e
                by_cases e2 : i < n
                · rw [zfil_in (by omega), zfil_in (by omega), show 4 * q + i - 4 * q = i by omega]
                  have h5 := (zall_iff n 0).mp h3 i (by omega) (by omega)
                  exact ⟨rfl, zr_of (a := 0) (b := 10) (by decide) (by decide) (znib_ge x3 i) (by simpa using h5)⟩
                · rw [zfil_out (by omega), zfil_out (by omega), zs_ne (by omega), zs_ne (by omega), zfil_ne (by omega), zs_ne (by omega)]
                  exact a2 q i hq hi
              · rw [zfil_ne (by omega), zfil_out (by omega), zs_ne (by omega), zs_ne (by omega), zfil_ne (by omega), zs_ne (by omega)]
                exact a2 q i hq hi
          · exact zvGround_c (fun a b e => by rw [zfil_ne (fun q => by subst q; simp [zdGround] at e), zs_ne (fun q => by subst q; simp [zdGround] at e), zfil_ne (fun q => by subst q; simp [zdGround] at e; try omega), zs_ne (fun q => by subst q; simp [zdGround] at e)]) v5
          · obtain ⟨b1, b2, b3, b4, b5, b6, b7⟩ := v6
            refine ⟨?_, ?_, ?_, ?_, fun s hs => ?_, fun s c hs hc => ?_, fun s hs => ?_⟩
            · rw [zfil_ne (by omega), zs_ne (by omega), zfil_ne (by omega), zs_ne (by omega), zfil_ne (by omega), zs_ne (by omega), zfil_ne (by omega), zs_ne (by omega)]
              exact b1
            · rw [zfil_ne (by omega), zs_ne (by omega), zfil_ne (by omega), zs_ne (by omega), zfil_ne (by omega), zs_ne (by omega), zfil_ne (by omega), zs_ne (by omega)]
              exact b2
            · rw [zfil_ne (by omega), zs_ne (by omega), zfil_ne (by omega), zs_ne (by omega), zfil_ne (by omega), zs_ne (by omega), zfil_ne (by omega), zs_ne (by omega)]
              exact b3
            · rw [zfil_ne (by omega), zs_ne (by omega), zfil_ne (by omega), zs_ne (by omega), zfil_ne (by omega), zs_ne (by omega), zfil_ne (by omega), zs_ne (by omega)]
              exact b4
            · rw [zfil_ne (by omega), zs_ne (by omega), zfil_ne (by omega), zs_ne (by omega), zfil_ne (by omega), zs_ne (by omega), zfil_ne (by omega), zs_ne (by omega)]
              exact b5 s hs
            · rw [zfil_ne (by omega), zs_ne (by omega), zfil_ne (by omega), zs_ne (by omega), zfil_ne (by omega), zs_ne (by omega), zfil_ne (by omega), zs_ne (by omega)]
              exact b6 s c hs hc
            · have e9 : ∀ j, zfil (zset (zfil (zset M 37 m (nI n)) (39 + m) 0 n (fun b => znib x3 b)) 86 m (nI n)) 87 (4 * m) (4 * m + n) (fun b => znib x3 (b - 4 * m)) 9 j = M 9 j := fun j => by rw [zfil_ne (by omega), zs_ne (by omega), zfil_ne (by omega), zs_ne (by omega)]
              rw [e9] at hs
              rw [e9, e9]
              have hsN : s < N := by
                rw [eN, nI_toInt (by omega)] at hs
                omega
              have e89 : zfil (zset (zfil (zset M 37 m (nI n)) (39 + m) 0 n (fun b => znib x3 b)) 86 m (nI n)) 87 (4 * m) (4 * m + n) (fun b => znib x3 (b - 4 * m)) 89 s = M 89 s := by rw [zfil_ne (by omega), zs_ne (by omega), zfil_ne (by omega), zs_ne (by omega)]
              rw [e89]
              have hne : (M 89 s).toInt.toNat ≠ m := by
                intro q
                obtain ⟨w, hw, ew⟩ := zr_nat (hi := 4) (b5 s (by omega)).2 (by decide)
                apply hfree s hsN
                rw [ew, nI_toInt (by omega)] at q
                rw [ew, show w = m by omega]
              rw [zfil_ne (by omega), zs_ne (by omega), zfil_ne (by omega), zs_ne (by omega), zfil_ne (by omega), zs_nj hne, zfil_ne (by omega), zs_ne (by omega)]
              exact b7 s hs
          · exact zvPipes_c (fun a b e => by rw [zfil_ne (fun q => by subst q; simp [zdPipes] at e), zs_ne (fun q => by subst q; simp [zdPipes] at e), zfil_ne (fun q => by subst q; simp [zdPipes] at e; try omega), zs_ne (fun q => by subst q; simp [zdPipes] at e)]) v7
        · refine ⟨-4, M, M, ?_, ?_, v1, v2, v3, v4, v5, v6, v7⟩
          · have hus2 := hus
            rw [if_neg h4] at hus2
            simp (disch := omega) [p_X8_rule, s_isRule, s_within, s_nibbles, zq_0, h, h2, h3, hus2]
          · have hb := m_rule25 (x := x3) (r := nI m) (n := n) (M := M) hn n 5000 0 (by omega) (by omega)
            rw [if_pos h3, show nI 0 = 0 from rfl] at hb
            have hc := m_rule57 (x := x3) (r := nI m) (n := n) (N := N) (M := M) eN hN N 5000 0 (by omega) (by omega)
            rw [if_neg (fun q => h4 ((zall_iff N 0).mpr (fun s h5 hs => by
              have := (zall_iff N 0).mp q s h5 hs
              rw [(v6.2.2.2.2.1 s (by omega)).1]
              exact this))), show nI 0 = 0 from rfl] at hc
            simp [p_X9_rule, m_isRule, s_in, zq_0, h, h2, hb, hc]
      · refine ⟨-3, M, M, ?_, ?_, v1, v2, v3, v4, v5, v6, v7⟩
        · simp (disch := omega) [p_X8_rule, s_isRule, s_within, s_nibbles, zq_0, h, h2, h3]
        · have hb := m_rule25 (x := x3) (r := nI m) (n := n) (M := M) hn n 5000 0 (by omega) (by omega)
          rw [if_neg h3, show nI 0 = 0 from rfl] at hb
          simp [p_X9_rule, m_isRule, s_in, zq_0, h, h2, hb]
    · refine ⟨-3, M, M, ?_, ?_, v1, v2, v3, v4, v5, v6, v7⟩ <;> simp [p_X8_rule, p_X9_rule, s_isRule, m_isRule, s_within, s_in, zq_0, h, h2]
  · refine ⟨-2, M, M, ?_, ?_, v1, v2, v3, v4, v5, v6, v7⟩ <;> simp [p_X8_rule, p_X9_rule, s_isRule, m_isRule, s_within, s_in, zq_0, h]
theorem e_region (x1 : Int32) (x2 : Int32) (x3 : Int32) (x4 : Int32) {M : zM} (v : zInv M) : zAlike (p_X8_region x1 x2 x3 x4) (p_X9_region x1 x2 x3 x4) M := by
  obtain ⟨v1, v2, v3, v4, v5, v6, v7⟩ := v
  by_cases h : 0 ≤ x1 ∧ x1 ≤ 2
  · obtain ⟨r, hr, rfl⟩ := zup (n := 2) rfl (by decide) h
    by_cases h2 : 0 ≤ x2 ∧ x2 ≤ 1
    · obtain ⟨w, hw, rfl⟩ := zup (n := 1) rfl (by decide) h2
      have hw2 : w = 0 ∨ w = 1 := by omega
      rcases hw2 with rfl | rfl
      · by_cases h3 : 0 ≤ x3 ∧ x3 ≤ 7
        · by_cases h4 : 0 ≤ x4 ∧ x4 ≤ 7
          · obtain ⟨k, hk, rfl⟩ := zup (n := 7) rfl (by decide) h3
            refine ⟨M 82 (8 * r + k), zset M (26 + r) k x4, zset (zset M (26 + r) k x4) 82 (8 * r + k) x4, ?_, ?_, ?_, ?_, ?_, ?_, ?_, ?_, ?_⟩
            · simp (disch := omega) [p_X8_region, p_X8_region_31, p_X8_region_58, p_X8_region_72, s_isRegion, s_isMovement, s_isNote, s_within, zq_0, h, h2, h3, h4, p_X8_replace, ↓zix, zcl', (v3.1 r k (by omega) (by omega)).1, show nI 0 = 0 from rfl, show nI 1 = 1 from rfl]
            · simp (disch := omega) [p_X9_region, p_X9_region_18, p_X9_region_33, p_X9_region_55, p_X9_region_93, m_isRegion, m_isMovement, m_isNote, s_in, zq_0, h, h2, h3, h4, z8, ↓zix, zix', zcl', zs_ne, show nI 0 = 0 from rfl, show nI 1 = 1 from rfl]
            · exact zvMov_s rfl (zvMov_s (by simp [zdMov]; omega) v1)
            · exact zvTune_s rfl (zvTune_s (by simp [zdTune]; omega) v2)
            · obtain ⟨a1, a2, a3, a4⟩ := v3
              refine ⟨fun q m hq hm => ?_, fun q m hq hm => ?_, by rw [zs_ne (by omega), zs_ne (by omega), zs_ne (by omega), zs_ne (by omega)]; exact a3, fun q hq => by rw [zs_ne (by omega), zs_ne (by omega), zs_ne (by omega), zs_ne (by omega)]; exact a4 q hq⟩
              · rw [zs_ne (by omega)]
                by_cases e : q = r ∧ m = k
                · obtain ⟨rfl, rfl⟩ := e
                  rw [zs_self, zs_self]
                  exact ⟨rfl, zr_of (by decide) (by decide) h4.1 h4.2⟩
                · have e2 : 8 * q + m ≠ 8 * r + k := by omega
                  rw [zs_nj e2, zs_ne (i := 26 + r) (a := 82) (by omega)]
                  have e3 : zset M (26 + r) k x4 (26 + q) m = M (26 + q) m := by
                    rw [zset, if_neg (by omega)]
                  rw [e3]
                  exact a1 q m hq hm
              · rw [zs_ne (by omega), zs_ne (by omega), zs_ne (by omega), zs_ne (by omega)]
                exact a2 q m hq hm
            · exact zvRules_s rfl (zvRules_s (by simp [zdRules]; omega) v4)
            · exact zvGround_s rfl (zvGround_s (by simp [zdGround]; omega) v5)
            · exact zvSheets_s rfl (zvSheets_s (by simp [zdSheets]; omega) v6)
            · exact zvPipes_s rfl (zvPipes_s (by simp [zdPipes]; omega) v7)
          · refine ⟨-3, M, M, ?_, ?_, v1, v2, v3, v4, v5, v6, v7⟩ <;> simp [p_X8_region, p_X8_region_31, p_X8_region_58, p_X8_region_72, s_isRegion, s_isMovement, s_isNote, s_within, p_X9_region, p_X9_region_18, p_X9_region_33, p_X9_region_55, m_isRegion, m_isMovement, m_isNote, s_in, zq_0, h, h2, h3, h4, show nI 0 = 0 from rfl, show nI 1 = 1 from rfl]
        · refine ⟨-2, M, M, ?_, ?_, v1, v2, v3, v4, v5, v6, v7⟩ <;> simp [p_X8_region, p_X8_region_31, s_isRegion, s_isMovement, s_isNote, s_within, p_X9_region, p_X9_region_18, m_isRegion, m_isMovement, m_isNote, s_in, zq_0, h, h2, h3, show nI 0 = 0 from rfl, show nI 1 = 1 from rfl]
      · by_cases h3 : 0 ≤ x3 ∧ x3 ≤ 8
        · by_cases h4 : 0 ≤ x4 ∧ x4 ≤ 3
          · obtain ⟨k, hk, rfl⟩ := zup (n := 8) rfl (by decide) h3
            refine ⟨M 83 (9 * r + k), zset M (30 + r) k x4, zset (zset M (30 + r) k x4) 83 (9 * r + k) x4, ?_, ?_, ?_, ?_, ?_, ?_, ?_, ?_, ?_⟩
            · simp (disch := omega) [p_X8_region, p_X8_region_31, p_X8_region_58, p_X8_region_72, s_isRegion, s_isMovement, s_isNote, s_within, zq_0, h, h2, h3, h4, p_X8_replace, ↓zix, zcl', (v3.2.1 r k (by omega) (by omega)).1, show nI 0 = 0 from rfl, show nI 1 = 1 from rfl]
            · simp (disch := omega) [p_X9_region, p_X9_region_18, p_X9_region_33, p_X9_region_55, p_X9_region_93, m_isRegion, m_isMovement, m_isNote, s_in, zq_0, h, h2, h3, h4, z9, ↓zix, zix', zcl', zs_ne, show nI 0 = 0 from rfl, show nI 1 = 1 from rfl]
            · exact zvMov_s rfl (zvMov_s (by simp [zdMov]; omega) v1)
            · exact zvTune_s rfl (zvTune_s (by simp [zdTune]; omega) v2)
            · obtain ⟨a1, a2, a3, a4⟩ := v3
              refine ⟨fun q m hq hm => ?_, fun q m hq hm => ?_, by rw [zs_ne (by omega), zs_ne (by omega), zs_ne (by omega), zs_ne (by omega)]; exact a3, fun q hq => by rw [zs_ne (by omega), zs_ne (by omega), zs_ne (by omega), zs_ne (by omega)]; exact a4 q hq⟩
              · rw [zs_ne (by omega), zs_ne (by omega), zs_ne (by omega), zs_ne (by omega)]
                exact a1 q m hq hm
              · rw [zs_ne (by omega)]
                by_cases e : q = r ∧ m = k
                · obtain ⟨rfl, rfl⟩ := e
                  rw [zs_self, zs_self]
                  exact ⟨rfl, zr_of (by decide) (by decide) h4.1 h4.2⟩
                · have e2 : 9 * q + m ≠ 9 * r + k := by omega
                  rw [zs_nj e2, zs_ne (i := 30 + r) (a := 83) (by omega)]
                  have e3 : zset M (30 + r) k x4 (30 + q) m = M (30 + q) m := by
                    rw [zset, if_neg (by omega)]
                  rw [e3]
                  exact a2 q m hq hm
            · exact zvRules_s rfl (zvRules_s (by simp [zdRules]; omega) v4)
            · exact zvGround_s rfl (zvGround_s (by simp [zdGround]; omega) v5)
            · exact zvSheets_s rfl (zvSheets_s (by simp [zdSheets]; omega) v6)
            · exact zvPipes_s rfl (zvPipes_s (by simp [zdPipes]; omega) v7)
          · refine ⟨-3, M, M, ?_, ?_, v1, v2, v3, v4, v5, v6, v7⟩ <;> simp [p_X8_region, p_X8_region_31, p_X8_region_58, p_X8_region_72, s_isRegion, s_isMovement, s_isNote, s_within, p_X9_region, p_X9_region_18, p_X9_region_33, p_X9_region_55, m_isRegion, m_isMovement, m_isNote, s_in, zq_0, h, h2, h3, h4, show nI 0 = 0 from rfl, show nI 1 = 1 from rfl]
        · refine ⟨-2, M, M, ?_, ?_, v1, v2, v3, v4, v5, v6, v7⟩ <;> simp [p_X8_region, p_X8_region_31, s_isRegion, s_isMovement, s_isNote, s_within, p_X9_region, p_X9_region_18, m_isRegion, m_isMovement, m_isNote, s_in, zq_0, h, h2, h3, show nI 0 = 0 from rfl, show nI 1 = 1 from rfl]
    · have g0 : ¬ x2 = 0 := fun q => h2 (by rw [q]; decide)
      have g1 : ¬ x2 = 1 := fun q => h2 (by rw [q]; decide)
      refine ⟨-3, M, M, ?_, ?_, v1, v2, v3, v4, v5, v6, v7⟩ <;> simp [p_X8_region, s_isRegion, s_within, p_X9_region, p_X9_region_18, p_X9_region_33, m_isRegion, s_in, zq_0, h, h2, g0, g1]
  · refine ⟨-2, M, M, ?_, ?_, v1, v2, v3, v4, v5, v6, v7⟩ <;> simp [p_X8_region, p_X9_region, s_isRegion, m_isRegion, zq_0, h]
