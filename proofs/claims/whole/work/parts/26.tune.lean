/-! ===== tunes: what holds, the first wrong, fillings, the quickest ===== -/
def zprev (M : zM) (s : Nat) : Nat := if s = 0 then 9 else (M 79 (s - 1)).toInt.toNat
def znote (M : zM) (s : Nat) : Nat := (M 79 s).toInt.toNat
def zhold (M : zM) (s m : Nat) : Bool := zfit M m (zprev M s) (znote M s) && decide (¬ M 80 s ≤ M 9 4 * M 75 m)
theorem znote_ok {M : zM} {s : Nat} (v : zvTune M) (hs : s < 24) : znote M s < 9 ∧ M 79 s = nI (znote M s) ∧ M 22 s = nI (znote M s) := by
  obtain ⟨n, hn, e⟩ := zr_nat (hi := 8) (v.2.1 s hs).2 (by decide)
  have : znote M s = n := by rw [znote, e, nI_toInt (by omega)]; rfl
  rw [this, (v.2.1 s hs).1, e]
  exact ⟨by omega, rfl, rfl⟩
theorem zprev_ok {M : zM} {s : Nat} (v : zvTune M) (hs : s < 24) : zprev M s ≤ 9 ∧ (s ≠ 0 → M 79 (s - 1) = aI (zprev M s) ∧ M 22 (s - 1) = aI (zprev M s)) ∧ (s = 0 → aI (zprev M s) = -1) := by
  by_cases h : s = 0
  · subst h
    refine ⟨by rw [zprev, if_pos rfl]; omega, fun q => absurd rfl q, fun _ => rfl⟩
  · obtain ⟨h1, h2, h3⟩ := znote_ok v (s := s - 1) (by omega)
    have e : zprev M s = znote M (s - 1) := by rw [zprev, if_neg h]; rfl
    rw [e, aI_n h1]
    exact ⟨by omega, fun _ => ⟨h2, h3⟩, fun q => absurd q h⟩
theorem s_holdsWith {M : zM} {s m : Nat} (v : zvMov M) (w : zvTune M) (hs : s < 24) (hm : m < 8) : p_X7_holdsWith (nI s) (nI m) M = some (zq (zhold M s m = true)) := by
  obtain ⟨n1, n2, n3⟩ := znote_ok w hs
  obtain ⟨p1, p2, p3⟩ := zprev_ok w hs
  have q1 := zix (m := s) (n := 24) hs (by omega)
  have q2 := zix (m := m) (n := 8) hm (by omega)
  have key : p_X7_holdsWith_16 (nI s) (nI m) (aI (zprev M s)) M = some (zq (zhold M s m = true)) := by
    rw [p_X7_holdsWith_16]
    simp only [q1, if_false]
    rw [zcl' (by omega), n3, s_joins v hm p1 n1]
    simp only [Option.bind_some, zq_0]
    by_cases h : zfit M m (zprev M s) (znote M s) = true
    · rw [if_neg (by simpa using h), p_X2_leavesTime]
      simp only [q2, if_false]
      rw [zcl' (by omega), v.2.2.2.2.1, (v.1 m hm).1, (w.2.2.1 s hs).1]
      by_cases h2 : M 80 s ≤ M 9 4 * M 75 m
      · simp [zhold, h, h2, zq]
      · simp [zhold, h, h2, zq]
    · rw [if_pos h]
      simp [zhold, h, zq]
  rw [p_X7_holdsWith]
  by_cases h : s = 0
  · subst h
    rw [if_pos (show nI 0 = 0 from rfl), ← p3 rfl]
    exact key
  · have es : nI s - (1 : Int32) = nI (s - 1) := by rw [show (1 : Int32) = nI 1 from rfl, pk_sub (by omega)]
    have q3 := zix (m := s - 1) (n := 24) (by omega) (by omega)
    rw [if_neg (nI_ne0 (by omega) (by omega)), es]
    simp only [q3, if_false]
    rw [zcl' (by omega), (p2 h).2]
    exact key
theorem m_holds {M : zM} {s m : Nat} (v : zvMov M) (w : zvTune M) (hs : s < 24) (hm : m < 8) : p_X9_holds (nI s) (nI m) M = some (zq (zhold M s m = true)) := by
  obtain ⟨n1, n2, n3⟩ := znote_ok w hs
  obtain ⟨p1, p2, p3⟩ := zprev_ok w hs
  have q1 := zix (m := s) (n := 24) hs (by omega)
  have q2 := zix (m := m) (n := 8) hm (by omega)
  have key : p_X9_holds_18 (nI s) (nI m) (aI (zprev M s)) (nI m) M = some (zq (zhold M s m = true)) := by
    rw [p_X9_holds_18]
    simp only [q1, q2, if_false]
    rw [zcl' (by omega), zcl' (by omega), n2, m_fitsSo v hm p1 n1]
    simp only [Option.bind_some, zq_0]
    by_cases h : zfit M m (zprev M s) (znote M s) = true
    · rw [if_neg (by simpa using h)]
      by_cases h2 : M 80 s ≤ M 9 4 * M 75 m
      · simp [zhold, h, h2, zq]
      · simp [zhold, h, h2, zq]
    · rw [if_pos h]
      simp [zhold, h, zq]
  rw [p_X9_holds]
  by_cases h : s = 0
  · subst h
    rw [if_pos (show nI 0 = 0 from rfl), ← p3 rfl]
    exact key
  · have es : nI s - (1 : Int32) = nI (s - 1) := by rw [show (1 : Int32) = nI 1 from rfl, pk_sub (by omega)]
    have q3 := zix (m := s - 1) (n := 24) (by omega) (by omega)
    rw [if_neg (nI_ne0 (by omega) (by omega)), es]
    simp only [q3, if_false]
    rw [zcl' (by omega), (p2 h).1]
    exact key
/-- the movement of a step: lost, or one -/
theorem zmov_ok {M : zM} {s : Nat} (w : zvTune M) (hs : s < 24) : M 24 s = M 81 s ∧ (¬ M 81 s = -1 → ∃ m, m < 8 ∧ M 81 s = nI m) := by
  refine ⟨(w.2.2.2 s hs).1, fun h => ?_⟩
  have hr := (w.2.2.2 s hs).2
  have h0 : zr 0 7 (M 81 s) := by
    rw [fa_eq] at h
    have e1 : ((-1 : Int32)).toInt = -1 := by decide
    have := hr.1
    exact ⟨by omega, hr.2⟩
  obtain ⟨n, hn, e⟩ := zr_nat (hi := 7) h0 (by decide)
  exact ⟨n, by omega, e⟩
/-- the step has a movement, and doesn't hold -/
def zbad (M : zM) (s : Nat) : Bool := decide (¬ M 81 s = -1) && !zhold M s (M 81 s).toInt.toNat
def zfw (M : zM) : Nat → Nat → Int32
  | 0, _ => -1
  | k + 1, i => if zbad M i then nI i else zfw M k (i + 1)
theorem zbad_n {M : zM} {s m : Nat} (hm : m < 8) (e : M 81 s = nI m) : zbad M s = !zhold M s m := by
  rw [zbad, e, nI_toInt (by omega), Int.toNat_natCast]
  have : decide (¬ nI m = (-1 : Int32)) = true := by rw [decide_eq_true_eq, zm1 (by omega)]; exact id
  rw [this]
  rfl
theorem zbad_l {M : zM} {s : Nat} (e : M 81 s = -1) : zbad M s = false := by simp [zbad, e]
theorem s_firstWrong {M : zM} {N : Nat} (v : zvMov M) (w : zvTune M) (hN : N ≤ 24) (e : M 2 4 = nI N) : ∀ (k nn i : Nat), i + k = N → k < nn → p_X7_firstWrong_2 M nn (nI i) = some (zfw M k i) := by
  intro k
  induction k with
  | zero =>
    intro nn i h1 h2
    obtain ⟨n, rfl⟩ := zfuel h2
    rw [p_X7_firstWrong_2, e, if_pos (by rw [zLe (by omega) (by omega)]; omega), zfw]
  | succ k ih =>
    intro nn i h1 h2
    obtain ⟨n, rfl⟩ := zfuel h2
    have q1 := zix (m := i) (n := 24) (by omega) (by omega)
    obtain ⟨m1, m2⟩ := zmov_ok w (s := i) (by omega)
    rw [p_X7_firstWrong_2, e, if_neg (by rw [zLe (by omega) (by omega)]; omega)]
    simp only [q1, if_false]
    rw [zcl' (by omega), m1, zfw]
    by_cases h : M 81 i = -1
    · rw [if_pos h, nI_1, ih n (i + 1) (by omega) (by omega), zbad_l h]
      rfl
    · obtain ⟨m, hm, em⟩ := m2 h
      rw [if_neg h, zbad_n hm em, em, s_holdsWith v w (by omega) hm]
      simp only [Option.bind_some, zq_0]
      by_cases h3 : zhold M i m = true
      · rw [if_neg (by simpa using h3), nI_1, ih n (i + 1) (by omega) (by omega), h3]
        rfl
      · rw [if_pos h3]
        simp [h3]
theorem m_wrong2 {M : zM} {N : Nat} (v : zvMov M) (w : zvTune M) (hN : N ≤ 24) (e : M 9 5 = nI N) : ∀ (k nn i : Nat), i + k = N → k < nn → p_X9_wrong_2 M nn (nI i) = some (zfw M k i) := by
  intro k
  induction k with
  | zero =>
    intro nn i h1 h2
    obtain ⟨n, rfl⟩ := zfuel h2
    rw [p_X9_wrong_2, e, if_pos (by rw [zLe (by omega) (by omega)]; omega), zfw]
  | succ k ih =>
    intro nn i h1 h2
    obtain ⟨n, rfl⟩ := zfuel h2
    have q1 := zix (m := i) (n := 24) (by omega) (by omega)
    obtain ⟨m1, m2⟩ := zmov_ok w (s := i) (by omega)
    rw [p_X9_wrong_2, e, if_neg (by rw [zLe (by omega) (by omega)]; omega)]
    simp only [q1, if_false]
    rw [zcl' (by omega), zfw]
    by_cases h : M 81 i = -1
    · rw [if_pos h, nI_1, ih n (i + 1) (by omega) (by omega), zbad_l h]
      rfl
    · obtain ⟨m, hm, em⟩ := m2 h
      rw [if_neg h, zbad_n hm em, em, m_holds v w (by omega) hm]
      simp only [Option.bind_some, zq_0]
      by_cases h3 : zhold M i m = true
      · rw [if_neg (by simpa using h3), nI_1, ih n (i + 1) (by omega) (by omega), h3]
        rfl
      · rw [if_pos h3]
        simp [h3]
theorem zsteps {M : zM} (w : zvTune M) : ∃ N, N ≤ 24 ∧ M 9 5 = nI N ∧ M 2 4 = nI N := by
  obtain ⟨n, hn, e⟩ := zr_nat (hi := 24) w.1.2 (by decide)
  exact ⟨n, hn, e, w.1.1.trans e⟩
theorem e_wrong {M : zM} (v : zInv M) : zAlikeQ p_X8_wrong p_X9_wrong M := by
  obtain ⟨v1, v2, -⟩ := v
  obtain ⟨N, hN, e1, e2⟩ := zsteps v2
  refine ⟨zfw M N 0, ?_, m_wrong2 v1 v2 hN e1 N 5000 0 (by omega) (by omega)⟩
  have : p_X7_firstWrong M = some (zfw M N 0) := s_firstWrong v1 v2 hN e2 N 5000 0 (by omega) (by omega)
  simp [p_X8_wrong, this]
/-! fillings -/
/-- how many of the movements from i on, k of them, hold -/
def zhc (M : zM) (s : Nat) : Nat → Nat → Nat
  | 0, _ => 0
  | k + 1, i => (if zhold M s i then 1 else 0) + zhc M s k (i + 1)
theorem zhc_le (M : zM) (s : Nat) : ∀ k i, zhc M s k i ≤ k
  | 0, _ => Nat.le_refl 0
  | k + 1, i => by
    have := zhc_le M s k (i + 1)
    rw [zhc]
    split <;> omega
def zways (M : zM) (s : Nat) : Nat := if M 81 s = -1 then zhc M s 8 0 else if zbad M s then 0 else 1
theorem zways_le (M : zM) (s : Nat) : zways M s ≤ 8 := by
  have := zhc_le M s 8 0
  unfold zways
  split
  · exact this
  · split <;> omega
theorem s_ways34 {M : zM} {s : Nat} (v : zvMov M) (w : zvTune M) (hs : s < 24) : ∀ (k nn i a : Nat), i + k = 8 → k < nn → a ≤ i → p_X7_waysAt_34 (nI s) M nn (nI a) (nI i) = some (nI (a + zhc M s k i)) := by
  intro k
  induction k with
  | zero =>
    intro nn i a h1 h2 h3
    obtain ⟨n, rfl⟩ := zfuel h2
    rw [p_X7_waysAt_34, show (8 : Int32) = nI 8 from rfl, if_pos (by rw [zLe (by omega) (by omega)]; omega)]
    rfl
  | succ k ih =>
    intro nn i a h1 h2 h3
    obtain ⟨n, rfl⟩ := zfuel h2
    rw [p_X7_waysAt_34, show (8 : Int32) = nI 8 from rfl, if_neg (by rw [zLe (by omega) (by omega)]; omega), s_holdsWith v w hs (by omega)]
    simp only [Option.bind_some, zq_0]
    by_cases h : zhold M s i = true
    · rw [if_neg (by simpa using h), nI_1, nI_1, ih n (i + 1) (a + 1) (by omega) (by omega) (by omega), zhc, if_pos h]
      rw [show a + 1 + zhc M s k (i + 1) = a + (1 + zhc M s k (i + 1)) by omega]
    · rw [if_pos h, nI_1, ih n (i + 1) a (by omega) (by omega) (by omega), zhc, if_neg h, Nat.zero_add]
theorem s_waysAt {M : zM} {s : Nat} (v : zvMov M) (w : zvTune M) (hs : s < 24) : p_X7_waysAt (nI s) M = some (nI (zways M s)) := by
  have q1 := zix (m := s) (n := 24) hs (by omega)
  obtain ⟨m1, m2⟩ := zmov_ok w hs
  rw [p_X7_waysAt]
  simp only [q1, if_false]
  rw [zcl' (by omega), m1]
  by_cases h : M 81 s = -1
  · rw [if_pos h]
    have := s_ways34 v w hs 8 5000 0 0 (by omega) (by omega) (by omega)
    rw [show nI 0 = 0 from rfl, Nat.zero_add] at this
    rw [this, zways, if_pos h]
  · obtain ⟨m, hm, em⟩ := m2 h
    rw [if_neg h, zways, if_neg h, zbad_n hm em, em, s_holdsWith v w hs hm]
    simp only [Option.bind_some, zq_0]
    by_cases h3 : zhold M s m = true
    · rw [if_neg (by simpa using h3)]
      simp [h3]
      rfl
    · rw [if_pos h3]
      simp [h3]
      rfl
def zpr (M : zM) : Nat → Nat → Nat
  | 0, _ => 1
  | k + 1, i => zways M i * zpr M k (i + 1)
def zcap (n : Nat) : Nat := if n < 1000001 then n else 1000001
theorem zcap_le (n : Nat) : zcap n ≤ 1000001 := by unfold zcap; split <;> omega
theorem zcap_id {n : Nat} (h : n ≤ 1000001) : zcap n = n := by unfold zcap; split <;> omega
theorem zcap_mul (a b : Nat) : zcap (zcap a * b) = zcap (a * b) := by
  unfold zcap
  by_cases h : a < 1000001
  · rw [if_pos h]
  · rw [if_neg h]
    rcases Nat.eq_zero_or_pos b with rfl | hb
    · simp
    · have h1 : 1000001 * 1 ≤ 1000001 * b := Nat.mul_le_mul_left _ hb
      have h2 : 1000001 * b ≤ a * b := Nat.mul_le_mul_right _ (by omega)
      rw [if_neg (by omega), if_neg (by omega)]
theorem zcap_add (a b : Nat) : zcap (zcap a + b) = zcap (a + b) := by
  unfold zcap
  by_cases h : a < 1000001
  · rw [if_pos h]
  · rw [if_neg h, if_neg (by omega), if_neg (by omega)]
theorem s_cap {a w : Nat} (h : a * w < 2 ^ 31) : (if nI a * nI w < (1000001 : Int32) then nI a * nI w else (1000001 : Int32)) = nI (zcap (a * w)) := by
  rw [pk_mul, show (1000001 : Int32) = nI 1000001 from rfl, zcap]
  by_cases h1 : a * w < 1000001
  · rw [if_pos h1, if_pos (by rw [zLt (by omega) (by omega)]; exact h1)]
  · rw [if_neg h1, if_neg (by rw [zLt (by omega) (by omega)]; exact h1)]
theorem s_fill4 {M : zM} {N : Nat} (v : zvMov M) (w : zvTune M) (hN : N ≤ 24) (e : M 2 4 = nI N) : ∀ (k nn i a : Nat), i + k = N → k < nn → a ≤ 1000001 → p_X7_fillingCount_4 M nn (nI a) (nI i) = some (nI (zcap (a * zpr M k i))) := by
  intro k
  induction k with
  | zero =>
    intro nn i a h1 h2 h3
    obtain ⟨n, rfl⟩ := zfuel h2
    rw [p_X7_fillingCount_4, e, if_pos (by rw [zLe (by omega) (by omega)]; omega), zpr, Nat.mul_one, zcap_id h3]
  | succ k ih =>
    intro nn i a h1 h2 h3
    obtain ⟨n, rfl⟩ := zfuel h2
    have h8 := zways_le M i
    have hmul : a * zways M i ≤ 1000001 * 8 := Nat.mul_le_mul h3 h8
    rw [p_X7_fillingCount_4, e, if_neg (by rw [zLe (by omega) (by omega)]; omega), s_waysAt v w (by omega)]
    simp only [Option.bind_some]
    rw [s_cap (by omega), nI_1, ih n (i + 1) _ (by omega) (by omega) (zcap_le _), zcap_mul, zpr, Nat.mul_assoc]
theorem s_fillingCount {M : zM} {N : Nat} (v : zvMov M) (w : zvTune M) (hN : N ≤ 24) (e : M 2 4 = nI N) : p_X7_fillingCount M = some (nI (zcap (zpr M N 0))) := by
  have := s_fill4 v w hN e N 5000 0 1 (by omega) (by omega) (by omega)
  rw [Nat.one_mul] at this
  exact this
/-- the lost ones alone -/
def zpl (M : zM) : Nat → Nat → Nat
  | 0, _ => 1
  | k + 1, i => (if M 81 i = -1 then zways M i else 1) * zpl M k (i + 1)
theorem zpr_pl (M : zM) : ∀ k i, zpr M k i = (if zfw M k i = -1 then 1 else 0) * zpl M k i ∨ 24 < i + k
  | 0, i => Or.inl (by simp [zpr, zfw, zpl])
  | k + 1, i => by
    rcases Nat.lt_or_ge 24 (i + (k + 1)) with hbig | hbig
    · exact Or.inr hbig
    · rcases zpr_pl M k (i + 1) with ih | ih
      · left
        rw [zpr, zfw, zpl, ih]
        have hne : ¬ nI i = (-1 : Int32) := by rw [zm1 (by omega)]; exact id
        by_cases h : M 81 i = -1
        · simp only [zbad_l h, if_pos h, Bool.false_eq_true, if_false]
          rw [Nat.mul_left_comm]
        · rw [if_neg h, zways, if_neg h]
          by_cases h2 : zbad M i = true
          · simp [h2, hne]
          · simp [h2]
      · omega
theorem m_fill40 {M : zM} {s : Nat} {A : Int64} {kk : Int64 → Int32 → Option Int32} (v : zvMov M) (w : zvTune M) (hs : s < 24) : ∀ (k nn i a : Nat), i + k = 8 → k < nn → a ≤ i → p_X9_fillings_40 kk A (nI s) M nn (nI a) (nI i) = (if lg_cmp (A * (nI (a + zhc M s k i)).toInt64) (1000001 : Int64) ≤ 0 then kk (A * (nI (a + zhc M s k i)).toInt64) (nI (s + 1)) else kk (1000001 : Int64) (nI (s + 1))) := by
  intro k
  induction k with
  | zero =>
    intro nn i a h1 h2 h3
    obtain ⟨n, rfl⟩ := zfuel h2
    rw [p_X9_fillings_40, show (8 : Int32) = nI 8 from rfl, if_pos (by rw [zLe (by omega) (by omega)]; omega), nI_1]
    rfl
  | succ k ih =>
    intro nn i a h1 h2 h3
    obtain ⟨n, rfl⟩ := zfuel h2
    rw [p_X9_fillings_40, show (8 : Int32) = nI 8 from rfl, if_neg (by rw [zLe (by omega) (by omega)]; omega), m_holds v w hs (by omega)]
    simp only [Option.bind_some, zq_0]
    by_cases h : zhold M s i = true
    · rw [if_neg (by simpa using h), nI_1, nI_1, ih n (i + 1) (a + 1) (by omega) (by omega) (by omega), zhc, if_pos h]
      rw [show a + 1 + zhc M s k (i + 1) = a + (1 + zhc M s k (i + 1)) by omega]
    · rw [if_pos h, nI_1, show nI a + (0 : Int32) = nI a by rw [show (0 : Int32) = nI 0 from rfl, nI_add, Nat.add_zero], ih n (i + 1) a (by omega) (by omega) (by omega), zhc, if_neg h, Nat.zero_add]
theorem m_cmp {a : Nat} (h : a < 2 ^ 31) : (lg_cmp (lN a) (1000001 : Int64) ≤ 0) = (a ≤ 1000001) := by
  rw [show (1000001 : Int64) = lN 1000001 from rfl, lg_cmp]
  by_cases h1 : a ≤ 1000001
  · rw [if_neg (by show ¬ lN 1000001 < lN a; rw [lN_lt (by omega) h]; omega)]
    by_cases h2 : lN a = lN 1000001
    · simp [h2, h1]
    · rw [if_neg h2]
      simp only [h1, eq_iff_iff, iff_true]
      decide
  · rw [if_pos (by show lN 1000001 < lN a; rw [lN_lt (by omega) h]; omega)]
    simp only [h1, eq_iff_iff, iff_false]
    decide
theorem m_fill16 {M : zM} {N : Nat} (v : zvMov M) (w : zvTune M) (hN : N ≤ 24) (e : M 9 5 = nI N) : ∀ (k nn i a : Nat), i + k = N → k < nn → a ≤ 1000001 → p_X9_fillings_16 M nn (lN a) (nI i) = some (nI (zcap (a * zpl M k i))) := by
  intro k
  induction k with
  | zero =>
    intro nn i a h1 h2 h3
    obtain ⟨n, rfl⟩ := zfuel h2
    rw [p_X9_fillings_16, e, if_pos (by rw [zLe (by omega) (by omega)]; omega), zpl, Nat.mul_one, zcap_id h3, lN_i]
  | succ k ih =>
    intro nn i a h1 h2 h3
    obtain ⟨n, rfl⟩ := zfuel h2
    have q1 := zix (m := i) (n := 24) (by omega) (by omega)
    rw [p_X9_fillings_16, e, if_neg (by rw [zLe (by omega) (by omega)]; omega)]
    simp only [q1, if_false]
    rw [zcl' (by omega), zpl]
    by_cases h : M 81 i = -1
    · rw [if_pos h, if_pos h, zways, if_pos h]
      have h8 := zhc_le M i 8 0
      have hmul : a * zhc M i 8 0 ≤ 1000001 * 8 := Nat.mul_le_mul h3 h8
      have := m_fill40 (A := lN a) (kk := p_X9_fillings_16 M n) v w (s := i) (by omega) 8 5000 0 0 (by omega) (by omega) (by omega)
      rw [show nI 0 = 0 from rfl, Nat.zero_add, nI_l (by omega), lN_mul] at this
      simp only [m_cmp (show a * zhc M i 8 0 < 2 ^ 31 by omega)] at this
      rw [this]
      by_cases h4 : a * zhc M i 8 0 ≤ 1000001
      · rw [if_pos h4, ih n (i + 1) _ (by omega) (by omega) h4, Nat.mul_assoc]
      · rw [if_neg h4, show (1000001 : Int64) = lN 1000001 from rfl, ih n (i + 1) _ (by omega) (by omega) (Nat.le_refl _)]
        have hc : zcap (a * zhc M i 8 0) = 1000001 := by unfold zcap; rw [if_neg (by omega)]
        rw [← Nat.mul_assoc, ← zcap_mul (a * zhc M i 8 0), hc]
    · rw [if_neg h, if_neg h, nI_1, ih n (i + 1) a (by omega) (by omega) h3, Nat.one_mul]
theorem m_fillings {M : zM} {N : Nat} (v : zvMov M) (w : zvTune M) (hN : N ≤ 24) (e : M 9 5 = nI N) : p_X9_fillings M = some (nI (zcap (zpr M N 0))) := by
  have hw : p_X9_wrong M = some (zfw M N 0) := m_wrong2 v w hN e N 5000 0 (by omega) (by omega)
  have hp : zpr M N 0 = (if zfw M N 0 = -1 then 1 else 0) * zpl M N 0 := by
    rcases zpr_pl M N 0 with h | h
    · exact h
    · omega
  rw [p_X9_fillings, hw, hp]
  simp only [Option.bind_some]
  by_cases h : zfw M N 0 = -1
  · rw [if_pos h, if_pos h]
    exact m_fill16 v w hN e N 5000 0 1 (by omega) (by omega) (by omega)
  · rw [if_neg h, if_neg h]
    exact m_fill16 v w hN e N 5000 0 0 (by omega) (by omega) (by omega)
theorem e_fillings {M : zM} (v : zInv M) : zAlikeQ p_X8_fillings p_X9_fillings M := by
  obtain ⟨v1, v2, -⟩ := v
  obtain ⟨N, hN, e1, e2⟩ := zsteps v2
  exact ⟨_, by simp [p_X8_fillings, s_fillingCount v1 v2 hN e2], m_fillings v1 v2 hN e1⟩
/-! the quickest -/
def zqk (M : zM) (s : Nat) : Nat → Nat → Nat → Nat
  | 0, _, best => best
  | k + 1, i, best => if zhold M s i then (if best = 8 then zqk M s k (i + 1) i else if zn M best ≤ zn M i then zqk M s k (i + 1) best else zqk M s k (i + 1) i) else zqk M s k (i + 1) best
def oI (b : Nat) : Int32 := if b = 8 then -1 else nI b
theorem oI_8 : oI 8 = -1 := rfl
theorem oI_n {b : Nat} (h : b < 8) : oI b = nI b := by rw [oI, if_neg (by omega)]
theorem zqk_le (M : zM) (s : Nat) : ∀ k i best, i + k ≤ 8 → best ≤ 8 → zqk M s k i best ≤ 8
  | 0, i, best, _, h => h
  | k + 1, i, best, h1, h => by
    rw [zqk]
    split
    · split
      · exact zqk_le M s k (i + 1) i (by omega) (by omega)
      · split
        · exact zqk_le M s k (i + 1) best (by omega) h
        · exact zqk_le M s k (i + 1) i (by omega) (by omega)
    · exact zqk_le M s k (i + 1) best (by omega) h
theorem zqk_lt (M : zM) (s : Nat) : ∀ k i best, i + k ≤ 8 → (best < 8 ∨ (best ≤ 8 ∧ 0 < zhc M s k i)) → zqk M s k i best < 8
  | 0, i, best, _, h => by
    rcases h with h | h
    · exact h
    · simp [zhc] at h
  | k + 1, i, best, h1, h => by
    rw [zqk]
    by_cases hh : zhold M s i = true
    · rw [if_pos hh]
      split
      · exact zqk_lt M s k (i + 1) i (by omega) (Or.inl (by omega))
      · split
        · exact zqk_lt M s k (i + 1) best (by omega) (Or.inl (by omega))
        · exact zqk_lt M s k (i + 1) i (by omega) (Or.inl (by omega))
    · rw [if_neg hh]
      refine zqk_lt M s k (i + 1) best (by omega) ?_
      rcases h with h | h
      · exact Or.inl h
      · rw [zhc, if_neg hh, Nat.zero_add] at h
        exact Or.inr h
theorem s_quick21 {M : zM} {s : Nat} (v : zvMov M) (w : zvTune M) (hs : s < 24) : ∀ (k nn i best : Nat), i + k = 8 → k < nn → best ≤ 8 → p_X7_quickestAt_21 (nI s) M nn (oI best) (nI i) = some (oI (zqk M s k i best)) := by
  intro k
  induction k with
  | zero =>
    intro nn i best h1 h2 h3
    obtain ⟨n, rfl⟩ := zfuel h2
    rw [p_X7_quickestAt_21, show (8 : Int32) = nI 8 from rfl, if_pos (by rw [zLe (by omega) (by omega)]; omega)]
    rfl
  | succ k ih =>
    intro nn i best h1 h2 h3
    obtain ⟨n, rfl⟩ := zfuel h2
    have q1 := zix (m := i) (n := 8) (by omega) (by omega)
    rw [p_X7_quickestAt_21, show (8 : Int32) = nI 8 from rfl, if_neg (by rw [zLe (by omega) (by omega)]; omega), s_holdsWith v w hs (by omega), zqk]
    simp only [Option.bind_some, zq_0, q1, if_false]
    by_cases h : zhold M s i = true
    · rw [if_neg (by simpa using h), if_pos h]
      by_cases hb : best = 8
      · subst hb
        rw [if_pos rfl, oI_8, if_pos rfl, nI_1, ← oI_n (b := i) (by omega), ih n (i + 1) i (by omega) (by omega) (by omega)]
      · have q2 := zix (m := best) (n := 8) (by omega) (by omega)
        rw [if_neg hb, oI_n (by omega), if_neg (by rw [zm1 (by omega)]; exact id)]
        simp only [q2, if_false]
        rw [zcl' (by omega), zcl' (by omega), (zn_ok v (m := best) (by omega)).2.2, (zn_ok v (m := i) (by omega)).2.2, nI_1]
        simp only [zLe (show zn M best < 2 ^ 31 by have := (zn_ok v (m := best) (by omega)).1; omega) (show zn M i < 2 ^ 31 by have := (zn_ok v (m := i) (by omega)).1; omega)]
        by_cases hg : zn M best ≤ zn M i
        · rw [if_pos hg, if_pos hg, ← oI_n (b := best) (by omega), ih n (i + 1) best (by omega) (by omega) (by omega)]
        · rw [if_neg hg, if_neg hg, ← oI_n (b := i) (by omega), ih n (i + 1) i (by omega) (by omega) (by omega)]
    · rw [if_pos h, if_neg h, nI_1, ih n (i + 1) best (by omega) (by omega) h3]
theorem m_quick21 {M : zM} {s : Nat} (v : zvMov M) (w : zvTune M) (hs : s < 24) : ∀ (k nn i best : Nat), i + k = 8 → k < nn → best ≤ 8 → p_X9_quickestOf_21 (nI s) M nn (oI best) (nI i) = some (oI (zqk M s k i best)) := by
  intro k
  induction k with
  | zero =>
    intro nn i best h1 h2 h3
    obtain ⟨n, rfl⟩ := zfuel h2
    rw [p_X9_quickestOf_21, show (8 : Int32) = nI 8 from rfl, if_pos (by rw [zLe (by omega) (by omega)]; omega)]
    rfl
  | succ k ih =>
    intro nn i best h1 h2 h3
    obtain ⟨n, rfl⟩ := zfuel h2
    have q1 := zix (m := i) (n := 8) (by omega) (by omega)
    rw [p_X9_quickestOf_21, show (8 : Int32) = nI 8 from rfl, if_neg (by rw [zLe (by omega) (by omega)]; omega), m_holds v w hs (by omega), zqk]
    simp only [Option.bind_some, zq_0, q1, if_false]
    by_cases h : zhold M s i = true
    · rw [if_neg (by simpa using h), if_pos h]
      by_cases hb : best = 8
      · subst hb
        rw [if_pos rfl, oI_8, if_pos rfl, nI_1, ← oI_n (b := i) (by omega), ih n (i + 1) i (by omega) (by omega) (by omega)]
      · have q2 := zix (m := best) (n := 8) (by omega) (by omega)
        rw [if_neg hb, oI_n (by omega), if_neg (by rw [zm1 (by omega)]; exact id)]
        simp only [q2, if_false]
        rw [zcl' (by omega), zcl' (by omega), (zn_ok v (m := best) (by omega)).2.1, (zn_ok v (m := i) (by omega)).2.1, nI_1]
        simp only [zLe (show zn M best < 2 ^ 31 by have := (zn_ok v (m := best) (by omega)).1; omega) (show zn M i < 2 ^ 31 by have := (zn_ok v (m := i) (by omega)).1; omega)]
        by_cases hg : zn M best ≤ zn M i
        · rw [if_pos hg, if_pos hg, ← oI_n (b := best) (by omega), ih n (i + 1) best (by omega) (by omega) (by omega)]
        · rw [if_neg hg, if_neg hg, ← oI_n (b := i) (by omega), ih n (i + 1) i (by omega) (by omega) (by omega)]
    · rw [if_pos h, if_neg h, nI_1, ih n (i + 1) best (by omega) (by omega) h3]
/-- the movement that the quickest filling has at a step; 8: none -/
def zqa (M : zM) (s : Nat) : Nat := if M 81 s = -1 then zqk M s 8 0 8 else (M 81 s).toInt.toNat
theorem zqa_ok {M : zM} {s : Nat} (w : zvTune M) (hs : s < 24) : zqa M s ≤ 8 ∧ (0 < zways M s → zqa M s < 8) := by
  obtain ⟨-, m2⟩ := zmov_ok w hs
  by_cases h : M 81 s = -1
  · rw [zqa, if_pos h, zways, if_pos h]
    exact ⟨zqk_le M s 8 0 8 (by omega) (by omega), fun h2 => zqk_lt M s 8 0 8 (by omega) (Or.inr ⟨by omega, h2⟩)⟩
  · obtain ⟨m, hm, e⟩ := m2 h
    rw [zqa, if_neg h, e, nI_toInt (by omega)]
    exact ⟨by omega, fun _ => by omega⟩
theorem s_quickestAt {M : zM} {s : Nat} (v : zvMov M) (w : zvTune M) (hs : s < 24) : p_X7_quickestAt (nI s) M = some (oI (zqa M s)) := by
  have q1 := zix (m := s) (n := 24) hs (by omega)
  obtain ⟨m1, m2⟩ := zmov_ok w hs
  rw [p_X7_quickestAt]
  simp only [q1, if_false]
  rw [zcl' (by omega), m1, zqa]
  by_cases h : M 81 s = -1
  · rw [if_pos h, if_pos h]
    exact s_quick21 v w hs 8 5000 0 8 (by omega) (by omega) (by omega)
  · obtain ⟨m, hm, e⟩ := m2 h
    rw [if_neg h, if_neg h, e, nI_toInt (by omega), Int.toNat_natCast, oI_n hm]
theorem m_quickestOf {M : zM} {s : Nat} (v : zvMov M) (w : zvTune M) (hs : s < 24) : p_X9_quickestOf (nI s) M = some (oI (zqa M s)) := by
  have q1 := zix (m := s) (n := 24) hs (by omega)
  obtain ⟨m1, m2⟩ := zmov_ok w hs
  rw [p_X9_quickestOf]
  simp only [q1, if_false]
  rw [zcl' (by omega), zqa]
  by_cases h : M 81 s = -1
  · rw [if_pos h, if_pos h]
    exact m_quick21 v w hs 8 5000 0 8 (by omega) (by omega) (by omega)
  · obtain ⟨m, hm, e⟩ := m2 h
    rw [if_neg h, if_neg h, e, nI_toInt (by omega), Int.toNat_natCast, oI_n hm]
theorem zcap0 {n : Nat} : (nI (zcap n) ≤ 0) = (n = 0) ∧ (nI (zcap n) = 0) = (n = 0) := by
  have := zcap_le n
  rw [show (0 : Int32) = nI 0 from rfl, zLe (by omega) (by omega), zEqn (by omega) (by omega)]
  unfold zcap
  constructor <;> (apply propext; split <;> omega)
theorem e_quickest (x1 : Int32) {M : zM} (v : zInv M) : zAlikeQ (p_X8_quickest x1) (p_X9_quickest x1) M := by
  obtain ⟨v1, v2, -⟩ := v
  obtain ⟨N, hN, e1, e2⟩ := zsteps v2
  by_cases h : 0 ≤ x1 ∧ x1 ≤ nI N - 1
  · obtain ⟨s, hs, rfl⟩ := zbelow rfl (by omega) h
    refine ⟨if zpr M N 0 = 0 then -1 else oI (zqa M s), ?_, ?_⟩
    · by_cases hz : zpr M N 0 = 0 <;> simp [p_X8_quickest, s_isStep, e2, zq_0, h, s_fillingCount v1 v2 hN e2, zcap0.1, s_quickestAt v1 v2 (show s < 24 by omega), hz]
    · by_cases hz : zpr M N 0 = 0 <;> simp [p_X9_quickest, s_in, e1, zq_0, h, m_fillings v1 v2 hN e1, zcap0.2, m_quickestOf v1 v2 (show s < 24 by omega), hz]
  · exact ⟨-2, by simp [p_X8_quickest, s_isStep, e2, zq_0, h], by simp [p_X9_quickest, s_in, e1, zq_0, h]⟩
theorem zpr_pos (M : zM) : ∀ k i, 0 < zpr M k i → ∀ s, i ≤ s → s < i + k → 0 < zways M s
  | 0, i, _, s, h1, h2 => by omega
  | k + 1, i, h, s, h1, h2 => by
    rw [zpr] at h
    have ha := Nat.pos_of_mul_pos_right h
    have hb := Nat.pos_of_mul_pos_left h
    rcases Nat.eq_or_lt_of_le h1 with rfl | h3
    · first | exact ha | exact hb
    · first | exact zpr_pos M k (i + 1) hb s h3 (by omega) | exact zpr_pos M k (i + 1) ha s h3 (by omega)
def zgs (M : zM) : Nat → Nat → Nat
  | 0, _ => 0
  | k + 1, i => zn M (zqa M i) + zgs M k (i + 1)
theorem s_qg4 {M : zM} {N : Nat} (v : zvMov M) (w : zvTune M) (hN : N ≤ 24) (e : M 2 4 = nI N) (hp : ∀ s, s < N → zqa M s < 8) : ∀ (k nn i a : Nat), i + k = N → k < nn → p_X7_quickestGraces_4 M nn (nI a) (nI i) = some (nI (a + zgs M k i)) := by
  intro k
  induction k with
  | zero =>
    intro nn i a h1 h2
    obtain ⟨n, rfl⟩ := zfuel h2
    rw [p_X7_quickestGraces_4, e, if_pos (by rw [zLe (by omega) (by omega)]; omega)]
    rfl
  | succ k ih =>
    intro nn i a h1 h2
    obtain ⟨n, rfl⟩ := zfuel h2
    have hq := hp i (by omega)
    have q1 := zix (m := zqa M i) (n := 8) hq (by omega)
    rw [p_X7_quickestGraces_4, e, if_neg (by rw [zLe (by omega) (by omega)]; omega), s_quickestAt v w (by omega), oI_n hq]
    simp only [Option.bind_some, q1, if_false]
    rw [if_neg (by rw [zm1 (by omega)]; exact id), zcl' (by omega), (zn_ok v hq).2.2, nI_add, nI_1, ih n (i + 1) _ (by omega) (by omega), zgs, Nat.add_assoc]
theorem m_gr13 {M : zM} {N : Nat} (v : zvMov M) (w : zvTune M) (hN : N ≤ 24) (e : M 9 5 = nI N) (hp : ∀ s, s < N → zqa M s < 8) : ∀ (k nn i a : Nat), i + k = N → k < nn → p_X9_graces_13 M nn (nI a) (nI i) = some (nI (a + zgs M k i)) := by
  intro k
  induction k with
  | zero =>
    intro nn i a h1 h2
    obtain ⟨n, rfl⟩ := zfuel h2
    rw [p_X9_graces_13, e, if_pos (by rw [zLe (by omega) (by omega)]; omega)]
    rfl
  | succ k ih =>
    intro nn i a h1 h2
    obtain ⟨n, rfl⟩ := zfuel h2
    have hq := hp i (by omega)
    have q1 := zix (m := zqa M i) (n := 8) hq (by omega)
    rw [p_X9_graces_13, e, if_neg (by rw [zLe (by omega) (by omega)]; omega), m_quickestOf v w (by omega), oI_n hq]
    simp only [Option.bind_some, q1, if_false]
    rw [zcl' (by omega), (zn_ok v hq).2.1, nI_add, nI_1, ih n (i + 1) _ (by omega) (by omega), zgs, Nat.add_assoc]
theorem e_graces {M : zM} (v : zInv M) : zAlikeQ p_X8_graces p_X9_graces M := by
  obtain ⟨v1, v2, -⟩ := v
  obtain ⟨N, hN, e1, e2⟩ := zsteps v2
  by_cases hz : zpr M N 0 = 0
  · exact ⟨-1, by simp [p_X8_graces, s_fillingCount v1 v2 hN e2, zcap0.1, hz], by simp [p_X9_graces, m_fillings v1 v2 hN e1, zcap0.2, hz]⟩
  · have hp : ∀ s, s < N → zqa M s < 8 := fun s hs => (zqa_ok v2 (by omega)).2 (zpr_pos M N 0 (by omega) s (by omega) (by omega))
    have a1 : p_X7_quickestGraces M = some (nI (0 + zgs M N 0)) := s_qg4 v1 v2 hN e2 hp N 5000 0 0 (by omega) (by omega)
    have a2 : p_X9_graces_13 M 5000 0 0 = some (nI (0 + zgs M N 0)) := m_gr13 v1 v2 hN e1 hp N 5000 0 0 (by omega) (by omega)
    exact ⟨_, by simp [p_X8_graces, s_fillingCount v1 v2 hN e2, zcap0.1, hz, a1]; rfl, by simp [p_X9_graces, m_fillings v1 v2 hN e1, zcap0.2, hz, a2]⟩
