/-! ===== the drone: the middle tone is the mildest ===== -/
/-- how many of the tones from i on, k of them, are not above z -/
def zlc (M : zM) (z : Int) : Nat → Nat → Nat
  | 0, _ => 0
  | k + 1, i => (if ztone M i ≤ z then 1 else 0) + zlc M z k (i + 1)
theorem zlc_le (M : zM) (z : Int) : ∀ k i, zlc M z k i ≤ k
  | 0, _ => Nat.le_refl 0
  | k + 1, i => by
    have := zlc_le M z k (i + 1)
    rw [zlc]
    split <;> omega
theorem zlc_mono (M : zM) {z w : Int} (h : z ≤ w) : ∀ k i, zlc M z k i ≤ zlc M w k i
  | 0, _ => Nat.le_refl 0
  | k + 1, i => by
    have := zlc_mono M h k (i + 1)
    rw [zlc, zlc]
    split <;> split <;> omega
theorem zfar_step (M : zM) (q d : Int) : ∀ k i, zfar M q (d + 1) k i = zfar M q d k i + 2 * (zlc M (d - q) k i : Int) - k
  | 0, _ => by simp [zfar, zlc]
  | k + 1, i => by
    have ih := zfar_step M q d k (i + 1)
    rw [zfar, zfar, zlc, ih]
    have : zabs (ztone M i + q - (d + 1)) = zabs (ztone M i + q - d) + 2 * ((if ztone M i ≤ d - q then 1 else 0 : Nat) : Int) - 1 := by
      unfold zabs
      by_cases h : ztone M i ≤ d - q
      · rw [if_pos h]
        split <;> split <;> omega
      · rw [if_neg h]
        split <;> split <;> omega
    rw [this]
    push_cast
    omega
theorem zfar_rng {M : zM} {q d : Int} (v : zvPipes M) (hd : -999 ≤ d ∧ d ≤ 999) (hq : -999 ≤ q ∧ q ≤ 999) : ∀ k i, i + k ≤ 9 → 0 ≤ zfar M q d k i ∧ zfar M q d k i ≤ 3000 * k
  | 0, _, _ => by simp [zfar]
  | k + 1, i, h => by
    have ih := zfar_rng v hd hq k (i + 1) (by omega)
    obtain ⟨t1, -, -⟩ := ztone_ok v (n := i) (by omega)
    rw [zfar]
    have : 0 ≤ zabs (ztone M i + q - d) ∧ zabs (ztone M i + q - d) ≤ 3000 := by
      unfold zabs
      split <;> omega
    push_cast
    omega
/-- z is the middle one -/
def zmid (M : zM) (z : Int) : Prop := zlc M (z - 1) 9 0 ≤ 4 ∧ 5 ≤ zlc M z 9 0
theorem zlc_all {M : zM} (v : zvPipes M) : ∀ k i, i + k ≤ 9 → zlc M 300 k i = k ∧ zlc M (-301) k i = 0
  | 0, _, _ => ⟨rfl, rfl⟩
  | k + 1, i, h => by
    obtain ⟨a, b⟩ := zlc_all v k (i + 1) (by omega)
    obtain ⟨t1, -, -⟩ := ztone_ok v (n := i) (by omega)
    rw [zlc, zlc, a, b, if_pos t1.2, if_neg (by omega)]
    omega
theorem zlc_new (M : zM) (z : Int) : ∀ k i, zlc M (z - 1) k i < zlc M z k i → ∃ j, i ≤ j ∧ j < i + k ∧ ztone M j = z
  | 0, _, h => by simp [zlc] at h
  | k + 1, i, h => by
    by_cases e : ztone M i = z
    · exact ⟨i, Nat.le_refl i, by omega, e⟩
    · rw [zlc, zlc] at h
      have : (if ztone M i ≤ z - 1 then 1 else 0) = (if ztone M i ≤ z then 1 else 0) := by
        by_cases h2 : ztone M i ≤ z - 1
        · rw [if_pos h2, if_pos (by omega)]
        · rw [if_neg h2, if_neg (by omega)]
      obtain ⟨j, h1, h2, h3⟩ := zlc_new M z k (i + 1) (by omega)
      exact ⟨j, by omega, by omega, h3⟩
theorem zmid_ex {M : zM} (v : zvPipes M) : ∃ j, j < 9 ∧ zmid M (ztone M j) := by
  have key : ∀ n : Nat, n ≤ 601 → 5 ≤ zlc M (-301 + n) 9 0 → ∃ m : Nat, m ≤ n ∧ zlc M (-301 + m - 1) 9 0 ≤ 4 ∧ 5 ≤ zlc M (-301 + m) 9 0 := by
    intro n
    induction n with
    | zero =>
      intro _ h
      rw [show (-301 + ((0 : Nat) : Int)) = -301 by simp, (zlc_all v 9 0 (by omega)).2] at h
      omega
    | succ n ih =>
      intro h1 h2
      by_cases h3 : 5 ≤ zlc M (-301 + n) 9 0
      · obtain ⟨m, a, b⟩ := ih (by omega) h3
        exact ⟨m, by omega, b⟩
      · refine ⟨n + 1, Nat.le_refl _, ?_, h2⟩
        rw [show (-301 + ((n + 1 : Nat) : Int) - 1) = -301 + (n : Int) by push_cast; omega]
        omega
  obtain ⟨m, -, h1, h2⟩ := key 601 (by omega) (by
    rw [show (-301 + ((601 : Nat) : Int)) = 300 by decide, (zlc_all v 9 0 (by omega)).1]
    omega)
  obtain ⟨j, -, hj, e⟩ := zlc_new M (-301 + m) 9 0 (by omega)
  exact ⟨j, by omega, by rw [e]; exact ⟨h1, h2⟩⟩
theorem s_mid15 {M : zM} {n : Nat} {k2 : Int32 → Option Int32} (v : zvPipes M) (hn : n < 9) : ∀ (k nn i a b : Nat), i + k = 9 → k < nn → a ≤ i → b ≤ i → p_X0_middleTone_15 k2 (nI n) M nn (nI a) (nI b) (nI i) = if a + zlc M (ztone M n - 1) k i ≤ 4 ∧ 5 ≤ b + zlc M (ztone M n) k i then some (iI (ztone M n)) else k2 (nI (n + 1)) := by
  obtain ⟨t1, t2, t3⟩ := ztone_ok v hn
  have qn := zix (m := n) (n := 9) hn (by omega)
  intro k
  induction k with
  | zero =>
    intro nn i a b h1 h2 ha hb
    obtain ⟨m, rfl⟩ := zfuel h2
    rw [p_X0_middleTone_15, show (9 : Int32) = nI 9 from rfl, if_pos (by rw [zLe (by omega) (by omega)]; omega), show (4 : Int32) = nI 4 from rfl]
    simp only [qn, if_false, zLt (show 4 < 2 ^ 31 by omega) (show a < 2 ^ 31 by omega), zLe (show b < 2 ^ 31 by omega) (show 4 < 2 ^ 31 by omega)]
    rw [zcl' (by omega), t3, nI_1, zlc, zlc, Nat.add_zero, Nat.add_zero]
    by_cases c1 : 4 < a
    · rw [if_pos c1, if_neg (by omega)]
    · rw [if_neg c1]
      by_cases c2 : b ≤ 4
      · rw [if_pos c2, if_neg (by omega)]
      · rw [if_neg c2, if_pos (by omega)]
  | succ k ih =>
    intro nn i a b h1 h2 ha hb
    obtain ⟨m, rfl⟩ := zfuel h2
    obtain ⟨u1, u2, u3⟩ := ztone_ok v (n := i) (by omega)
    have qi := zix (m := i) (n := 9) (by omega) (by omega)
    rw [p_X0_middleTone_15, show (9 : Int32) = nI 9 from rfl, if_neg (by rw [zLe (by omega) (by omega)]; omega)]
    simp only [qn, qi, if_false, p_X0_middleTone_44]
    rw [zcl' (by omega), zcl' (by omega), t3, u3, nI_1]
    simp only [iI_le (show -2147483648 ≤ ztone M n by omega) (by omega) (show -2147483648 ≤ ztone M i by omega) (by omega), iI_lt (show -2147483648 ≤ ztone M n by omega) (by omega) (show -2147483648 ≤ ztone M i by omega) (by omega)]
    rw [zlc, zlc]
    have z0 : ∀ x : Nat, nI x + (0 : Int32) = nI x := fun x => by rw [show (0 : Int32) = nI 0 from rfl, nI_add, Nat.add_zero]
    by_cases c1 : ztone M n ≤ ztone M i
    · rw [if_pos c1, z0, if_neg (show ¬ ztone M i ≤ ztone M n - 1 by omega)]
      by_cases c2 : ztone M n < ztone M i
      · rw [if_pos c2, z0, ih m (i + 1) a b (by omega) (by omega) (by omega) (by omega), if_neg (show ¬ ztone M i ≤ ztone M n by omega), Nat.zero_add, Nat.zero_add]
      · rw [if_neg c2, nI_1, ih m (i + 1) a (b + 1) (by omega) (by omega) (by omega) (by omega), if_pos (show ztone M i ≤ ztone M n by omega), Nat.zero_add, Nat.add_assoc]
    · rw [if_neg c1, nI_1, if_pos (show ztone M i ≤ ztone M n - 1 by omega), if_neg (show ¬ ztone M n < ztone M i by omega), nI_1, ih m (i + 1) (a + 1) (b + 1) (by omega) (by omega) (by omega) (by omega), if_pos (show ztone M i ≤ ztone M n by omega), Nat.add_assoc, Nat.add_assoc]
theorem s_mid2 {M : zM} (v : zvPipes M) : ∀ (k nn n : Nat), n + k = 9 → k < nn → (∃ j, n ≤ j ∧ j < 9 ∧ zmid M (ztone M j)) → ∃ j, j < 9 ∧ zmid M (ztone M j) ∧ p_X0_middleTone_2 M nn (nI n) = some (iI (ztone M j)) := by
  intro k
  induction k with
  | zero =>
    intro nn n h1 h2 h3
    obtain ⟨j, a, b, -⟩ := h3
    omega
  | succ k ih =>
    intro nn n h1 h2 h3
    obtain ⟨m, rfl⟩ := zfuel h2
    have hs := s_mid15 (k2 := p_X0_middleTone_2 M m) v (n := n) (by omega) 9 5000 0 0 0 (by omega) (by omega) (by omega) (by omega)
    rw [Nat.zero_add, Nat.zero_add] at hs
    by_cases c : zmid M (ztone M n)
    · refine ⟨n, by omega, c, ?_⟩
      rw [p_X0_middleTone_2, show (9 : Int32) = nI 9 from rfl, if_neg (by rw [zLe (by omega) (by omega)]; omega)]
      rw [if_pos (show zlc M (ztone M n - 1) 9 0 ≤ 4 ∧ 5 ≤ zlc M (ztone M n) 9 0 from c)] at hs
      exact hs
    · obtain ⟨j, a, b, e⟩ := ih m (n + 1) (by omega) (by omega) (by
        obtain ⟨j, a, b, e⟩ := h3
        refine ⟨j, ?_, b, e⟩
        rcases Nat.eq_or_lt_of_le a with rfl | q
        · exact absurd e c
        · omega)
      refine ⟨j, a, b, ?_⟩
      rw [p_X0_middleTone_2, show (9 : Int32) = nI 9 from rfl, if_neg (by rw [zLe (by omega) (by omega)]; omega)]
      rw [if_neg (show ¬ (zlc M (ztone M n - 1) 9 0 ≤ 4 ∧ 5 ≤ zlc M (ztone M n) 9 0) from c)] at hs
      exact hs.trans e
/-- the mildest: a number cut to -999 .. 999 -/
def zcut (z : Int) : Int := if -999 < (if z < 999 then z else 999) then (if z < 999 then z else 999) else -999
theorem zfar_up {M : zM} {q c : Int} (h : zmid M c) : ∀ (k : Nat) (a : Int), c + q ≤ a → zfar M q a 9 0 ≤ zfar M q (a + k) 9 0
  | 0, a, _ => by simp
  | k + 1, a, h2 => by
    have ih := zfar_up h k a h2
    have hs := zfar_step M q (a + k) 9 0
    have hm := zlc_mono M (show c ≤ a + k - q by omega) 9 0
    have := h.2
    rw [show a + ((k + 1 : Nat) : Int) = a + k + 1 by push_cast; omega, hs]
    push_cast
    omega
theorem zfar_down {M : zM} {q c : Int} (h : zmid M c) {a : Int} (h2 : a + 1 ≤ c + q) : zfar M q (a + 1) 9 0 < zfar M q a 9 0 := by
  have hs := zfar_step M q a 9 0
  have hm := zlc_mono M (show a - q ≤ c - 1 by omega) 9 0
  have := h.1
  rw [hs]
  push_cast
  omega
/-- the best of -999 .. d - 1 -/
def zbst (m d : Int) : Int := if m < -999 then -999 else if d - 1 < m then d - 1 else m
theorem m_set24 {M : zM} {q c : Int} (v : zvPipes M) (hq : -999 ≤ q ∧ q ≤ 999) (h : zmid M c) : ∀ (k nn : Nat) (d : Int), d + k = 1000 → -998 ≤ d → k < nn → p_X9_set_24 (iI q) M nn (iI (zbst (c + q) d)) (iI d) = some (iI (zbst (c + q) 1000)) := by
  intro k
  induction k with
  | zero =>
    intro nn d h1 h0 h2
    obtain ⟨n, rfl⟩ := zfuel h2
    rw [p_X9_set_24, show (999 : Int32) = iI 999 from rfl, if_pos (by rw [iI_lt (by omega) (by omega) (by omega) (by omega)]; omega), show d = 1000 by omega]
  | succ k ih =>
    intro nn d h1 h0 h2
    obtain ⟨n, rfl⟩ := zfuel h2
    have hd : -999 ≤ d ∧ d ≤ 999 := by omega
    have hb : -999 ≤ zbst (c + q) d ∧ zbst (c + q) d ≤ 999 := by
      unfold zbst
      split
      · omega
      · split <;> omega
    have r1 := zfar_rng v hd hq 9 0 (by omega)
    have r2 := zfar_rng v hb hq 9 0 (by omega)
    rw [p_X9_set_24, show (999 : Int32) = iI 999 from rfl, if_neg (by rw [iI_lt (by omega) (by omega) (by omega) (by omega)]; omega), m_harshOf v hd hq, m_harshOf v hb hq]
    simp only [Option.bind_some]
    simp only [iI_le (show -2147483648 ≤ zfar M q (zbst (c + q) d) 9 0 by omega) (by omega) (show -2147483648 ≤ zfar M q d 9 0 by omega) (by omega)]
    rw [show (1 : Int32) = iI 1 from rfl, iI_add]
    by_cases c1 : d ≤ c + q
    · have e1 : zbst (c + q) d = d - 1 := by
        unfold zbst
        rw [if_neg (by omega), if_pos (by omega)]
      have hlt := zfar_down h (q := q) (a := d - 1) (by omega)
      rw [show d - 1 + 1 = d by omega] at hlt
      rw [e1, if_neg (by omega)]
      have e2 : zbst (c + q) (d + 1) = d := by
        unfold zbst
        rw [if_neg (by omega)]
        split <;> omega
      have := ih n (d + 1) (by omega) (by omega) (by omega)
      rw [e2] at this
      exact this
    · have e2 : zbst (c + q) (d + 1) = zbst (c + q) d := by
        unfold zbst
        by_cases c2 : c + q < -999
        · rw [if_pos c2, if_pos c2]
        · rw [if_neg c2, if_neg c2, if_neg (by omega)]
          split <;> omega
      have hge : c + q ≤ zbst (c + q) d := by
        unfold zbst
        split
        · omega
        · split <;> omega
      have hup := zfar_up h (q := q) (d - zbst (c + q) d).toNat (zbst (c + q) d) hge
      have hle : zbst (c + q) d ≤ d := by
        unfold zbst
        split
        · omega
        · split <;> omega
      rw [show zbst (c + q) d + (((d - zbst (c + q) d).toNat : Nat) : Int) = d by omega] at hup
      rw [if_pos hup]
      have := ih n (d + 1) (by omega) (by omega) (by omega)
      rw [e2] at this
      exact this
theorem e_set (x1 : Int32) {M : zM} (v : zInv M) : zAlikeQ (p_X8_set x1) (p_X9_set x1) M := by
  obtain ⟨v1, v2, v3, v4, v5, v6, v7⟩ := v
  by_cases h1 : -999 ≤ x1 ∧ x1 ≤ 999
  · obtain ⟨a1, a2⟩ := zpitch_of h1
    generalize x1.toInt = q at a1 a2
    subst a2
    obtain ⟨j, hj, hm, e⟩ := s_mid2 v7 9 5000 0 (by omega) (by omega) (by
      obtain ⟨j, a, b⟩ := zmid_ex v7
      exact ⟨j, by omega, a, b⟩)
    have hmt : p_X0_middleTone M = some (iI (ztone M j)) := e
    obtain ⟨t1, -, -⟩ := ztone_ok v7 hj
    have hs := m_set24 v7 a1 hm 1998 5000 (-998) (by omega) (by omega) (by omega)
    have e0 : zbst (ztone M j + q) (-998) = -999 := by
      unfold zbst
      split
      · rfl
      · split <;> omega
    rw [e0] at hs
    refine ⟨iI (zbst (ztone M j + q) 1000), ?_, ?_⟩
    · have hmil : p_X0_mildest (iI q) M = some (iI (zbst (ztone M j + q) 1000)) := by
        rw [p_X0_mildest, hmt]
        simp only [Option.bind_some]
        rw [iI_add, show (999 : Int32) = iI 999 from rfl, show - iI 999 = iI (-999) from rfl]
        simp only [iI_lt (show -2147483648 ≤ ztone M j + q by omega) (by omega) (show -2147483648 ≤ (999 : Int) by omega) (by omega)]
        congr 1
        unfold zbst
        by_cases c1 : ztone M j + q < 999
        · simp only [if_pos c1]
          simp only [iI_lt (show -2147483648 ≤ (-999 : Int) by omega) (by omega) (show -2147483648 ≤ ztone M j + q by omega) (by omega)]
          by_cases c2 : -999 < ztone M j + q
          · rw [if_pos c2, if_neg (by omega), if_neg (by omega)]
          · rw [if_neg c2]
            by_cases c3 : ztone M j + q < -999
            · rw [if_pos c3]
            · rw [if_neg c3, if_neg (by omega), show ztone M j + q = -999 by omega]
        · simp only [if_neg c1]
          rw [if_pos (by decide), if_neg (by omega)]
          by_cases c3 : (1000 : Int) - 1 < ztone M j + q
          · rw [if_pos c3]
            rfl
          · rw [if_neg c3, show ztone M j + q = 999 by omega]
      simp [p_X8_set, s_isPitch, zq_0, h1, hmil]
    · have hs' : p_X9_set_24 (iI q) M 5000 (-999) (-998) = some (iI (zbst (ztone M j + q) 1000)) := hs
      simp [p_X9_set, s_in, zq_0, h1, hs']
  · exact ⟨-2147483648, by simp [p_X8_set, s_isPitch, zq_0, h1], by simp [p_X9_set, s_in, zq_0, h1]⟩
