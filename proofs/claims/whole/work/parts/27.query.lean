/-! ===== sung, count, pitch, harsh ===== -/
theorem e_sung (x1 x2 : Int32) {M : zM} (v : zInv M) : zAlikeQ (p_X8_sung x1 x2) (p_X9_sung x1 x2) M := by
  obtain ⟨v1, v2, v3, -⟩ := v
  obtain ⟨N, hN, e1, e2⟩ := zsteps v2
  by_cases h1 : 0 ≤ x1 ∧ x1 ≤ 2
  · by_cases h : 0 ≤ x2 ∧ x2 ≤ nI N - 1
    · obtain ⟨r, hr, rfl⟩ := zup (n := 2) rfl (by decide) h1
      obtain ⟨s, hs, rfl⟩ := zbelow rfl (by omega) h
      obtain ⟨n1, n2, n3⟩ := znote_ok v2 (s := s) (by omega)
      obtain ⟨m1, m2⟩ := zmov_ok v2 (s := s) (by omega)
      have q1 := zix (m := s) (n := 24) (by omega) (by omega)
      by_cases hl : M 81 s = -1
      · refine ⟨-4, ?_, ?_⟩
        · simp (disch := omega) [p_X8_sung, s_isRegion, s_isStep, e2, zq_0, h1, h, ↓zix, zcl', m1, hl]
        · simp (disch := omega) [p_X9_sung, m_isRegion, s_in, e1, zq_0, h1, h, ↓zix, zcl', hl]
      · obtain ⟨m, hm, em⟩ := m2 hl
        have hm1 : ¬ nI m = -1 := by rw [zm1 (by omega)]; exact id
        refine ⟨4 * M 82 (8 * r + m) + M 83 (9 * r + znote M s), ?_, ?_⟩
        · have a1 := (v3.1 r m (by omega) hm).1
          have a2 := (v3.2.1 r (znote M s) (by omega) n1).1
          simp (disch := omega) [p_X8_sung, p_X6_sound, s_isRegion, s_isStep, e2, zq_0, h1, h, ↓zix, zix', zcl', m1, em, hm1, n3, a1, a2]
        · simp (disch := omega) [p_X9_sung, m_isRegion, s_in, e1, zq_0, h1, h, ↓zix, zix', zcl', em, hm1, n2, z8, z9]
    · exact ⟨-2, by simp [p_X8_sung, s_isRegion, s_isStep, e2, zq_0, h1, h], by simp [p_X9_sung, m_isRegion, s_in, e1, zq_0, h1, h]⟩
  · exact ⟨-2, by simp [p_X8_sung, s_isRegion, zq_0, h1], by simp [p_X9_sung, m_isRegion, zq_0, h1]⟩
def zlo (M : zM) : Nat → Nat → Nat
  | 0, _ => 0
  | k + 1, i => (if M 81 i = -1 then 1 else 0) + zlo M k (i + 1)
theorem s_lost {M : zM} {N : Nat} (w : zvTune M) (hN : N ≤ 24) (e : M 2 4 = nI N) : ∀ (k nn i a : Nat), i + k = N → k < nn → p_X7_lostOnes_4 M nn (nI a) (nI i) = some (nI (a + zlo M k i)) := by
  intro k
  induction k with
  | zero =>
    intro nn i a h1 h2
    obtain ⟨n, rfl⟩ := zfuel h2
    rw [p_X7_lostOnes_4, e, if_pos (by rw [zLe (by omega) (by omega)]; omega)]
    rfl
  | succ k ih =>
    intro nn i a h1 h2
    obtain ⟨n, rfl⟩ := zfuel h2
    have q1 := zix (m := i) (n := 24) (by omega) (by omega)
    rw [p_X7_lostOnes_4, e, if_neg (by rw [zLe (by omega) (by omega)]; omega)]
    simp only [q1, if_false]
    rw [zcl' (by omega), (zmov_ok w (s := i) (by omega)).1, zlo]
    by_cases h : M 81 i = -1
    · rw [if_pos h, if_pos h, nI_1, nI_1, ih n (i + 1) (a + 1) (by omega) (by omega), Nat.add_assoc]
    · rw [if_neg h, if_neg h, nI_1, ih n (i + 1) a (by omega) (by omega), Nat.zero_add]
theorem m_lost {M : zM} {N : Nat} (hN : N ≤ 24) (e : M 9 5 = nI N) : ∀ (k nn i a : Nat), i + k = N → k < nn → p_X9_count_43 M nn (nI a) (nI i) = some (nI (a + zlo M k i)) := by
  intro k
  induction k with
  | zero =>
    intro nn i a h1 h2
    obtain ⟨n, rfl⟩ := zfuel h2
    rw [p_X9_count_43, e, if_pos (by rw [zLe (by omega) (by omega)]; omega)]
    rfl
  | succ k ih =>
    intro nn i a h1 h2
    obtain ⟨n, rfl⟩ := zfuel h2
    have q1 := zix (m := i) (n := 24) (by omega) (by omega)
    rw [p_X9_count_43, e, if_neg (by rw [zLe (by omega) (by omega)]; omega)]
    simp only [q1, if_false]
    rw [zcl' (by omega), zlo]
    by_cases h : M 81 i = -1
    · rw [if_pos h, if_pos h, nI_1, nI_1, ih n (i + 1) (a + 1) (by omega) (by omega), Nat.add_assoc]
    · rw [if_neg h, if_neg h, nI_1, show nI a + (0 : Int32) = nI a by rw [show (0 : Int32) = nI 0 from rfl, nI_add, Nat.add_zero], ih n (i + 1) a (by omega) (by omega), Nat.zero_add]
theorem e_count (x1 : Int32) {M : zM} (v : zInv M) : zAlikeQ (p_X8_count x1) (p_X9_count x1) M := by
  obtain ⟨v1, v2, v3, v4, v5, v6, v7⟩ := v
  obtain ⟨N, hN, e1, e2⟩ := zsteps v2
  have a1 : p_X7_lostOnes M = some (nI (0 + zlo M N 0)) := s_lost v2 hN e2 N 5000 0 0 (by omega) (by omega)
  have a2 : p_X9_count_43 M 5000 0 0 = some (nI (0 + zlo M N 0)) := m_lost hN e1 N 5000 0 0 (by omega) (by omega)
  unfold zAlikeQ p_X8_count p_X9_count
  rw [a1, a2, v2.1.1, v3.2.2.1.1, v5.1.1, v6.1.1]
  simp only [Option.bind_some]
  by_cases h0 : x1 = 0
  · exact ⟨_, by rw [if_pos h0], by rw [if_pos h0]⟩
  · rw [if_neg h0]
    by_cases h1 : x1 = 1
    · exact ⟨_, by rw [if_pos h1], by rw [if_pos h1]⟩
    · rw [if_neg h1]
      by_cases h2 : x1 = 2
      · exact ⟨_, by rw [if_pos h2], by rw [if_pos h2]⟩
      · rw [if_neg h2]
        by_cases h3 : x1 = 3
        · exact ⟨_, by rw [if_pos h3], by rw [if_pos h3]⟩
        · rw [if_neg h3]
          by_cases h4 : x1 = 4
          · exact ⟨_, by rw [if_pos h4], by rw [if_pos h4]⟩
          · exact ⟨_, by rw [if_neg h4], by rw [if_neg h4]⟩
/-! the pitch of a piper: its numbers -/
def zreed (M : zM) (p : Nat) : Int := (M 94 p).toInt
def zwarm (M : zM) (p : Nat) : Nat := (M 96 p).toInt.toNat
def zcomes (M : zM) (p : Nat) : Nat := (M 97 p).toInt.toNat
def zeach (M : zM) (p : Nat) : Nat := (M 95 p).toInt.toNat - (M 9 30).toInt.toNat
def iI (z : Int) : Int32 := Int32.ofInt z
theorem iI_to {z : Int} (h1 : -2147483648 ≤ z) (h2 : z < 2147483648) : (iI z).toInt = z := fb_ofI h1 h2
theorem iI_of (x : Int32) : x = iI x.toInt := (fb_asI x).symm
theorem iI_lt {a b : Int} (h1 : -2147483648 ≤ a) (h2 : a < 2147483648) (h3 : -2147483648 ≤ b) (h4 : b < 2147483648) : (iI a < iI b) = (a < b) := by rw [fa_lt, iI_to h1 h2, iI_to h3 h4]
theorem iI_le {a b : Int} (h1 : -2147483648 ≤ a) (h2 : a < 2147483648) (h3 : -2147483648 ≤ b) (h4 : b < 2147483648) : (iI a ≤ iI b) = (a ≤ b) := by rw [fa_le, iI_to h1 h2, iI_to h3 h4]
theorem iI_eq {a b : Int} (h1 : -2147483648 ≤ a) (h2 : a < 2147483648) (h3 : -2147483648 ≤ b) (h4 : b < 2147483648) : (iI a = iI b) = (a = b) := by rw [fa_eq, iI_to h1 h2, iI_to h3 h4]
theorem iI_add (a b : Int) : iI a + iI b = iI (a + b) := (Int32.ofInt_add a b).symm
theorem iI_mul (a b : Int) : iI a * iI b = iI (a * b) := (Int32.ofInt_mul a b).symm
theorem iI_sub (a b : Int) : iI a - iI b = iI (a - b) := (Int32.ofInt_sub a b).symm
theorem iI_neg (a : Int) : - iI a = iI (-a) := (Int32.ofInt_neg a).symm
theorem iI_nat (n : Nat) : nI n = iI n := (Int32.ofInt_eq_ofNat).symm
/-- the numbers of a piper -/
theorem zpip {M : zM} {p : Nat} (v : zvPipes M) (hp : p < 6) : (-99 ≤ zreed M p ∧ zreed M p ≤ 99) ∧ (1 ≤ zwarm M p ∧ zwarm M p ≤ 60) ∧ zcomes M p ≤ 90 ∧ zeach M p ≤ 9 ∧ M 94 p = iI (zreed M p) ∧ M 70 p = iI (zreed M p) ∧ M 96 p = nI (zwarm M p) ∧ M 72 p = nI (zwarm M p) ∧ M 97 p = nI (zcomes M p) ∧ M 73 p = nI (zcomes M p) ∧ (∃ a d : Nat, a ≤ 9 ∧ d ≤ 5 ∧ M 95 p = nI a ∧ M 71 p = nI a ∧ M 9 30 = nI d ∧ M 7 4 = nI d ∧ zeach M p = a - d) := by
  obtain ⟨a1, a2, a3, a4, a5, a6⟩ := v
  obtain ⟨b1, c1⟩ := a1 p hp
  obtain ⟨b2, c2⟩ := a2 p hp
  obtain ⟨b3, c3⟩ := a3 p hp
  obtain ⟨b4, c4⟩ := a4 p hp
  obtain ⟨b5, c5⟩ := a5
  obtain ⟨n2, h2, e2⟩ := zr_nat (hi := 9) c2 (by decide)
  obtain ⟨n3, h3, e3⟩ := zr_nat (hi := 60) (zr_wk c3 (by decide) (by decide)) (by decide)
  obtain ⟨n4, h4, e4⟩ := zr_nat (hi := 90) c4 (by decide)
  obtain ⟨n5, h5, e5⟩ := zr_nat (hi := 5) c5 (by decide)
  have w3 : zwarm M p = n3 := by rw [zwarm, e3, nI_toInt (by omega)]; rfl
  have w4 : zcomes M p = n4 := by rw [zcomes, e4, nI_toInt (by omega)]; rfl
  have w5 : zeach M p = n2 - n5 := by rw [zeach, e2, e5, nI_toInt (by omega), nI_toInt (by omega)]; rfl
  have l3 : 1 ≤ n3 := by
    have := c3.1
    rw [e3, nI_toInt (by omega)] at this
    omega
  refine ⟨c1, ⟨by omega, by omega⟩, by omega, by omega, iI_of _, by rw [b1]; exact iI_of _, by rw [w3, e3], by rw [b3, w3, e3], by rw [w4, e4], by rw [b4, w4, e4], n2, n5, h2, h5, e2, by rw [b2, e2], e5, by rw [b5, e5], w5⟩
/-- the pitch after d minutes -/
def zpit (M : zM) (p d : Nat) : Int := zreed M p + (zeach M p : Int) * ((if d < zwarm M p then d else zwarm M p : Nat) : Int)
theorem zpit_rng {M : zM} {p : Nat} (v : zvPipes M) (hp : p < 6) (d : Nat) : -99 ≤ zpit M p d ∧ zpit M p d ≤ 639 := by
  obtain ⟨h1, h2, -, h4, -⟩ := zpip v hp
  have hm : (if d < zwarm M p then d else zwarm M p) ≤ 60 := by split <;> omega
  have : zeach M p * (if d < zwarm M p then d else zwarm M p) ≤ 9 * 60 := Nat.mul_le_mul h4 hm
  unfold zpit
  rw [← Int.natCast_mul]
  omega
theorem s_dampRise {M : zM} {p : Nat} (v : zvPipes M) (hp : p < 6) : p_X3_dampRise (nI p) M = some (nI (zeach M p)) := by
  obtain ⟨-, -, -, -, -, -, -, -, -, -, a, d, ha, hd, -, e2, -, e4, e5⟩ := zpip v hp
  have q1 := zix (m := p) (n := 6) hp (by omega)
  rw [p_X3_dampRise]
  simp only [q1, if_false]
  rw [zcl' (by omega), e2, e4, e5]
  congr 1
  by_cases h : d < a
  · rw [if_pos (by rw [fa_lt, pk_sub (by omega), nI_toInt (by omega)]; have : ((0 : Int32)).toInt = 0 := by decide
                   omega), pk_sub (by omega)]
  · rw [if_neg (by
      rw [fa_lt, pk_sub_toInt (by omega) (by omega)]
      have : ((0 : Int32)).toInt = 0 := by decide
      omega), show a - d = 0 by omega]
    rfl
theorem s_pitchAfter {M : zM} {p d : Nat} (v : zvPipes M) (hp : p < 6) (hd : d < 2 ^ 31) : p_X3_pitchAfter (nI p) (nI d) M = some (iI (zpit M p d)) := by
  obtain ⟨h1, h2, h3, h4, e1, e2, e3, e4, e5, e6, -⟩ := zpip v hp
  have q1 := zix (m := p) (n := 6) hp (by omega)
  rw [p_X3_pitchAfter, s_dampRise v hp]
  simp only [q1, if_false, Option.bind_some]
  rw [zcl' (by omega), e2, e4]
  congr 1
  rw [zpit, ← Int.natCast_mul, ← iI_add, ← iI_nat, ← pk_mul]
  congr 2
  simp only [zLt (show zwarm M p < 2 ^ 31 by omega) hd]
  by_cases hw : zwarm M p < d
  · rw [if_pos hw, if_neg (by omega)]
  · rw [if_neg hw]
    by_cases hw2 : d < zwarm M p
    · rw [if_pos hw2]
    · rw [if_neg hw2, show d = zwarm M p by omega]
theorem m_pitchFor {M : zM} {p d : Nat} (v : zvPipes M) (hp : p < 6) (hd : d < 2 ^ 31) : p_X9_pitchFor (nI p) (nI d) M = some (iI (zpit M p d)) := by
  obtain ⟨h1, h2, h3, h4, e1, e2, e3, e4, e5, e6, a, dd, ha, hdd, f1, f2, f3, f4, f5⟩ := zpip v hp
  have q1 := zix (m := p) (n := 6) hp (by omega)
  have key : p_X9_pitchFor_28 (nI p) (nI d) (nI (zeach M p)) M = some (iI (zpit M p d)) := by
    rw [p_X9_pitchFor_28]
    simp only [q1, if_false]
    rw [zcl' (by omega), e1, e3, zpit, ← Int.natCast_mul, ← iI_add, ← iI_nat, ← pk_mul]
    simp only [zLe (show zwarm M p < 2 ^ 31 by omega) hd]
    by_cases hw : zwarm M p ≤ d
    · rw [if_pos hw, if_neg (by omega)]
    · rw [if_neg hw, if_pos (by omega)]
  rw [p_X9_pitchFor]
  simp only [q1, if_false]
  rw [zcl' (by omega), f1, f3]
  simp only [zLe (show dd < 2 ^ 31 by omega) (show a < 2 ^ 31 by omega)]
  by_cases h : dd ≤ a
  · rw [if_pos h, pk_sub h, ← f5]
    exact key
  · rw [if_neg h]
    rw [show zeach M p = 0 by omega] at key
    exact key
theorem e_pitch (x1 x2 x3 : Int32) {M : zM} (v : zInv M) : zAlikeQ (p_X8_pitch x1 x2 x3) (p_X9_pitch x1 x2 x3) M := by
  obtain ⟨v1, v2, v3, v4, v5, v6, v7⟩ := v
  by_cases h1 : 0 ≤ x1 ∧ x1 ≤ 5
  · obtain ⟨p, hp, rfl⟩ := zup (n := 5) rfl (by decide) h1
    obtain ⟨-, -, c1, -, -, -, -, -, e5, e6, -⟩ := zpip v7 (p := p) (by omega)
    have q1 := zix (m := p) (n := 6) (by omega) (by omega)
    by_cases h3 : 0 ≤ x3 ∧ x3 ≤ 150
    · obtain ⟨t, ht, rfl⟩ := zup (n := 150) rfl (by decide) h3
      by_cases h2 : nI (zcomes M p) ≤ x2 ∧ x2 ≤ nI t
      · have h20 : 0 ≤ x2 := by
          have a := h2.1
          rw [fa_le, nI_toInt (by omega)] at a
          rw [fa_le]
          have : ((0 : Int32)).toInt = 0 := by decide
          omega
        obtain ⟨s, hs, rfl⟩ := zup (n := t) rfl (by omega) ⟨h20, h2.2⟩
        have h2m : 0 ≤ nI s ∧ nI s ≤ 150 := ⟨h20, nI_le (b := 150) (by omega) (by decide)⟩
        have hnlt : ¬ nI t < nI s := by rw [zLt (by omega) (by omega)]; omega
        refine ⟨iI (zpit M p (t - s)), ?_, ?_⟩
        · simp (disch := omega) [p_X8_pitch, s_isPiper, s_isMinute, zq_0, h1, h2m, h3, hnlt, ↓zix, zcl', e6, h2.1, pk_sub, s_pitchAfter v7 (show p < 6 by omega) (show t - s < 2 ^ 31 by omega)]
        · simp (disch := omega) [p_X9_pitch, m_isPiper, s_in, zq_0, h1, h3, ↓zix, zcl', e5, h2, pk_sub, m_pitchFor v7 (show p < 6 by omega) (show t - s < 2 ^ 31 by omega)]
      · refine ⟨-2147483648, ?_, ?_⟩
        · by_cases h2m : 0 ≤ x2 ∧ x2 ≤ 150
          · by_cases hlt : nI t < x2
            · simp [p_X8_pitch, s_isPiper, s_isMinute, zq_0, h1, h2m, h3, hlt]
            · have hc : ¬ nI (zcomes M p) ≤ x2 := fun q => h2 ⟨q, znlt.mp hlt⟩
              simp (disch := omega) [p_X8_pitch, s_isPiper, s_isMinute, zq_0, h1, h2m, h3, hlt, ↓zix, zcl', e6, hc]
          · simp [p_X8_pitch, s_isPiper, s_isMinute, zq_0, h1, h2m]
        · simp (disch := omega) [p_X9_pitch, m_isPiper, s_in, zq_0, h1, h3, ↓zix, zcl', e5, h2]
    · refine ⟨-2147483648, ?_, by simp [p_X9_pitch, m_isPiper, s_in, zq_0, h1, h3]⟩
      by_cases h2m : 0 ≤ x2 ∧ x2 ≤ 150 <;> simp [p_X8_pitch, s_isPiper, s_isMinute, zq_0, h1, h2m, h3]
  · exact ⟨-2147483648, by simp [p_X8_pitch, s_isPiper, zq_0, h1], by simp [p_X9_pitch, m_isPiper, zq_0, h1]⟩
/-! harsh: together how far -/
def ztone (M : zM) (n : Nat) : Int := (M 98 n).toInt
theorem ztone_ok {M : zM} {n : Nat} (v : zvPipes M) (hn : n < 9) : (-300 ≤ ztone M n ∧ ztone M n ≤ 300) ∧ M 98 n = iI (ztone M n) ∧ M 74 n = iI (ztone M n) := by
  obtain ⟨b1, c1⟩ := v.2.2.2.2.2 n hn
  exact ⟨c1, iI_of _, by rw [b1]; exact iI_of _⟩
def zabs (z : Int) : Int := if 0 ≤ z then z else -z
/-- of the notes from i on, k of them, how far they are from the drone d with the pitch q -/
def zfar (M : zM) (q d : Int) : Nat → Nat → Int
  | 0, _ => 0
  | k + 1, i => zabs (ztone M i + q - d) + zfar M q d k (i + 1)
theorem s_harsh5 {M : zM} {d q : Int} (v : zvPipes M) (hd : -999 ≤ d ∧ d ≤ 999) (hq : -999 ≤ q ∧ q ≤ 999) : ∀ (k nn i : Nat) (a : Int), i + k = 9 → k < nn → p_X0_harshness_5 (iI d) (iI q) M nn (iI a) (nI i) = some (iI (a + zfar M q d k i)) := by
  intro k
  induction k with
  | zero =>
    intro nn i a h1 h2
    obtain ⟨n, rfl⟩ := zfuel h2
    rw [p_X0_harshness_5, show (9 : Int32) = nI 9 from rfl, if_pos (by rw [zLe (by omega) (by omega)]; omega), zfar, Int.add_zero]
  | succ k ih =>
    intro nn i a h1 h2
    obtain ⟨n, rfl⟩ := zfuel h2
    have q1 := zix (m := i) (n := 9) (by omega) (by omega)
    obtain ⟨t1, t2, t3⟩ := ztone_ok v (n := i) (by omega)
    rw [p_X0_harshness_5, show (9 : Int32) = nI 9 from rfl, if_neg (by rw [zLe (by omega) (by omega)]; omega)]
    simp only [q1, if_false]
    rw [zcl' (by omega), t3, iI_add, iI_sub, nI_1, show (0 : Int32) = iI 0 from rfl]
    simp only [iI_le (show -2147483648 ≤ (0 : Int) by omega) (by omega) (show -2147483648 ≤ ztone M i + q - d by omega) (by omega)]
    have : (if 0 ≤ ztone M i + q - d then iI (ztone M i + q - d) else iI 0 - iI (ztone M i + q - d)) = iI (zabs (ztone M i + q - d)) := by
      unfold zabs
      split
      · rfl
      · rw [iI_sub, Int.zero_sub]
    rw [this, iI_add, ih n (i + 1) _ (by omega) (by omega), zfar, Int.add_assoc]
theorem m_harsh5 {M : zM} {d q : Int} (v : zvPipes M) (hd : -999 ≤ d ∧ d ≤ 999) (hq : -999 ≤ q ∧ q ≤ 999) : ∀ (k nn i : Nat) (a : Int), i + k = 9 → k < nn → p_X9_harshOf_5 (iI d) (iI q) M nn (iI a) (nI i) = some (iI (a + zfar M q d k i)) := by
  intro k
  induction k with
  | zero =>
    intro nn i a h1 h2
    obtain ⟨n, rfl⟩ := zfuel h2
    rw [p_X9_harshOf_5, show (9 : Int32) = nI 9 from rfl, if_pos (by rw [zLe (by omega) (by omega)]; omega), zfar, Int.add_zero]
  | succ k ih =>
    intro nn i a h1 h2
    obtain ⟨n, rfl⟩ := zfuel h2
    have q1 := zix (m := i) (n := 9) (by omega) (by omega)
    obtain ⟨t1, t2, t3⟩ := ztone_ok v (n := i) (by omega)
    rw [p_X9_harshOf_5, show (9 : Int32) = nI 9 from rfl, if_neg (by rw [zLe (by omega) (by omega)]; omega)]
    simp only [q1, if_false]
    rw [zcl' (by omega), t2, iI_add, iI_sub, nI_1, show (0 : Int32) = iI 0 from rfl]
    simp only [iI_le (show -2147483648 ≤ (0 : Int) by omega) (by omega) (show -2147483648 ≤ ztone M i + q - d by omega) (by omega)]
    rw [iI_neg, iI_add, iI_add]
    by_cases h : 0 ≤ ztone M i + q - d
    · rw [if_pos h, ih n (i + 1) _ (by omega) (by omega), zfar, zabs, if_pos h, Int.add_assoc]
    · rw [if_neg h, ih n (i + 1) _ (by omega) (by omega), zfar, zabs, if_neg h, Int.add_assoc]
theorem zpitch_of {x : Int32} (h : -999 ≤ x ∧ x ≤ 999) : (-999 ≤ x.toInt ∧ x.toInt ≤ 999) ∧ x = iI x.toInt := by
  refine ⟨?_, iI_of x⟩
  have a := h.1
  have b := h.2
  rw [fa_le] at a b
  have : ((-999 : Int32)).toInt = -999 := by decide
  have : ((999 : Int32)).toInt = 999 := by decide
  omega
theorem s_harshness {M : zM} {d q : Int} (v : zvPipes M) (hd : -999 ≤ d ∧ d ≤ 999) (hq : -999 ≤ q ∧ q ≤ 999) : p_X0_harshness (iI d) (iI q) M = some (iI (zfar M q d 9 0)) := by
  have := s_harsh5 v hd hq 9 5000 0 0 (by omega) (by omega)
  rw [Int.zero_add] at this
  exact this
theorem m_harshOf {M : zM} {d q : Int} (v : zvPipes M) (hd : -999 ≤ d ∧ d ≤ 999) (hq : -999 ≤ q ∧ q ≤ 999) : p_X9_harshOf (iI d) (iI q) M = some (iI (zfar M q d 9 0)) := by
  have := m_harsh5 v hd hq 9 5000 0 0 (by omega) (by omega)
  rw [Int.zero_add] at this
  exact this
theorem e_harsh (x1 x2 : Int32) {M : zM} (v : zInv M) : zAlikeQ (p_X8_harsh x1 x2) (p_X9_harsh x1 x2) M := by
  obtain ⟨v1, v2, v3, v4, v5, v6, v7⟩ := v
  by_cases h1 : -999 ≤ x1 ∧ x1 ≤ 999
  · by_cases h2 : -999 ≤ x2 ∧ x2 ≤ 999
    · obtain ⟨a1, a2⟩ := zpitch_of h1
      obtain ⟨b1, b2⟩ := zpitch_of h2
      have c1 := s_harshness v7 a1 b1
      have c2 := m_harshOf v7 a1 b1
      rw [← a2, ← b2] at c1 c2
      exact ⟨_, by simp [p_X8_harsh, s_isPitch, zq_0, h1, h2, c1]; rfl, by simp [p_X9_harsh, s_in, zq_0, h1, h2, c2]⟩
    · exact ⟨-3, by simp [p_X8_harsh, s_isPitch, zq_0, h1, h2], by simp [p_X9_harsh, s_in, zq_0, h1, h2]⟩
  · exact ⟨-3, by simp [p_X8_harsh, s_isPitch, zq_0, h1], by simp [p_X9_harsh, s_in, zq_0, h1]⟩
