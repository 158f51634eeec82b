/-! ===== bits; what FITS, what HOLDS ===== -/
theorem bt_1 (j : Nat) : bt 1 j = decide (j = 0) := by
  rcases Nat.lt_or_ge j 32 with h | h
  · exact (by decide +kernel : ∀ j, j < 32 → bt 1 j = decide (j = 0)) j h
  · rw [b_big h, decide_eq_false (by omega)]
theorem zhb {x : Int32} {i : Nat} (hi : i < 32) : (x >>> (nI i &&& 31)) &&& (1 : Int32) = if bt x i then 1 else 0 := by
  apply b_ext
  intro j hj
  rw [b_and, bt_1]
  by_cases h : j = 0
  · subst h
    rw [b_sshr i hi x (by omega), if_pos (by omega)]
    by_cases hb : bt x i = true
    · simp [hb, bt_1]
    · simp [hb, b_0]
  · by_cases hb : bt x i = true
    · simp [hb, h, bt_1]
    · simp [hb, h, b_0]
theorem s_hasBit {x : Int32} {i : Nat} (hi : i < 32) : p_X8_hasBit x (nI i) = some (zq (bt x i = true)) := by
  rw [p_X8_hasBit, zhb hi]
  by_cases hb : bt x i = true
  · simp [hb, zq]
  · simp [hb, zq]
theorem bt_nI {n i : Nat} (hi : i < 32) : bt (nI n) i = n.testBit i := by
  show (BitVec.ofNat 32 n).getLsbD i = _
  rw [BitVec.getLsbD_ofNat]
  simp [hi]
theorem bt_big {x : Int32} {b : Nat} (h : zr 0 511 x) (hb : 9 ≤ b) : bt x b = false := by
  obtain ⟨n, hn, rfl⟩ := zr_nat (hi := 511) h (by decide)
  rcases Nat.lt_or_ge b 32 with h1 | h1
  · rw [bt_nI h1]
    apply Nat.testBit_lt_two_pow
    have : 2 ^ 9 ≤ 2 ^ b := Nat.pow_le_pow_right (by decide) hb
    omega
  · exact b_big h1
/-- a bit taken away -/
theorem bt_less {x : Int32} {a b : Nat} (ha : a < 32) (hb : b < 32) : bt (x &&& (((1 : Int32) <<< (nI a &&& 31)) ^^^ (-1 : Int32))) b = (bt x b && decide (a ≠ b)) := by
  rw [b_and, b_xor, b_shl a ha _ hb, b_m1 b hb, bt_1]
  congr 1
  by_cases h1 : a ≤ b
  · by_cases h2 : a = b
    · subst h2
      simp
    · simp [h1, h2, show b - a ≠ 0 by omega]
  · simp [h1, show a ≠ b by omega]
def aI (p : Nat) : Int32 := if p = 9 then -1 else nI p
theorem aI_9 : aI 9 = -1 := rfl
theorem aI_n {p : Nat} (h : p < 9) : aI p = nI p := by rw [aI, if_neg (by omega)]
theorem aI_ne {p a : Nat} (hp : p ≤ 9) (ha : a < 9) : (nI a = aI p) = (a = p) := by
  rcases Nat.lt_or_ge p 9 with h | h
  · rw [aI_n h, zEqn (by omega) (by omega)]
  · have : p = 9 := by omega
    subst this
    rw [aI_9, zm1 (by omega)]
    simp
    omega
def zch (g : Nat → Int32) (b : Int32) : Nat → Nat → Int32 → Bool
  | 0, _, last => decide (¬ last = b)
  | k + 1, i, last => decide (¬ g i = last) && zch g b k (i + 1) (g i)
def zrep (g : Nat → Int32) : Nat → Nat → Bool
  | 0, _ => false
  | k + 1, i => decide (g i = g (i - 1)) || zrep g k (i + 1)
theorem zch_rep (g : Nat → Int32) (b : Int32) : ∀ (k i : Nat), 1 ≤ i → zch g b k i (g (i - 1)) = (!zrep g k i && decide (¬ g (i + k - 1) = b))
  | 0, i, h => by simp [zch, zrep]
  | k + 1, i, h => by
    have ih := zch_rep g b k (i + 1) (by omega)
    rw [Nat.add_sub_cancel] at ih
    rw [zch, zrep, ih, show i + 1 + k - 1 = i + (k + 1) - 1 by omega]
    by_cases h1 : g i = g (i - 1) <;> simp [h1]
/-- graces of a movement, and how many -/
abbrev zg (M : zM) (m : Nat) : Nat → Int32 := fun i => M 76 (4 * m + i)
def zn (M : zM) (m : Nat) : Nat := (M 75 m).toInt.toNat
theorem zn_ok {M : zM} {m : Nat} (v : zvMov M) (hm : m < 8) : zn M m ≤ 4 ∧ M 75 m = nI (zn M m) ∧ M 10 m = nI (zn M m) := by
  obtain ⟨n, hn, e⟩ := zr_nat (hi := 4) (v.1 m hm).2 (by decide)
  have : zn M m = n := by rw [zn, e, nI_toInt (by omega)]; rfl
  rw [this, (v.1 m hm).1, e]
  exact ⟨hn, rfl, rfl⟩
def zfit (M : zM) (m p b : Nat) : Bool := (decide (p = 9) || bt (M 77 m) p) && bt (M 78 m) b && zch (zg M m) (nI b) (zn M m) 0 (aI p)
theorem m_fits38 {M : zM} {m : Nat} {b : Int32} (v : zvMov M) (hm : m < 8) : ∀ (k nn i : Nat) (last : Int32), i + k = zn M m → k < nn → p_X9_fitsSo_38 (nI m) b M nn last (nI i) = some (zq (zch (zg M m) b k i last = true)) := by
  obtain ⟨h4, e, -⟩ := zn_ok v hm
  intro k
  induction k with
  | zero =>
    intro nn i last h1 h2
    obtain ⟨n, rfl⟩ := zfuel h2
    rw [p_X9_fitsSo_38, if_neg (by rw [zix hm (by omega)]; exact id), zcl' (by omega), e, if_pos (by rw [zLe (by omega) (by omega)]; omega)]
    by_cases h : last = b <;> simp [zch, h, zq]
  | succ k ih =>
    intro nn i last h1 h2
    obtain ⟨n, rfl⟩ := zfuel h2
    rw [p_X9_fitsSo_38, if_neg (by rw [zix hm (by omega)]; exact id), zcl' (by omega), e, if_neg (by rw [zLe (by omega) (by omega)]; omega), z4, if_neg (by rw [zix (by omega) (by omega)]; exact id), zcl' (by omega)]
    by_cases h : M 76 (4 * m + i) = last
    · rw [if_pos h]
      simp [zch, h, zq]
    · rw [if_neg h, if_neg (by have := zix (m := 4 * m + i) (n := 32) (by omega) (by omega); rw [zcl' (by omega)] at this; rw [this]; exact id), nI_1, ih n (i + 1) _ (by omega) (by omega)]
      simp [zch, h]
theorem m_fitsSo {M : zM} {m p b : Nat} (v : zvMov M) (hm : m < 8) (hp : p ≤ 9) (hb : b < 9) : p_X9_fitsSo (nI m) (aI p) (nI b) M = some (zq (zfit M m p b = true)) := by
  obtain ⟨h4, e, -⟩ := zn_ok v hm
  have key : p_X9_fitsSo_17 (nI m) (aI p) (nI b) M = some (zq ((bt (M 78 m) b && zch (zg M m) (nI b) (zn M m) 0 (aI p)) = true)) := by
    rw [p_X9_fitsSo_17, if_neg (by rw [zix hm (by omega)]; exact id), zcl' (by omega), zhb (by omega)]
    by_cases h : bt (M 78 m) b = true
    · rw [if_pos h, if_neg (by decide)]
      have := m_fits38 (b := nI b) v hm (zn M m) 5000 0 (aI p) (by omega) (by omega)
      rw [show nI 0 = 0 from rfl] at this
      rw [this]
      simp [h]
    · rw [if_neg h, if_pos rfl]
      simp [h, zq]
  rw [p_X9_fitsSo]
  rcases Nat.lt_or_ge p 9 with h | h
  · rw [aI_n h, if_neg (by rw [znn (by omega)]; exact id), if_neg (by rw [zix hm (by omega)]; exact id), zcl' (by omega), zhb (by omega)]
    rw [aI_n h] at key
    by_cases h2 : bt (M 77 m) p = true
    · rw [if_pos h2, if_neg (by decide), key]
      simp [zfit, h2, aI_n h]
    · rw [if_neg h2, if_pos rfl]
      simp [zfit, h2, zq, show ¬ p = 9 by omega]
  · have : p = 9 := by omega
    subst this
    rw [aI_9, if_pos (by decide)]
    rw [aI_9] at key
    rw [key]
    simp [zfit, aI_9]
theorem s_repeats {M : zM} {m : Nat} (v : zvMov M) (hm : m < 8) : ∀ (k nn i : Nat), 1 ≤ i → i + k = zn M m → k < nn → p_X2_repeatsGrace_2 (nI m) M nn (nI i) = some (zq (zrep (zg M m) k i = true)) := by
  obtain ⟨h4, -, e⟩ := zn_ok v hm
  intro k
  induction k with
  | zero =>
    intro nn i h0 h1 h2
    obtain ⟨n, rfl⟩ := zfuel h2
    rw [p_X2_repeatsGrace_2, if_neg (by rw [zix hm (by omega)]; exact id), zcl' (by omega), e, if_pos (by rw [zLe (by omega) (by omega)]; omega)]
    simp [zrep, zq]
  | succ k ih =>
    intro nn i h0 h1 h2
    obtain ⟨n, rfl⟩ := zfuel h2
    have ei : nI i - (1 : Int32) = nI (i - 1) := by
      rw [show (1 : Int32) = nI 1 from rfl, pk_sub h0]
    have q1 := zix (m := m) (n := 8) hm (by omega)
    have q2 := zix (m := i) (n := 4) (by omega) (by omega)
    have q3 := zix (m := i - 1) (n := 4) (by omega) (by omega)
    rw [p_X2_repeatsGrace_2, ei]
    simp only [q1, q2, q3, if_false]
    rw [zcl' (by omega), e, if_neg (by rw [zLe (by omega) (by omega)]; omega), zcl' (by omega), zcl' (by omega), (v.2.1 m i hm (by omega)).1, (v.2.1 m (i - 1) hm (by omega)).1]
    by_cases h : M 76 (4 * m + i) = M 76 (4 * m + (i - 1))
    · rw [if_pos h]
      simp [zrep, h, zq]
    · rw [if_neg h, nI_1, ih n (i + 1) (by omega) (by omega) (by omega)]
      simp [zrep, h]
/-- what leadsTo answers: its bits are the notes that the movement fits to -/
theorem s_leadsTo {M : zM} {m p : Nat} (v : zvMov M) (hm : m < 8) (hp : p ≤ 9) : ∃ L, p_X2_leadsTo (nI m) (aI p) M = some L ∧ ∀ b, b < 32 → bt L b = (decide (b < 9) && zfit M m p b) := by
  obtain ⟨h4, e, e10⟩ := zn_ok v hm
  have hto := (v.2.2.2.1 m hm)
  have hfr := (v.2.2.1 m hm)
  have q1 := zix (m := m) (n := 8) hm (by omega)
  have hbig : ∀ b, 9 ≤ b → bt (M 78 m) b = false := fun b hb => bt_big hto.2 hb
  have key : ∃ L, p_X2_leadsTo_20 (nI m) (aI p) M = some L ∧ ∀ b, b < 32 → bt L b = (decide (b < 9) && (bt (M 78 m) b && zch (zg M m) (nI b) (zn M m) 0 (aI p))) := by
    rw [p_X2_leadsTo_20]
    simp only [q1, if_false]
    rw [zcl' (by omega), e10, hto.1]
    by_cases h0 : zn M m = 0
    · rw [h0, if_pos (show nI 0 = 0 from rfl)]
      rcases Nat.lt_or_ge p 9 with h | h
      · rw [aI_n h, if_neg (by rw [zm1 (by omega)]; exact id)]
        refine ⟨_, rfl, fun b hb => ?_⟩
        rw [bt_less (by omega) hb]
        rcases Nat.lt_or_ge b 9 with hb9 | hb9
        · simp only [zch, hb9, decide_true, Bool.true_and, zEqn (show p < 2 ^ 31 by omega) (show b < 2 ^ 31 by omega)]
        · simp [hbig b hb9]
      · have : p = 9 := by omega
        subst this
        rw [aI_9, if_pos rfl]
        refine ⟨_, rfl, fun b hb => ?_⟩
        rcases Nat.lt_or_ge b 9 with hb9 | hb9
        · have : ¬ (-1 : Int32) = nI b := fun q => by
            have := zm1 (n := b) (by omega)
            rw [← q] at this
            simp at this
          simp [zch, hb9, this]
        · simp [hbig b hb9]
    · have hz : ¬ nI (zn M m) = 0 := nI_ne0 (by omega) (by omega)
      obtain ⟨k, hk⟩ : ∃ k, zn M m = k + 1 := ⟨zn M m - 1, by omega⟩
      rw [if_neg hz, show ((0 : Int32)).toNatClampNeg = 0 from rfl, (v.2.1 m 0 hm (by omega)).1]
      have hch : ∀ b : Int32, zch (zg M m) b (zn M m) 0 (aI p) = (decide (¬ M 76 (4 * m + 0) = aI p) && (!zrep (zg M m) k 1 && decide (¬ M 76 (4 * m + k) = b))) := by
        intro b
        rw [hk, zch]
        have := zch_rep (zg M m) b k 1 (by omega)
        rw [show 1 - 1 = 0 from rfl, show 1 + k - 1 = k by omega] at this
        rw [this]
      by_cases h1 : aI p = M 76 (4 * m + 0)
      · rw [if_pos h1]
        refine ⟨0, rfl, fun b hb => ?_⟩
        rw [hch, b_0, ← h1]
        simp
      · rw [if_neg h1]
        have hr : p_X2_repeatsGrace (nI m) M = some (zq (zrep (zg M m) k 1 = true)) := s_repeats v hm k 5000 1 (by omega) (by omega) (by omega)
        rw [hr]
        simp only [Option.bind_some, zq_0]
        by_cases h2 : zrep (zg M m) k 1 = true
        · rw [if_neg (by simpa using h2)]
          refine ⟨0, rfl, fun b hb => ?_⟩
          rw [hch, b_0, h2]
          simp
        · rw [if_pos h2]
          have es : nI (zn M m) - (1 : Int32) = nI k := by rw [hk, nI_pred]
          have q3 := zix (m := k) (n := 4) (by omega) (by omega)
          rw [es]
          simp only [q3, if_false]
          rw [zcl' (by omega), (v.2.1 m k hm (by omega)).1]
          obtain ⟨g, hg, eg⟩ := zr_nat (hi := 8) (v.2.1 m k hm (by omega)).2 (by decide)
          rw [eg]
          refine ⟨_, rfl, fun b hb => ?_⟩
          rw [bt_less (by omega) hb, hch, eg]
          rcases Nat.lt_or_ge b 9 with hb9 | hb9
          · have h3 : decide (¬ M 76 (4 * m + 0) = aI p) = true := by
              rw [decide_eq_true_eq]
              exact fun q => h1 q.symm
            rw [h3]
            simp only [h2, hb9, decide_true, Bool.true_and, zEqn (show g < 2 ^ 31 by omega) (show b < 2 ^ 31 by omega), Bool.not_false]
          · simp [hbig b hb9]
  obtain ⟨L, hL, hbits⟩ := key
  rw [p_X2_leadsTo]
  rcases Nat.lt_or_ge p 9 with h | h
  · rw [aI_n h] at hL hbits ⊢
    rw [if_neg (by rw [zm1 (by omega)]; exact id)]
    simp only [q1, if_false]
    rw [zcl' (by omega), hfr.1, s_hasBit (by omega)]
    simp only [Option.bind_some, zq_0]
    by_cases h2 : bt (M 77 m) p = true
    · rw [if_neg (by simpa using h2)]
      refine ⟨L, hL, fun b hb => ?_⟩
      rw [hbits b hb]
      simp [zfit, h2, aI_n h]
    · rw [if_pos h2]
      refine ⟨0, rfl, fun b hb => ?_⟩
      rw [b_0]
      simp [zfit, h2, show ¬ p = 9 by omega]
  · have : p = 9 := by omega
    subst this
    rw [aI_9] at hL hbits ⊢
    rw [if_pos rfl]
    refine ⟨L, hL, fun b hb => ?_⟩
    rw [hbits b hb]
    simp [zfit, aI_9]
theorem s_joins {M : zM} {m p b : Nat} (v : zvMov M) (hm : m < 8) (hp : p ≤ 9) (hb : b < 9) : p_X2_joins (nI m) (aI p) (nI b) M = some (zq (zfit M m p b = true)) := by
  obtain ⟨L, hL, hbits⟩ := s_leadsTo (M := M) (p := p) v hm hp
  rw [p_X2_joins, hL]
  simp only [Option.bind_some]
  rw [s_hasBit (by omega)]
  simp only [Option.bind_some, zq_01, if_true]
  rw [hbits b (by omega)]
  simp [hb]
def zAlikeQ (a b : zM → Option Int32) (M : zM) : Prop := ∃ r, a M = some r ∧ b M = some r
theorem aI_of {x : Int32} (h : -1 ≤ x ∧ x ≤ 8) : ∃ p, p ≤ 9 ∧ x = aI p := by
  by_cases e : x = -1
  · exact ⟨9, by omega, by rw [e]; rfl⟩
  · have h0 : 0 ≤ x := by
      have := h.1
      rw [fa_le] at this ⊢
      rw [fa_eq] at e
      have e1 : ((-1 : Int32)).toInt = -1 := by decide
      have e0 : ((0 : Int32)).toInt = 0 := by decide
      omega
    obtain ⟨p, hp, rfl⟩ := zup (n := 8) rfl (by decide) ⟨h0, h.2⟩
    exact ⟨p, by omega, (aI_n (by omega)).symm⟩
theorem e_fits (x1 x2 x3 : Int32) {M : zM} (v : zInv M) : zAlikeQ (p_X8_fits x1 x2 x3) (p_X9_fits x1 x2 x3) M := by
  obtain ⟨v1, v2, v3, v4, v5, v6, v7⟩ := v
  by_cases h1 : 0 ≤ x1 ∧ x1 ≤ 7
  · by_cases h3 : 0 ≤ x3 ∧ x3 ≤ 8
    · by_cases h2 : -1 ≤ x2 ∧ x2 ≤ 8
      · obtain ⟨m, hm, rfl⟩ := zup (n := 7) rfl (by decide) h1
        obtain ⟨b, hb, rfl⟩ := zup (n := 8) rfl (by decide) h3
        obtain ⟨p, hp, rfl⟩ := aI_of h2
        refine ⟨zq (zfit M m p b = true), ?_, ?_⟩
        · have hj := s_joins (m := m) (p := p) (b := b) v1 (by omega) hp (by omega)
          have h29 : p_X8_fits_29 (nI m) (aI p) (nI b) M = some (zq (zfit M m p b = true)) := by
            rw [p_X8_fits_29, hj]
            simp only [Option.bind_some, zq_0]
            by_cases hz : zfit M m p b = true <;> simp [hz, zq]
          rcases Nat.lt_or_ge p 9 with h | h
          · have hn : 0 ≤ nI p ∧ nI p ≤ 8 := ⟨nI_pos' (by omega), nI_le (b := 8) (by omega) (by decide)⟩
            simp (disch := omega) [p_X8_fits, s_isMovement, s_isNote, zq_0, h1, h3, aI_n h, zm1, hn, aI_n h ▸ h29]
          · have : p = 9 := by omega
            subst this
            rw [aI_9] at h29 ⊢
            simp [p_X8_fits, s_isMovement, s_isNote, zq_0, h1, h3, h29]
        · simp [p_X9_fits, m_isMovement, m_isNote, s_in, zq_0, h1, h3, h2, m_fitsSo (m := m) (p := p) (b := b) v1 (by omega) hp (by omega)]
          by_cases hz : zfit M m p b = true <;> simp [hz, zq]
      · have g1 : ¬ x2 = -1 := fun q => h2 (by rw [q]; decide)
        have g2 : ¬ (0 ≤ x2 ∧ x2 ≤ 8) := fun q => h2 ⟨by have := q.1; rw [fa_le] at this ⊢; exact Int.le_trans (by decide) this, q.2⟩
        refine ⟨-2, ?_, ?_⟩ <;> simp [p_X8_fits, p_X9_fits, s_isMovement, m_isMovement, s_isNote, m_isNote, s_in, zq_0, h1, h3, h2, g1, g2]
    · refine ⟨-2, ?_, ?_⟩
      · simp [p_X8_fits, s_isMovement, s_isNote, zq_0, h1, h3]
      · by_cases h2 : -1 ≤ x2 ∧ x2 ≤ 8 <;> simp [p_X9_fits, m_isMovement, m_isNote, s_in, zq_0, h1, h3, h2]
  · refine ⟨-2, ?_, ?_⟩ <;> simp [p_X8_fits, p_X9_fits, s_isMovement, m_isMovement, zq_0, h1]
