/-! ===== grounds: where a cell comes from ===== -/
def zps (M : zM) (R : Nat) : Nat := (M 86 R).toInt.toNat
def zpt (M : zM) (R l : Nat) : Nat := (M 87 (4 * R + l)).toInt.toNat
theorem zps_ok {M : zM} {R : Nat} (v : zvRules M) (hR : R < 5) : 1 ≤ zps M R ∧ zps M R ≤ 4 ∧ M 86 R = nI (zps M R) ∧ M 37 R = nI (zps M R) := by
  have h := v.1 R hR
  obtain ⟨n, hn, e⟩ := zr_nat (hi := 4) (zr_wk h.2 (by decide) (by decide)) (by decide)
  have e2 : zps M R = n := by rw [zps, e, nI_toInt (by omega)]; rfl
  have := h.2.1
  rw [e, nI_toInt (by omega)] at this
  rw [e2, h.1, e]
  exact ⟨by omega, hn, rfl, rfl⟩
theorem zpt_ok {M : zM} {R l : Nat} (v : zvRules M) (hR : R < 5) (hl : l < 4) : zpt M R l ≤ 10 ∧ M 87 (4 * R + l) = nI (zpt M R l) ∧ M (39 + R) l = nI (zpt M R l) := by
  have h := v.2 R l hR hl
  obtain ⟨n, hn, e⟩ := zr_nat (hi := 10) h.2 (by decide)
  have e2 : zpt M R l = n := by rw [zpt, e, nI_toInt (by omega)]; rfl
  rw [e2, h.1, e]
  exact ⟨hn, rfl, rfl⟩
/-- the note and the part that a cell is of -/
def zso (f : Nat → Nat) : Nat → Nat → Nat → Option (Nat × Nat)
  | 0, _, _ => none
  | k + 1, i, left => if left < f i then some (i, left) else zso f k (i + 1) (left - f i)
theorem zso_rng {f : Nat → Nat} {q : Nat × Nat} : ∀ (k i left : Nat), zso f k i left = some q → i ≤ q.1 ∧ q.1 < i + k ∧ q.2 < f q.1
  | 0, i, left, h => by simp [zso] at h
  | k + 1, i, left, h => by
    rw [zso] at h
    split at h
    · next hl =>
      cases h
      exact ⟨Nat.le_refl i, by omega, hl⟩
    · obtain ⟨a, b, c⟩ := zso_rng k (i + 1) _ h
      exact ⟨by omega, by omega, c⟩
theorem zso_at {f : Nat → Nat} {l : Nat} : ∀ (d k i : Nat), d < k → l < f (i + d) → zso f k i (zsg (fun t => f (i + t)) d + l) = some (i + d, l)
  | 0, k, i, hd, hl => by
    obtain ⟨k', rfl⟩ : ∃ k', k = k' + 1 := ⟨k - 1, by omega⟩
    rw [zso, zsg, Nat.zero_add, if_pos (by simpa using hl)]
    rfl
  | d + 1, k, i, hd, hl => by
    obtain ⟨k', rfl⟩ : ∃ k', k = k' + 1 := ⟨k - 1, by omega⟩
    have e : zsg (fun t => f (i + t)) (d + 1) = f i + zsg (fun t => f (i + 1 + t)) d := by
      rw [zsg_head]
      congr 1
      apply zsg_congr
      intro t _
      rw [show i + (t + 1) = i + 1 + t by omega]
    rw [zso, e, if_neg (by omega), show f i + zsg (fun t => f (i + 1 + t)) d + l - f i = zsg (fun t => f (i + 1 + t)) d + l by omega, zso_at d k' (i + 1) (by omega) (by rw [show i + 1 + d = i + (d + 1) by omega]; exact hl), show i + 1 + d = i + (d + 1) by omega]
abbrev zcf (M : zM) (R c : Nat) : Nat → Nat := fun k => zcnt (fun k => c.testBit k) (zps M R) k
theorem zcf_rng {M : zM} {R c k : Nat} (v : zvRules M) (hR : R < 5) : 1 ≤ zcf M R c k ∧ zcf M R c k ≤ 4 := by
  obtain ⟨h1, h2, -, -⟩ := zps_ok v hR
  unfold zcf zcnt
  split <;> omega
theorem zcnts_eq (f : Nat → Bool) (n : Nat) : ∀ k, zcnts f n k = zsg (fun k => zcnt f n k) k
  | 0 => rfl
  | k + 1 => by rw [zcnts, zsg, zcnts_eq f n k]
/-- the part of a cell of note i: its own note (9) where it is a cadence -/
def zpa (M : zM) (R c i l : Nat) : Nat := if c.testBit i then 9 else zpt M R l
/-- as the class counts: a note, or 16 and a note's number -/
def zsv (M : zM) (R c n i l : Nat) : Nat := if zpa M R c i l = 9 then 16 + i else if zpa M R c i l = 10 then 16 + (i + 1) % n else zpa M R c i l
theorem zmod1 {i n : Nat} (h : i < n) : (i + 1) % n = if n ≤ i + 1 then 0 else i + 1 := by
  split
  · rw [show i + 1 = n by omega, Nat.mod_self]
  · exact Nat.mod_eq_of_lt (by omega)
theorem s_sourceOf {p i n : Nat} (hi : i < n) (hn : n ≤ 16) (hp : p ≤ 10) : p_X4_sourceOf (nI p) (nI i) (nI n) = some (nI (if p = 9 then 16 + i else if p = 10 then 16 + (i + 1) % n else p)) := by
  rw [p_X4_sourceOf, show (9 : Int32) = nI 9 from rfl, show (10 : Int32) = nI 10 from rfl, show (16 : Int32) = nI 16 from rfl, nI_1, show (0 : Int32) = nI 0 from rfl, nI_add, nI_add, nI_add, zmod1 hi]
  simp only [zEqn (show p < 2 ^ 31 by omega) (show 9 < 2 ^ 31 by omega), zEqn (show p < 2 ^ 31 by omega) (show 10 < 2 ^ 31 by omega), zLe (show n < 2 ^ 31 by omega) (show i + 1 < 2 ^ 31 by omega)]
  by_cases h1 : p = 9
  · simp [h1]
  · by_cases h2 : p = 10
    · by_cases h3 : n ≤ i + 1 <;> simp [h2, h3]
    · simp [h1, h2]
def eV (M : zM) (R c n : Nat) : Option (Nat × Nat) → Int32
  | none => -1
  | some q => nI (zsv M R c n q.1 q.2)
theorem s_source7 {M : zM} {R c n : Nat} (v : zvRules M) (hR : R < 5) (hc : c ≤ 65535) (hn : n ≤ 16) : ∀ (k nn i left : Nat), i + k = n → k < nn → left < 2 ^ 31 → p_X4_source_7 (nI R) (nI n) (nI c) M nn (nI left) (nI i) = some (eV M R c n (zso (zcf M R c) k i left)) := by
  have q1 := zix (m := R) (n := 5) hR (by omega)
  obtain ⟨p1, p2, p3, p4⟩ := zps_ok v hR
  intro k
  induction k with
  | zero =>
    intro nn i left h1 h2 h3
    obtain ⟨m, rfl⟩ := zfuel h2
    rw [p_X4_source_7, if_pos (by rw [zLe (by omega) (by omega)]; omega)]
    rfl
  | succ k ih =>
    intro nn i left h1 h2 h3
    obtain ⟨m, rfl⟩ := zfuel h2
    rw [p_X4_source_7, if_neg (by rw [zLe (by omega) (by omega)]; omega), s_hasBit (by omega), bt_nI (by omega)]
    simp only [Option.bind_some, zq_0, q1, if_false]
    rw [zcl' (by omega), p4]
    have key : ∀ t : Nat, t = zcf M R c i → p_X4_source_36 (p_X4_source_7 (nI R) (nI n) (nI c) M m) (nI R) (nI n) (nI c) (nI left) (nI i) (zq (c.testBit i = true)) (nI t) M = some (eV M R c n (zso (zcf M R c) (k + 1) i left)) := by
      intro t ht
      have ht4 := zcf_rng (c := c) (k := i) v hR
      rw [p_X4_source_36, zso]
      simp only [zLe (show t < 2 ^ 31 by omega) h3]
      by_cases hl : t ≤ left
      · rw [if_pos hl, if_neg (by omega), pk_sub hl, nI_1, ih m (i + 1) (left - t) (by omega) (by omega) (by omega), ht]
      · rw [if_neg hl, if_pos (show left < zcf M R c i by omega)]
        simp only [zq_0, q1, if_false]
        by_cases hb : c.testBit i = true
        · have h9 := s_sourceOf (p := 9) (i := i) (n := n) (by omega) hn (by omega)
          rw [if_neg (by simpa using hb), show (9 : Int32) = nI 9 from rfl, h9]
          simp only [Option.bind_some]
          simp [eV, zsv, zpa, hb]
        · have hz : zcf M R c i = zps M R := by
            unfold zcf zcnt
            rw [if_neg hb]
          have q2 := zix (m := left) (n := 4) (by omega) (by omega)
          obtain ⟨t1, t2, t3⟩ := zpt_ok v hR (l := left) (by omega)
          rw [if_pos hb]
          simp only [q2, if_false]
          rw [zcl' (by omega), zcl' (by omega), t3, s_sourceOf (by omega) hn t1]
          simp only [Option.bind_some]
          simp [eV, zsv, zpa, hb]
    by_cases hb : c.testBit i = true
    · rw [if_neg (by simpa using hb)]
      exact key 1 (by unfold zcf zcnt; rw [if_pos hb])
    · rw [if_pos hb]
      exact key (zps M R) (by unfold zcf zcnt; rw [if_neg hb])
theorem s_source {M : zM} {R c n j : Nat} (v : zvRules M) (hR : R < 5) (hc : c ≤ 65535) (hn : n ≤ 16) (hj : j < 2 ^ 31) : p_X4_source (nI R) (nI n) (nI c) (nI j) M = some (eV M R c n (zso (zcf M R c) n 0 j)) := s_source7 v hR hc hn n 5000 0 j (by omega) (by omega) hj
theorem m_cellsOf {M : zM} {R c k : Nat} (v : zvRules M) (hR : R < 5) (hk : k < 32) : p_X9_cellsOf (nI R) (nI c) (nI k) M = some (nI (zcf M R c k)) := by
  have q1 := zix (m := R) (n := 5) hR (by omega)
  obtain ⟨p1, p2, p3, p4⟩ := zps_ok v hR
  rw [p_X9_cellsOf]
  simp only [zbit1 hk, bt_nI hk, q1, if_false]
  rw [zcl' (by omega), p3]
  unfold zcf zcnt
  by_cases hb : c.testBit k = true
  · rw [if_pos hb, if_pos hb]
    rfl
  · rw [if_neg hb, if_neg hb]
theorem m_cellOf {M : zM} {R c k l : Nat} {x y : Int32} (v : zvRules M) (hR : R < 5) (hk : k < 32) (hl : c.testBit k = true ∨ l < 4) : p_X9_cellOf (nI R) (nI c) (nI k) (nI l) x y M = some (if zpa M R c k l = 9 then x else if zpa M R c k l = 10 then y else nI (zpa M R c k l)) := by
  rw [p_X9_cellOf]
  simp only [zbit1 hk, bt_nI hk]
  by_cases hb : c.testBit k = true
  · rw [if_pos hb, p_X9_cellOf_25, if_pos rfl]
    simp [zpa, hb]
  · have hl4 : l < 4 := hl.resolve_left hb
    have q1 := zix (m := 4 * R + l) (n := 20) (by omega) (by omega)
    obtain ⟨t1, t2, t3⟩ := zpt_ok v hR hl4
    rw [if_neg hb, z4]
    simp only [q1, if_false]
    rw [zcl' (by omega), t2, p_X9_cellOf_25, show (9 : Int32) = nI 9 from rfl, show (10 : Int32) = nI 10 from rfl]
    simp only [zEqn (show zpt M R l < 2 ^ 31 by omega) (show 9 < 2 ^ 31 by omega), zEqn (show zpt M R l < 2 ^ 31 by omega) (show 10 < 2 ^ 31 by omega)]
    have e : zpa M R c k l = zpt M R l := by rw [zpa, if_neg hb]
    rw [e]
    split
    · rfl
    · split <;> rfl
theorem zcf_lt {M : zM} {R c k l : Nat} (v : zvRules M) (hR : R < 5) (h : l < zcf M R c k) : c.testBit k = true ∨ l < 4 := by
  have := zcf_rng (c := c) (k := k) v hR
  exact Or.inr (by omega)
theorem zpa_rng {M : zM} {R c k l : Nat} (v : zvRules M) (hR : R < 5) (h : l < zcf M R c k) : zpa M R c k l ≤ 10 := by
  have h4 := zcf_rng (c := c) (k := k) v hR
  unfold zpa
  split
  · omega
  · exact (zpt_ok v hR (by omega)).1
/-! varied -/
theorem zground {M : zM} (v : zvGround M) : ∃ n, n ≤ 16 ∧ M 9 16 = nI n ∧ M 5 2 = nI n := by
  obtain ⟨n, hn, e⟩ := zr_nat (hi := 16) v.1.2 (by decide)
  exact ⟨n, hn, e, v.1.1.trans e⟩
/-- as it is answered -/
def eG (M : zM) (R c n : Nat) : Option (Nat × Nat) → Int32
  | none => -1
  | some q => if zpa M R c q.1 q.2 = 9 then M 88 q.1 else if zpa M R c q.1 q.2 = 10 then M 88 ((q.1 + 1) % n) else nI (zpa M R c q.1 q.2)
theorem m_varied33 {M : zM} {R c n : Nat} (v : zvRules M) (hR : R < 5) (hn : n ≤ 16) (e : M 9 16 = nI n) : ∀ (k nn i left : Nat), i + k = n → k < nn → left < 2 ^ 31 → p_X9_varied_33 (nI R) (nI c) M nn (nI left) (nI i) = some (eG M R c n (zso (zcf M R c) k i left)) := by
  intro k
  induction k with
  | zero =>
    intro nn i left h1 h2 h3
    obtain ⟨m, rfl⟩ := zfuel h2
    rw [p_X9_varied_33, e, if_pos (by rw [zLe (by omega) (by omega)]; omega)]
    rfl
  | succ k ih =>
    intro nn i left h1 h2 h3
    obtain ⟨m, rfl⟩ := zfuel h2
    have h4 := zcf_rng (c := c) (k := i) v hR
    have q1 := zix (m := i) (n := 16) (by omega) (by omega)
    have q2 := zix (m := (i + 1) % n) (n := 16) (by have := Nat.mod_lt (i + 1) (show 0 < n by omega); omega) (by omega)
    rw [p_X9_varied_33, e, if_neg (by rw [zLe (by omega) (by omega)]; omega), m_cellsOf v hR (by omega), zso]
    simp only [Option.bind_some, zLe (show zcf M R c i < 2 ^ 31 by omega) h3, q1, if_false]
    rw [nI_1]
    by_cases hl : zcf M R c i ≤ left
    · rw [if_pos hl, if_neg (by omega), pk_sub hl, ih m (i + 1) (left - zcf M R c i) (by omega) (by omega) (by omega)]
    · rw [if_neg hl, if_pos (show left < zcf M R c i by omega), if_neg (nI_ne0 (by omega) (by omega)), pk_rem (by omega) (by omega) (by omega)]
      simp only [q2, if_false]
      rw [zcl' (by omega), zcl' (by have := Nat.mod_lt (i + 1) (show 0 < n by omega); omega), m_cellOf v hR (by omega) (zcf_lt v hR (by omega))]
      rfl
theorem e_varied (x1 x2 x3 : Int32) {M : zM} (v : zInv M) : zAlikeQ (p_X8_varied x1 x2 x3) (p_X9_varied x1 x2 x3) M := by
  obtain ⟨v1, v2, v3, v4, v5, v6, v7⟩ := v
  obtain ⟨n, hn, e1, e2⟩ := zground v5
  by_cases h1 : 0 ≤ x1 ∧ x1 ≤ 4
  · by_cases h2 : 0 ≤ x2 ∧ x2 ≤ 65535
    · by_cases h3 : 0 ≤ x3
      · obtain ⟨R, hR, rfl⟩ := zup (n := 4) rfl (by decide) h1
        obtain ⟨c, hc, rfl⟩ := zup (n := 65535) rfl (by decide) h2
        obtain ⟨j, hj, rfl⟩ := nI_of (znlt.mpr h3)
        refine ⟨eG M R c n (zso (zcf M R c) n 0 j), ?_, ?_⟩
        · have hv : p_X1_variationAt (nI R) (nI c) (nI j) M = some (eG M R c n (zso (zcf M R c) n 0 j)) := by
            rw [p_X1_variationAt, e2, s_source v4 (by omega) hc hn hj]
            simp only [Option.bind_some]
            cases hz : zso (zcf M R c) n 0 j with
            | none => rfl
            | some q =>
              obtain ⟨a, b, cc⟩ := zso_rng _ _ _ hz
              have hp := zpa_rng v4 (by omega) cc
              have hm := Nat.mod_lt (q.1 + 1) (show 0 < n by omega)
              have key : ∀ i, i < 16 → (if (16 : Int32) ≤ nI (16 + i) then (if nI (16 + i) - (16 : Int32) < 0 ∨ 16 ≤ (nI (16 + i) - (16 : Int32)).toNatClampNeg then none else some (M 44 (nI (16 + i) - (16 : Int32)).toNatClampNeg)) else some (nI (16 + i))) = some (M 88 i) := by
                intro i hi
                have q3 := zix (m := i) (n := 16) hi (by omega)
                rw [show (16 : Int32) = nI 16 from rfl, if_pos (by rw [zLe (by omega) (by omega)]; omega), pk_sub (by omega), show 16 + i - 16 = i by omega]
                simp only [q3, if_false]
                rw [zcl' (by omega), (v5.2 i hi).1]
              rw [eV, eG, zsv]
              by_cases c9 : zpa M R c q.1 q.2 = 9
              · rw [if_pos c9, if_pos c9]
                exact key _ (by omega)
              · rw [if_neg c9, if_neg c9]
                by_cases c10 : zpa M R c q.1 q.2 = 10
                · rw [if_pos c10, if_pos c10]
                  exact key _ (by omega)
                · rw [if_neg c10, if_neg c10, show (16 : Int32) = nI 16 from rfl, if_neg (by rw [zLe (by omega) (by omega)]; omega)]
          simp [p_X8_varied, s_isRule, s_within, zq_0, h1, h2, h3, hv]
        · have hv : p_X9_varied_33 (nI R) (nI c) M 5000 (nI j) 0 = some (eG M R c n (zso (zcf M R c) n 0 j)) := m_varied33 v4 (by omega) hn e1 n 5000 0 j (by omega) (by omega) hj
          simp [p_X9_varied, m_isRule, s_in, zq_0, h1, h2, h3, hv]
      · exact ⟨-3, by simp [p_X8_varied, s_isRule, s_within, zq_0, h1, h2, h3], by simp [p_X9_varied, m_isRule, s_in, zq_0, h1, h2, h3]⟩
    · exact ⟨-3, by simp [p_X8_varied, s_isRule, s_within, zq_0, h1, h2], by simp [p_X9_varied, m_isRule, s_in, zq_0, h1, h2]⟩
  · exact ⟨-2, by simp [p_X8_varied, s_isRule, zq_0, h1], by simp [p_X9_varied, m_isRule, zq_0, h1]⟩
/-! ===== sheets: their numbers ===== -/
/-- n notes, cadences c, ns sheets; rules and cells of a sheet -/
theorem zshn {M : zM} (v : zvSheets M) : ∃ ns n c : Nat, ns ≤ 3 ∧ n ≤ 16 ∧ c ≤ 65535 ∧ (0 < ns → 1 ≤ n) ∧ M 9 18 = nI ns ∧ M 6 4 = nI ns ∧ M 9 19 = nI n ∧ M 6 5 = nI n ∧ M 9 20 = nI c ∧ M 6 6 = nI c := by
  obtain ⟨a1, a2, a3, a4, -⟩ := v
  obtain ⟨ns, h1, e1⟩ := zr_nat (hi := 3) a1.2 (by decide)
  obtain ⟨n, h2, e2⟩ := zr_nat (hi := 16) a2.2 (by decide)
  obtain ⟨c, h3, e3⟩ := zr_nat (hi := 65535) a3.2 (by decide)
  refine ⟨ns, n, c, h1, h2, h3, fun h => ?_, e1, a1.1.trans e1, e2, a2.1.trans e2, e3, a3.1.trans e3⟩
  rw [e1, e2, nI_toInt (by omega), nI_toInt (by omega)] at a4
  have := a4 (by omega)
  omega
def zru (M : zM) (s : Nat) : Nat := (M 89 s).toInt.toNat
theorem zru_ok {M : zM} {s : Nat} (v : zvSheets M) (hs : s < 3) : zru M s < 5 ∧ M 89 s = nI (zru M s) ∧ M 45 s = nI (zru M s) := by
  have h := v.2.2.2.2.1 s hs
  obtain ⟨n, hn, e⟩ := zr_nat (hi := 4) h.2 (by decide)
  have e2 : zru M s = n := by rw [zru, e, nI_toInt (by omega)]; rfl
  rw [e2, h.1, e]
  exact ⟨by omega, rfl, rfl⟩
/-- cells of a sheet's note, of its first k notes -/
abbrev zcs (M : zM) (c s : Nat) : Nat → Nat := zcf M (zru M s) c
theorem zcells {M : zM} {ns n c s : Nat} (v : zvSheets M) (e1 : M 9 18 = nI ns) (e2 : M 9 19 = nI n) (e3 : M 9 20 = nI c) (hs : s < ns) (hns : ns ≤ 3) (hn : n ≤ 16) (hc : c ≤ 65535) : M 46 s = nI (zsg (zcs M c s) n) := by
  have h := v.2.2.2.2.2.2 s (by rw [e1, nI_toInt (by omega)]; omega)
  rw [h, e2, e3, nI_toInt (by omega), Int.toNat_natCast, zcnts_eq]
  congr 2
  funext k
  show zcnt (zbit (nI c)) _ k = zcnt (fun k => c.testBit k) _ k
  congr 1
  funext j
  unfold zbit
  rw [nI_toInt (by omega), Int.toNat_natCast]
theorem zsg_le {f : Nat → Nat} {b : Nat} : ∀ {n : Nat}, (∀ i, i < n → f i ≤ b) → zsg f n ≤ n * b
  | 0, _ => by simp [zsg]
  | n + 1, h => by
    have h1 := zsg_le (n := n) (fun i hi => h i (by omega))
    have h2 := h n (by omega)
    rw [zsg, Nat.add_mul]
    omega
theorem zcs_le {M : zM} {c s : Nat} (v : zvRules M) (w : zvSheets M) (hs : s < 3) (n : Nat) : zsg (zcs M c s) n ≤ n * 4 := zsg_le (fun i _ => (zcf_rng v (zru_ok w hs).1).2)
theorem m_sizeOf4 {M : zM} {s c n : Nat} (v : zvRules M) (w : zvSheets M) (hs : s < 3) (hn : n ≤ 16) (e2 : M 9 19 = nI n) (e3 : M 9 20 = nI c) : ∀ (j nn k : Nat), k + j = n → j < nn → p_X9_sizeOf_4 (nI s) M nn (nI (zsg (zcs M c s) k)) (nI k) = some (nI (zsg (zcs M c s) n)) := by
  obtain ⟨r1, r2, r3⟩ := zru_ok w hs
  have q1 := zix (m := s) (n := 3) hs (by omega)
  intro j
  induction j with
  | zero =>
    intro nn k h1 h2
    obtain ⟨m, rfl⟩ := zfuel h2
    rw [p_X9_sizeOf_4, e2, if_pos (by rw [zLe (by omega) (by omega)]; omega), show k = n by omega]
  | succ j ih =>
    intro nn k h1 h2
    obtain ⟨m, rfl⟩ := zfuel h2
    rw [p_X9_sizeOf_4, e2, if_neg (by rw [zLe (by omega) (by omega)]; omega)]
    simp only [q1, if_false]
    rw [zcl' (by omega), r2, e3, m_cellsOf v r1 (by omega)]
    simp only [Option.bind_some]
    rw [nI_add, nI_1]
    exact ih m (k + 1) (by omega) (by omega)
theorem m_sizeOf {M : zM} {s c n : Nat} (v : zvRules M) (w : zvSheets M) (hs : s < 3) (hn : n ≤ 16) (e2 : M 9 19 = nI n) (e3 : M 9 20 = nI c) : p_X9_sizeOf (nI s) M = some (nI (zsg (zcs M c s) n)) := m_sizeOf4 v w hs hn e2 e3 n 5000 0 (by omega) (by omega)
theorem e_cells (x1 : Int32) {M : zM} (v : zInv M) : zAlikeQ (p_X8_cells x1) (p_X9_cells x1) M := by
  obtain ⟨v1, v2, v3, v4, v5, v6, v7⟩ := v
  obtain ⟨ns, n, c, h1, h2, h3, h4, e1, e1', e2, e2', e3, e3'⟩ := zshn v6
  by_cases h : 0 ≤ x1 ∧ x1 ≤ nI ns - 1
  · obtain ⟨s, hs, rfl⟩ := zbelow rfl (by omega) h
    have hc := zcells v6 e1 e2 e3 hs h1 h2 h3
    refine ⟨nI (zsg (zcs M c s) n), ?_, ?_⟩
    · simp (disch := omega) [p_X8_cells, s_isSheet, e1', zq_0, h, ↓zix, zcl', hc]
    · simp [p_X9_cells, m_isSheet, e1, zq_0, h, m_sizeOf v4 v6 (show s < 3 by omega) h2 e2 e3]
  · exact ⟨-2, by simp [p_X8_cells, s_isSheet, e1', zq_0, h], by simp [p_X9_cells, m_isSheet, e1, zq_0, h]⟩
theorem s_isCell {M : zM} {ns n c : Nat} {x1 x2 : Int32} (v4 : zvRules M) (v6 : zvSheets M) (h1 : ns ≤ 3) (h2 : n ≤ 16) (h3 : c ≤ 65535) (e1 : M 9 18 = nI ns) (e1' : M 6 4 = nI ns) (e2 : M 9 19 = nI n) (e3 : M 9 20 = nI c) : p_X8_isCell x1 x2 M = some (zq ((0 ≤ x1 ∧ x1 ≤ nI ns - 1) ∧ (0 ≤ x2 ∧ x2 ≤ nI (zsg (zcs M c x1.toNatClampNeg) n) - 1))) := by
  rw [p_X8_isCell, s_isSheet, e1']
  simp only [Option.bind_some, zq_0]
  by_cases h : 0 ≤ x1 ∧ x1 ≤ nI ns - 1
  · obtain ⟨s, hs, rfl⟩ := zbelow rfl (by omega) h
    have hc := zcells v6 e1 e2 e3 hs h1 h2 h3
    have q1 := zix (m := s) (n := 3) (by omega) (by omega)
    rw [if_neg (by simpa using h)]
    simp only [q1, if_false]
    rw [zcl' (by omega), hc, s_within]
    simp only [Option.bind_some, zq_0]
    by_cases hx : 0 ≤ x2 ∧ x2 ≤ nI (zsg (zcs M c s) n) - 1
    · rw [if_neg (by simpa using hx), zq_t ⟨h, hx⟩]
    · rw [if_pos hx, zq_f (fun q => hx q.2)]
  · rw [if_pos h, zq_f (fun q => h q.1)]
theorem e_tell (x1 x2 x3 : Int32) {M : zM} (v : zInv M) : zAlike (p_X8_tell x1 x2 x3) (p_X9_tell x1 x2 x3) M := by
  obtain ⟨v1, v2, v3, v4, v5, v6, v7⟩ := v
  obtain ⟨ns, n, c, h1, h2, h3, h4, e1, e1', e2, e2', e3, e3'⟩ := zshn v6
  have hic := s_isCell (x1 := x1) (x2 := x2) v4 v6 h1 h2 h3 e1 e1' e2 e3
  by_cases h : 0 ≤ x1 ∧ x1 ≤ nI ns - 1
  · obtain ⟨s, hs, rfl⟩ := zbelow rfl (by omega) h
    have hle := zcs_le (c := c) v4 v6 (s := s) (by omega) n
    rw [zcl' (by omega)] at hic
    have hsz := m_sizeOf v4 v6 (show s < 3 by omega) h2 e2 e3
    by_cases hx : 0 ≤ x2 ∧ x2 ≤ nI (zsg (zcs M c s) n) - 1
    · obtain ⟨j, hj, rfl⟩ := zbelow rfl (by omega) hx
      rw [zq_t ⟨h, hx⟩] at hic
      by_cases hv : -1 ≤ x3 ∧ x3 ≤ 8
      · refine ⟨M 90 (64 * s + j), zset M (48 + s) j x3, zset (zset M (48 + s) j x3) 90 (64 * s + j) x3, ?_, ?_, ?_, ?_, ?_, ?_, ?_, ?_, ?_⟩
        · have h27 : p_X8_tell_27 (nI s) (nI j) x3 M = some (M 90 (64 * s + j), zset M (48 + s) j x3) := by
            simp (disch := omega) [p_X8_tell_27, p_X8_replace, ↓zix, zcl', (v6.2.2.2.2.2.1 s j (by omega) (by omega)).1]
          by_cases hm : x3 = -1
          · simp [p_X8_tell, hic, hm, hm ▸ h27]
          · have hn : 0 ≤ x3 ∧ x3 ≤ 8 := ⟨by
              have := hv.1
              rw [fa_le] at this ⊢
              rw [fa_eq] at hm
              have w1 : ((-1 : Int32)).toInt = -1 := by decide
              have w0 : ((0 : Int32)).toInt = 0 := by decide
              omega, hv.2⟩
            simp [p_X8_tell, hic, hm, s_isNote, zq_0, hn, h27]
        · have hsz' : p_X9_sizeOf (nI s) (zset M (48 + s) j x3) = some (nI (zsg (zcs M c s) n)) := by
            have w4 : zvRules (zset M (48 + s) j x3) := zvRules_s (by simp [zdRules]; omega) v4
            have w6 : zvSheets (zset M (48 + s) j x3) → p_X9_sizeOf (nI s) (zset M (48 + s) j x3) = some (nI (zsg (zcs (zset M (48 + s) j x3) c s) n)) := fun w => m_sizeOf w4 w (by omega) h2 (by rw [zs_ne (by omega)]; exact e2) (by rw [zs_ne (by omega)]; exact e3)
            have r1 : ∀ w : zM, (∀ a b, (a = 9 ∨ a = 86 ∨ a = 89) → w a b = M a b) → p_X9_sizeOf (nI s) w = p_X9_sizeOf (nI s) M := by
              intro w hw
              have h86 : w 86 = M 86 := funext fun b => hw 86 b (by omega)
              have h89 : w 89 = M 89 := funext fun b => hw 89 b (by omega)
              have h919 : w 9 19 = M 9 19 := hw 9 19 (by omega)
              have h920 : w 9 20 = M 9 20 := hw 9 20 (by omega)
              have l4 : ∀ nn a b, p_X9_sizeOf_4 (nI s) w nn a b = p_X9_sizeOf_4 (nI s) M nn a b := by
                intro nn
                induction nn with
                | zero => intro a b; rfl
                | succ nn ih =>
                  intro a b
                  rw [p_X9_sizeOf_4, p_X9_sizeOf_4]
                  simp only [p_X9_cellsOf, h86, h89, h919, h920, ih]
              exact l4 _ _ _
            rw [r1 _ (fun a b hab => by rw [zs_ne (by omega)]), hsz]
          simp (disch := omega) [p_X9_tell, m_isSheet, s_in, zs_ne, e1, zq_0, h, hsz', hx, hv, z64, ↓zix, zix', zcl']
          exact fun q => absurd q (znlt.mpr hx.2)
        · exact zvMov_s rfl (zvMov_s (by simp [zdMov]; omega) v1)
        · exact zvTune_s rfl (zvTune_s (by simp [zdTune]; omega) v2)
        · exact zvSong_s rfl (zvSong_s (by simp [zdSong]; omega) v3)
        · exact zvRules_s rfl (zvRules_s (by simp [zdRules]; omega) v4)
        · exact zvGround_s rfl (zvGround_s (by simp [zdGround]; omega) v5)
        · obtain ⟨a1, a2, a3, a4, a5, a6, a7⟩ := v6
          have g : ∀ a b, a ≠ 90 → ¬ (48 ≤ a ∧ a < 51) → zset (zset M (48 + s) j x3) 90 (64 * s + j) x3 a b = M a b := fun a b q1 q2 => by rw [zs_ne q1, zs_ne (by omega)]
          refine ⟨by rw [g _ _ (by omega) (by omega), g _ _ (by omega) (by omega)]; exact a1, by rw [g _ _ (by omega) (by omega), g _ _ (by omega) (by omega)]; exact a2, by rw [g _ _ (by omega) (by omega), g _ _ (by omega) (by omega)]; exact a3, by rw [g _ _ (by omega) (by omega), g _ _ (by omega) (by omega)]; exact a4, fun q hq => by rw [g _ _ (by omega) (by omega), g _ _ (by omega) (by omega)]; exact a5 q hq, fun q b hq hb => ?_, fun q hq => ?_⟩
          · by_cases e : q = s ∧ b = j
            · obtain ⟨rfl, rfl⟩ := e
              rw [zs_ne (by omega), zs_self, zs_self]
              exact ⟨rfl, zr_of (by decide) (by decide) hv.1 hv.2⟩
            · have n2 : 64 * q + b ≠ 64 * s + j := by omega
              rw [zs_ne (i := 90) (a := 48 + q) (by omega), zs_nj n2, zs_ne (i := 48 + s) (a := 90) (by omega)]
              have e3 : zset M (48 + s) j x3 (48 + q) b = M (48 + q) b := by rw [zset, if_neg (by omega)]
              rw [e3]
              exact a6 q b hq hb
          · rw [g 9 18 (by omega) (by omega)] at hq
            rw [g 46 _ (by omega) (by omega), g 9 20 (by omega) (by omega), g 89 _ (by omega) (by omega), g 86 _ (by omega) (by omega), g 9 19 (by omega) (by omega)]
            exact a7 q hq
        · exact zvPipes_s rfl (zvPipes_s (by simp [zdPipes]; omega) v7)
      · have hm : ¬ x3 = -1 := fun q => hv (by rw [q]; decide)
        have hn : ¬ (0 ≤ x3 ∧ x3 ≤ 8) := fun q => hv ⟨by have := q.1; rw [fa_le] at this ⊢; exact Int.le_trans (by decide) this, q.2⟩
        refine ⟨-3, M, M, ?_, ?_, v1, v2, v3, v4, v5, v6, v7⟩
        · simp [p_X8_tell, hic, hm, s_isNote, zq_0, hn]
        · simp [p_X9_tell, m_isSheet, s_in, e1, zq_0, h, hsz, hx, hv]
    · rw [zq_f (fun q => hx q.2)] at hic
      refine ⟨-2, M, M, ?_, ?_, v1, v2, v3, v4, v5, v6, v7⟩
      · simp [p_X8_tell, hic]
      · simp [p_X9_tell, m_isSheet, s_in, e1, zq_0, h, hsz, hx]
  · rw [zq_f (fun q => h q.1)] at hic
    refine ⟨-2, M, M, ?_, ?_, v1, v2, v3, v4, v5, v6, v7⟩
    · simp [p_X8_tell, hic]
    · simp [p_X9_tell, m_isSheet, e1, zq_0, h]
