/-! ===== numbers, ranges, predicates ===== -/
def zq (c : Prop) [Decidable c] : Int32 := if c then 1 else 0
theorem zq_0 (c : Prop) [Decidable c] : (zq c = 0) = ¬ c := by
  unfold zq
  split <;> simp_all
theorem zq_1 (c : Prop) [Decidable c] : (zq c = 1) = c := by
  unfold zq
  split <;> simp_all
theorem zq_01 (c : Prop) [Decidable c] : (zq c = 0 ∨ zq c = 1) = True := by
  unfold zq
  split <;> simp
theorem zq_t {c : Prop} [Decidable c] (h : c) : zq c = 1 := if_pos h
theorem zq_f {c : Prop} [Decidable c] (h : ¬ c) : zq c = 0 := if_neg h
theorem zq_congr {c d : Prop} [Decidable c] [Decidable d] (h : c ↔ d) : zq c = zq d := by
  unfold zq
  simp [h]
def zr (lo hi : Int) (x : Int32) : Prop := lo ≤ x.toInt ∧ x.toInt ≤ hi
theorem zr_nat {hi : Nat} {x : Int32} (h : zr 0 hi x) (hh : hi < 2 ^ 31) : ∃ n, n ≤ hi ∧ x = nI n := by
  refine ⟨x.toInt.toNat, by have := h.1; have := h.2; omega, ?_⟩
  rw [fa_eq, nI_toInt (by have := h.1; have := h.2; omega)]
  have := h.1
  omega
theorem zr_nI {n hi : Nat} (h : n ≤ hi) (hh : hi < 2 ^ 31) : zr 0 hi (nI n) := by
  unfold zr
  rw [nI_toInt (by omega)]
  omega
theorem zr_of {lo hi : Int} {x a b : Int32} (ha : a.toInt = lo) (hb : b.toInt = hi) (h1 : a ≤ x) (h2 : x ≤ b) : zr lo hi x := by
  rw [fa_le] at h1 h2
  unfold zr
  omega
theorem zr_wk {lo hi lo' hi' : Int} {x : Int32} (h : zr lo hi x) (h1 : lo' ≤ lo) (h2 : hi ≤ hi') : zr lo' hi' x := ⟨Int.le_trans h1 h.1, Int.le_trans h.2 h2⟩
/-- a number from 0 on, up to a constant -/
theorem zup {x b : Int32} {n : Nat} (hb : b = nI n) (hn : n < 2 ^ 31) (h : 0 ≤ x ∧ x ≤ b) : ∃ k, k ≤ n ∧ x = nI k := by
  subst hb
  refine zr_nat (hi := n) ⟨?_, ?_⟩ hn
  · have := (fa_le 0 x).mp h.1
    simpa using this
  · have := (fa_le x (nI n)).mp h.2
    rwa [nI_toInt hn] at this
theorem zix {m n : Nat} (h : m < n) (hn : n < 2 ^ 31) : (nI m < 0 ∨ n ≤ (nI m).toNatClampNeg) = False := by
  rw [nI_clamp (by omega)]
  have := nI_pos (n := m) (by omega)
  simp only [this, false_or, eq_iff_iff, iff_false]
  omega
theorem zlit (n : Nat) : (OfNat.ofNat n : Int32) = nI n := rfl
theorem zLt {a b : Nat} (ha : a < 2 ^ 31) (hb : b < 2 ^ 31) : (nI a < nI b) = (a < b) := propext (nI_ltI ha hb)
theorem zLe {a b : Nat} (ha : a < 2 ^ 31) (hb : b < 2 ^ 31) : (nI a ≤ nI b) = (a ≤ b) := propext (nI_leI ha hb)
theorem zEqn {a b : Nat} (ha : a < 2 ^ 31) (hb : b < 2 ^ 31) : (nI a = nI b) = (a = b) := propext (nI_eq ha hb)
theorem zm1 {n : Nat} (h : n < 2 ^ 31) : (nI n = (-1 : Int32)) = False := by
  rw [eq_iff_iff, iff_false, fa_eq, nI_toInt h]
  have : ((-1 : Int32)).toInt = -1 := by decide
  omega
theorem znn {n : Nat} (h : n < 2 ^ 31) : (nI n < 0) = False := by simp [nI_pos h]
theorem zpp {n : Nat} (h : n < 2 ^ 31) : (0 ≤ nI n) = True := by simp [nI_pos' h]
theorem zcl' {n : Nat} (h : n < 2 ^ 31) : (nI n).toNatClampNeg = n := nI_clamp h
theorem znle {a b : Int32} : (¬ a ≤ b) ↔ b < a := by rw [fa_le, fa_lt]; omega
theorem znlt {a b : Int32} : (¬ a < b) ↔ b ≤ a := by rw [fa_le, fa_lt]; omega
/-! predicates -/
theorem s_within (x lo hi : Int32) : p_X8_within x lo hi = some (zq (lo ≤ x ∧ x ≤ hi)) := by
  unfold p_X8_within zq
  by_cases h1 : x < lo
  · rw [if_pos h1, if_neg (fun h => (znlt.mpr h.1) h1)]
  · rw [if_neg h1]
    by_cases h2 : hi < x
    · rw [if_pos h2, if_neg (fun h => (znlt.mpr h.2) h2)]
    · rw [if_neg h2, if_pos ⟨znlt.mp h1, znlt.mp h2⟩]
theorem s_in (x lo hi : Int32) : p_X9_in x lo hi = some (zq (lo ≤ x ∧ x ≤ hi)) := by
  unfold p_X9_in zq
  by_cases h1 : x < lo
  · rw [if_pos h1, if_neg (fun h => (znlt.mpr h.1) h1)]
  · rw [if_neg h1]
    by_cases h2 : hi < x
    · rw [if_pos h2, if_neg (fun h => (znlt.mpr h.2) h2)]
    · rw [if_neg h2, if_pos ⟨znlt.mp h1, znlt.mp h2⟩]
theorem s_isMovement (x : Int32) : p_X8_isMovement x = some (zq (0 ≤ x ∧ x ≤ 7)) := by simp [p_X8_isMovement, s_within, zq_01]
theorem s_isNote (x : Int32) : p_X8_isNote x = some (zq (0 ≤ x ∧ x ≤ 8)) := by simp [p_X8_isNote, s_within, zq_01]
theorem s_isRegion (x : Int32) : p_X8_isRegion x = some (zq (0 ≤ x ∧ x ≤ 2)) := by simp [p_X8_isRegion, s_within, zq_01]
theorem s_isRule (x : Int32) : p_X8_isRule x = some (zq (0 ≤ x ∧ x ≤ 4)) := by simp [p_X8_isRule, s_within, zq_01]
theorem s_isPiper (x : Int32) : p_X8_isPiper x = some (zq (0 ≤ x ∧ x ≤ 5)) := by simp [p_X8_isPiper, s_within, zq_01]
theorem s_isMinute (x : Int32) : p_X8_isMinute x = some (zq (0 ≤ x ∧ x ≤ 150)) := by simp [p_X8_isMinute, s_within, zq_01]
theorem s_isBand (x : Int32) : p_X8_isBand x = some (zq (1 ≤ x ∧ x ≤ 63)) := by simp [p_X8_isBand, s_within, zq_01]
theorem s_isPitch (x : Int32) : p_X8_isPitch x = some (zq (-999 ≤ x ∧ x ≤ 999)) := by simp [p_X8_isPitch, s_within, zq_01]
theorem s_isMovementOrLost (x : Int32) : p_X8_isMovementOrLost x = some (zq (-1 ≤ x ∧ x ≤ 7)) := by
  unfold p_X8_isMovementOrLost
  rw [s_isMovement]
  by_cases h : x = -1
  · subst h
    rw [if_pos rfl]
    decide
  · rw [if_neg h]
    simp only [Option.bind_some, zq_0]
    have e : (0 ≤ x ∧ x ≤ 7) ↔ (-1 ≤ x ∧ x ≤ 7) := by
      rw [fa_eq] at h
      simp only [fa_le]
      have : ((-1 : Int32)).toInt = -1 := by decide
      have : ((0 : Int32)).toInt = 0 := by decide
      omega
    by_cases h2 : 0 ≤ x ∧ x ≤ 7
    · rw [if_neg (by simpa using h2), zq_t (e.mp h2)]
    · rw [if_pos h2, zq_f (fun q => h2 (e.mpr q))]
theorem m_isNote (x : Int32) : p_X9_isNote x = some (zq (0 ≤ x ∧ x ≤ 8)) := by simp [p_X9_isNote, s_in, zq_01]
theorem m_isMovement (x : Int32) : p_X9_isMovement x = some (zq (0 ≤ x ∧ x ≤ 7)) := by simp [p_X9_isMovement, s_in, zq_01]
theorem m_isRegion (x : Int32) : p_X9_isRegion x = some (zq (0 ≤ x ∧ x ≤ 2)) := by simp [p_X9_isRegion, s_in, zq_01]
theorem m_isRule (x : Int32) : p_X9_isRule x = some (zq (0 ≤ x ∧ x ≤ 4)) := by simp [p_X9_isRule, s_in, zq_01]
theorem m_isPiper (x : Int32) : p_X9_isPiper x = some (zq (0 ≤ x ∧ x ≤ 5)) := by simp [p_X9_isPiper, s_in, zq_01]
/-! ===== the invariant: what the class holds is what the reference holds, in its ranges ===== -/
def zvMov (M : zM) : Prop :=
  (∀ m, m < 8 → M 10 m = M 75 m ∧ zr 0 4 (M 75 m)) ∧ (∀ m i, m < 8 → i < 4 → M (12 + m) i = M 76 (4 * m + i) ∧ zr 0 8 (M 76 (4 * m + i))) ∧
  (∀ m, m < 8 → M 20 m = M 77 m ∧ zr 0 511 (M 77 m)) ∧ (∀ m, m < 8 → M 21 m = M 78 m ∧ zr 0 511 (M 78 m)) ∧ M 1 4 = M 9 4 ∧ zr 1 3 (M 9 4)
def zvTune (M : zM) : Prop :=
  (M 2 4 = M 9 5 ∧ zr 0 24 (M 9 5)) ∧ (∀ s, s < 24 → M 22 s = M 79 s ∧ zr 0 8 (M 79 s)) ∧ (∀ s, s < 24 → M 23 s = M 80 s ∧ zr 0 9 (M 80 s)) ∧ (∀ s, s < 24 → M 24 s = M 81 s ∧ zr (-1) 7 (M 81 s))
def zvSong (M : zM) : Prop :=
  (∀ r m, r < 3 → m < 8 → M (26 + r) m = M 82 (8 * r + m) ∧ zr 0 7 (M 82 (8 * r + m))) ∧ (∀ r n, r < 3 → n < 9 → M (30 + r) n = M 83 (9 * r + n) ∧ zr 0 3 (M 83 (9 * r + n))) ∧
  (M 3 4 = M 9 11 ∧ zr 0 12 (M 9 11)) ∧ (∀ k, k < 12 → M 33 k = M 84 k ∧ zr 0 31 (M 84 k))
def zvRules (M : zM) : Prop :=
  (∀ r, r < 5 → M 37 r = M 86 r ∧ zr 1 4 (M 86 r)) ∧ (∀ r i, r < 5 → i < 4 → M (39 + r) i = M 87 (4 * r + i) ∧ zr 0 10 (M 87 (4 * r + i)))
def zvGround (M : zM) : Prop :=
  (M 5 2 = M 9 16 ∧ zr 0 16 (M 9 16)) ∧ (∀ k, k < 16 → M 44 k = M 88 k ∧ zr 0 8 (M 88 k))
/-- how many cells a note has by a rule of n parts, where c says whether it is a cadence; of the first k notes together -/
def zcnt (c : Nat → Bool) (n k : Nat) : Nat := if c k then 1 else n
def zcnts (c : Nat → Bool) (n : Nat) : Nat → Nat
  | 0 => 0
  | k + 1 => zcnts c n k + zcnt c n k
def zbit (x : Int32) (k : Nat) : Bool := x.toInt.toNat.testBit k
def zvSheets (M : zM) : Prop :=
  (M 6 4 = M 9 18 ∧ zr 0 3 (M 9 18)) ∧ (M 6 5 = M 9 19 ∧ zr 0 16 (M 9 19)) ∧ (M 6 6 = M 9 20 ∧ zr 0 65535 (M 9 20)) ∧ (0 < (M 9 18).toInt → 1 ≤ (M 9 19).toInt) ∧
  (∀ s, s < 3 → M 45 s = M 89 s ∧ zr 0 4 (M 89 s)) ∧ (∀ s c, s < 3 → c < 64 → M (48 + s) c = M 90 (64 * s + c) ∧ zr (-1) 8 (M 90 (64 * s + c))) ∧
  (∀ s : Nat, (s : Int) < (M 9 18).toInt → M 46 s = nI (zcnts (zbit (M 9 20)) (M 86 (M 89 s).toInt.toNat).toInt.toNat (M 9 19).toInt.toNat))
def zvPipes (M : zM) : Prop :=
  (∀ p, p < 6 → M 70 p = M 94 p ∧ zr (-99) 99 (M 94 p)) ∧ (∀ p, p < 6 → M 71 p = M 95 p ∧ zr 0 9 (M 95 p)) ∧ (∀ p, p < 6 → M 72 p = M 96 p ∧ zr 1 60 (M 96 p)) ∧ (∀ p, p < 6 → M 73 p = M 97 p ∧ zr 0 90 (M 97 p)) ∧ (M 7 4 = M 9 30 ∧ zr 0 5 (M 9 30)) ∧
  (∀ n, n < 9 → M 74 n = M 98 n ∧ zr (-300) 300 (M 98 n))
def zInv (M : zM) : Prop := zvMov M ∧ zvTune M ∧ zvSong M ∧ zvRules M ∧ zvGround M ∧ zvSheets M ∧ zvPipes M
/-- what the methods scribble on: no promise hangs on it -/
def zscr (a b : Nat) : Bool := (decide (34 ≤ a) && decide (a ≤ 36)) || (decide (52 ≤ a) && decide (a ≤ 69)) || (a == 6 && b == 9) || (a == 7 && (b == 5 || b == 6)) || a == 85 || (decide (91 ≤ a) && decide (a ≤ 93)) || (a == 9 && (b == 31 || b == 32))
def zsame (M M1 : zM) : Prop := ∀ a b, zscr a b = false → M1 a b = M a b
theorem zsame.rf {M : zM} : zsame M M := fun _ _ _ => rfl
theorem zsame.tr {M M1 M2 : zM} (h : zsame M M1) (h2 : zsame M1 M2) : zsame M M2 := fun a b e => (h2 a b e).trans (h a b e)
theorem zsame.set {M M1 : zM} {i j : Nat} {x : Int32} (h : zsame M M1) (hs : zscr i j = true) : zsame M (zset M1 i j x) := by
  intro a b e
  have : ¬ (a = i ∧ b = j) := by
    rintro ⟨rfl, rfl⟩
    rw [hs] at e
    cases e
  rw [zset, if_neg this]
  exact h a b e
theorem zInv_same {M M1 : zM} (h : zsame M M1) (v : zInv M) : zInv M1 := by
  have g : ∀ a, (∀ b, zscr a b = false) → M1 a = M a := fun a ha => funext (fun b => h a b (ha b))
  have e10 := g 10 (fun b => by simp [zscr])
  have e20 := g 20 (fun b => by simp [zscr])
  have e21 := g 21 (fun b => by simp [zscr])
  have e22 := g 22 (fun b => by simp [zscr])
  have e23 := g 23 (fun b => by simp [zscr])
  have e24 := g 24 (fun b => by simp [zscr])
  have e33 := g 33 (fun b => by simp [zscr])
  have e37 := g 37 (fun b => by simp [zscr])
  have e44 := g 44 (fun b => by simp [zscr])
  have e45 := g 45 (fun b => by simp [zscr])
  have e46 := g 46 (fun b => by simp [zscr])
  have e70 := g 70 (fun b => by simp [zscr])
  have e71 := g 71 (fun b => by simp [zscr])
  have e72 := g 72 (fun b => by simp [zscr])
  have e73 := g 73 (fun b => by simp [zscr])
  have e74 := g 74 (fun b => by simp [zscr])
  have e75 := g 75 (fun b => by simp [zscr])
  have e76 := g 76 (fun b => by simp [zscr])
  have e77 := g 77 (fun b => by simp [zscr])
  have e78 := g 78 (fun b => by simp [zscr])
  have e79 := g 79 (fun b => by simp [zscr])
  have e80 := g 80 (fun b => by simp [zscr])
  have e81 := g 81 (fun b => by simp [zscr])
  have e82 := g 82 (fun b => by simp [zscr])
  have e83 := g 83 (fun b => by simp [zscr])
  have e84 := g 84 (fun b => by simp [zscr])
  have e86 := g 86 (fun b => by simp [zscr])
  have e87 := g 87 (fun b => by simp [zscr])
  have e88 := g 88 (fun b => by simp [zscr])
  have e89 := g 89 (fun b => by simp [zscr])
  have e90 := g 90 (fun b => by simp [zscr])
  have e94 := g 94 (fun b => by simp [zscr])
  have e95 := g 95 (fun b => by simp [zscr])
  have e96 := g 96 (fun b => by simp [zscr])
  have e97 := g 97 (fun b => by simp [zscr])
  have e98 := g 98 (fun b => by simp [zscr])
  have s1 := h 1 4 rfl
  have s2 := h 2 4 rfl
  have s3 := h 3 4 rfl
  have s5 := h 5 2 rfl
  have s64 := h 6 4 rfl
  have s65 := h 6 5 rfl
  have s66 := h 6 6 rfl
  have s7 := h 7 4 rfl
  have t4 := h 9 4 rfl
  have t5 := h 9 5 rfl
  have t11 := h 9 11 rfl
  have t16 := h 9 16 rfl
  have t18 := h 9 18 rfl
  have t19 := h 9 19 rfl
  have t20 := h 9 20 rfl
  have t30 := h 9 30 rfl
  have r12 : ∀ m, m < 8 → M1 (12 + m) = M (12 + m) := fun m hm => g (12 + m) (fun b => by simp [zscr]; omega)
  have r26 : ∀ m, m < 3 → M1 (26 + m) = M (26 + m) := fun m hm => g (26 + m) (fun b => by simp [zscr]; omega)
  have r30 : ∀ m, m < 3 → M1 (30 + m) = M (30 + m) := fun m hm => g (30 + m) (fun b => by simp [zscr]; omega)
  have r39 : ∀ m, m < 5 → M1 (39 + m) = M (39 + m) := fun m hm => g (39 + m) (fun b => by simp [zscr]; omega)
  have r48 : ∀ m, m < 3 → M1 (48 + m) = M (48 + m) := fun m hm => g (48 + m) (fun b => by simp [zscr]; omega)
  obtain ⟨v1, v2, v3, v4, v5, v6, v7⟩ := v
  refine ⟨?_, ?_, ?_, ?_, ?_, ?_, ?_⟩
  · unfold zvMov at v1 ⊢
    rw [e10, e20, e21, e75, e76, e77, e78, s1, t4]
    exact ⟨v1.1, fun m i hm hi => by rw [r12 m hm]; exact v1.2.1 m i hm hi, v1.2.2⟩
  · unfold zvTune at v2 ⊢
    rw [e22, e23, e24, e79, e80, e81, s2, t5]
    exact v2
  · unfold zvSong at v3 ⊢
    rw [e33, e82, e83, e84, s3, t11]
    exact ⟨fun r m hr hm => by rw [r26 r hr]; exact v3.1 r m hr hm, fun r m hr hm => by rw [r30 r hr]; exact v3.2.1 r m hr hm, v3.2.2⟩
  · unfold zvRules at v4 ⊢
    rw [e37, e86, e87]
    exact ⟨v4.1, fun r m hr hm => by rw [r39 r hr]; exact v4.2 r m hr hm⟩
  · unfold zvGround at v5 ⊢
    rw [e44, e88, s5, t16]
    exact v5
  · unfold zvSheets at v6 ⊢
    rw [e45, e46, e86, e89, e90, s64, s65, s66, t18, t19, t20]
    exact ⟨v6.1, v6.2.1, v6.2.2.1, v6.2.2.2.1, v6.2.2.2.2.1, fun r m hr hm => by rw [r48 r hr]; exact v6.2.2.2.2.2.1 r m hr hm, v6.2.2.2.2.2.2⟩
  · unfold zvPipes at v7 ⊢
    rw [e70, e71, e72, e73, e74, e94, e95, e96, e97, e98, s7, t30]
    exact v7
