/-! ===== the first row of a song ===== -/
def zex (P : Nat → Bool) : Nat → Nat → Bool
  | _, 0 => false
  | i, k + 1 => P i || zex P (i + 1) k
theorem zex_iff {P : Nat → Bool} : ∀ (k i : Nat), zex P i k = true ↔ ∃ j, i ≤ j ∧ j < i + k ∧ P j = true
  | 0, i => by simp [zex]; intro j h1 h2; omega
  | k + 1, i => by
    rw [zex, Bool.or_eq_true, zex_iff k (i + 1)]
    constructor
    · rintro (h | ⟨j, a, b, c⟩)
      · exact ⟨i, Nat.le_refl i, by omega, h⟩
      · exact ⟨j, by omega, by omega, c⟩
    · rintro ⟨j, a, b, c⟩
      rcases Nat.eq_or_lt_of_le a with rfl | h
      · exact Or.inl c
      · exact Or.inr ⟨j, h, by omega, c⟩
theorem bt_z {x : Int32} : x = 0 ↔ ∀ b, b < 32 → bt x b = false := by
  constructor
  · rintro rfl b _
    exact b_0 b
  · intro h
    apply b_ext
    intro b hb
    rw [h b hb, b_0]
/-- the bits of a set of notes: those of which P holds -/
def zbs (x : Int32) (P : Nat → Bool) : Prop := ∀ b, b < 32 → bt x b = (decide (b < 9) && P b)
theorem s_goes3 {N : zM} {r k n : Nat} {P : Nat → Bool} (vM : zvMov N) (vS : zvSong N) (hr : r < 3) (hk : k < 12) (hn : n < 9) (ho : zbs (N 36 k) P) : ∀ (j nn m : Nat), m + j = 8 → j < nn → p_X6_goesOn_3 (nI r) (nI k) (nI n) N nn (nI m) = some (zq (zex (fun m => zhO N r k m && zex (fun b => zfit N m n b && P b) 0 9) m j = true)) := by
  have q2 := zix (m := k) (n := 12) hk (by omega)
  intro j
  induction j with
  | zero =>
    intro nn m h1 h2
    obtain ⟨i, rfl⟩ := zfuel h2
    rw [p_X6_goesOn_3, show (8 : Int32) = nI 8 from rfl, if_pos (by rw [zLe (by omega) (by omega)]; omega)]
    rfl
  | succ j ih =>
    intro nn m h1 h2
    obtain ⟨i, rfl⟩ := zfuel h2
    rw [p_X6_goesOn_3, show (8 : Int32) = nI 8 from rfl, if_neg (by rw [zLe (by omega) (by omega)]; omega), s_hasHead vS hr hk (by omega)]
    simp only [Option.bind_some, zq_0]
    rw [nI_1, zex]
    by_cases hh : zhO N r k m = true
    · rw [if_neg (by simpa using hh)]
      obtain ⟨Lx, l1, l2⟩ := s_leadsTo (M := N) (m := m) (p := n) vM (by omega) (by omega)
      rw [aI_n hn] at l1
      rw [l1]
      simp only [Option.bind_some, q2, if_false]
      rw [zcl' (by omega)]
      have e : (Lx &&& N 36 k = 0) ↔ ¬ zex (fun b => zfit N m n b && P b) 0 9 = true := by
        rw [bt_z, zex_iff]
        constructor
        · rintro h ⟨b, -, hb, hp⟩
          have := h b (by omega)
          rw [b_and, l2 b (by omega), ho b (by omega)] at this
          simp only [Bool.and_eq_true] at hp
          simp [show b < 9 by omega, hp.1, hp.2] at this
        · intro h b hb
          rw [b_and, l2 b hb, ho b hb]
          by_cases h9 : b < 9
          · have : ¬ (zfit N m n b && P b) = true := fun q => h ⟨b, by omega, by omega, q⟩
            simp only [h9, decide_true, Bool.true_and]
            simpa using this
          · simp [h9]
      by_cases hx : zex (fun b => zfit N m n b && P b) 0 9 = true
      · rw [if_neg (fun q => (e.mp q) hx)]
        simp [hh, hx, zq]
      · rw [if_pos (e.mpr hx), ih i (m + 1) (by omega) (by omega)]
        simp [hh, hx]
    · rw [if_pos hh, ih i (m + 1) (by omega) (by omega)]
      simp [hh]
theorem s_open6 {N : zM} {r k : Nat} {x3 : Int32} {P Q : Nat → Bool} (vM : zvMov N) (vS : zvSong N) (hr : r < 3) (hk : k + 1 < 12) (ho : zbs (N 36 (k + 1)) P) (hx : zbs x3 Q) : ∀ (j nn n : Nat) (x : Int32), n + j = 9 → j < nn → (∀ b, b < 32 → bt x b = (decide (b < n) && (Q b && zex (fun m => zhO N r (k + 1) m && zex (fun c => zfit N m b c && P c) 0 9) 0 8))) → ∃ y, p_X6_openAmong_6 (nI r) (nI k) x3 N nn x (nI n) = some y ∧ zbs y (fun b => Q b && zex (fun m => zhO N r (k + 1) m && zex (fun c => zfit N m b c && P c) 0 9) 0 8) := by
  intro j
  induction j with
  | zero =>
    intro nn n x h1 h2 hb
    obtain ⟨i, rfl⟩ := zfuel h2
    rw [p_X6_openAmong_6, show (9 : Int32) = nI 9 from rfl, if_pos (by rw [zLe (by omega) (by omega)]; omega)]
    exact ⟨x, rfl, fun b h => by rw [hb b h, show n = 9 by omega]⟩
  | succ j ih =>
    intro nn n x h1 h2 hb
    obtain ⟨i, rfl⟩ := zfuel h2
    have hsk : ∀ b, b ≠ n → decide (b < n + 1) = decide (b < n) := fun b h => by
      rw [decide_eq_decide]
      omega
    rw [p_X6_openAmong_6, show (9 : Int32) = nI 9 from rfl, if_neg (by rw [zLe (by omega) (by omega)]; omega), s_hasBit (by omega)]
    simp only [Option.bind_some, zq_0]
    rw [nI_1, nI_1, hx n (by omega)]
    simp only [show n < 9 by omega, decide_true, Bool.true_and]
    by_cases hq : Q n = true
    · rw [if_neg (by simpa using hq)]
      have hg : p_X6_goesOn (nI r) (nI (k + 1)) (nI n) N = some (zq (zex (fun m => zhO N r (k + 1) m && zex (fun c => zfit N m n c && P c) 0 9) 0 8 = true)) := s_goes3 vM vS hr hk (by omega) ho 8 5000 0 (by omega) (by omega)
      rw [hg]
      simp only [Option.bind_some, zq_0]
      by_cases hz : zex (fun m => zhO N r (k + 1) m && zex (fun c => zfit N m n c && P c) 0 9) 0 8 = true
      · rw [if_neg (by simpa using hz)]
        refine ih i (n + 1) _ (by omega) (by omega) (fun b h => ?_)
        rw [bt_or1 (by omega) h, hb b h]
        by_cases e : b = n
        · subst e
          simp [hq, hz]
        · rw [hsk b e]
          simp [e]
      · rw [if_pos hz]
        refine ih i (n + 1) _ (by omega) (by omega) (fun b h => ?_)
        rw [hb b h]
        by_cases e : b = n
        · subst e
          simp [hz]
        · rw [hsk b e]
    · rw [if_pos hq]
      refine ih i (n + 1) _ (by omega) (by omega) (fun b h => ?_)
      rw [hb b h]
      by_cases e : b = n
      · subst e
        simp [hq]
      · rw [hsk b e]
/-- from which notes the rest of the song can be read -/
def zop (M : zM) (r L k n : Nat) : Bool := ztO M r k n && decide (0 < zbW M r L (L - 1 - k) n)
theorem zbW_pos {M : zM} {r L j a : Nat} : 0 < zbW M r L (j + 1) a ↔ ∃ b m, b < 9 ∧ m < 8 ∧ zT M r (L - 1 - j) m a b = true ∧ 0 < zbW M r L j b := by
  rw [zbW, zsg_pos]
  constructor
  · rintro ⟨b, hb, h⟩
    have h1 := Nat.pos_of_mul_pos_right h
    have h2 := Nat.pos_of_mul_pos_left h
    have hc : 0 < zCt M r (L - 1 - j) a b := by first | exact h1 | exact h2
    have hw : 0 < zbW M r L j b := by first | exact h2 | exact h1
    rw [zCt, zsg_pos] at hc
    obtain ⟨m, hm, hmm⟩ := hc
    refine ⟨b, m, hb, hm, ?_, hw⟩
    by_cases ht : zT M r (L - 1 - j) m a b = true
    · exact ht
    · rw [if_neg ht] at hmm
      omega
  · rintro ⟨b, m, hb, hm, ht, hw⟩
    refine ⟨b, hb, Nat.mul_pos ?_ hw⟩
    rw [zCt, zsg_pos]
    exact ⟨m, hm, by rw [if_pos ht]; omega⟩
theorem zop_step {M : zM} {r L k n : Nat} (hk : k + 1 < L) : (ztO M r k n && zex (fun m => zhO M r (k + 1) m && zex (fun c => zfit M m n c && zop M r L (k + 1) c) 0 9) 0 8) = zop M r L k n := by
  rw [zop]
  congr 1
  rw [Bool.eq_iff_iff, decide_eq_true_eq, show L - 1 - k = (L - 1 - (k + 1)) + 1 by omega, zbW_pos, zex_iff, show L - 1 - (L - 1 - (k + 1)) = k + 1 by omega]
  constructor
  · rintro ⟨m, -, hm, h⟩
    simp only [Bool.and_eq_true] at h
    obtain ⟨h1, h2⟩ := h
    rw [zex_iff] at h2
    obtain ⟨b, -, hb, h3⟩ := h2
    simp only [zop, Bool.and_eq_true, decide_eq_true_eq] at h3
    exact ⟨b, m, by omega, by omega, by simp [zT, h1, h3.1, h3.2.1], h3.2.2⟩
  · rintro ⟨b, m, hb, hm, ht, hw⟩
    simp only [zT, Bool.and_eq_true] at ht
    refine ⟨m, by omega, by omega, ?_⟩
    simp only [Bool.and_eq_true]
    refine ⟨ht.1, ?_⟩
    rw [zex_iff]
    exact ⟨b, by omega, by omega, by simp [zop, ht.2.1, ht.2.2, hw]⟩
theorem zop_same {M N : zM} (h : zsame M N) : zop N = zop M := by
  funext r L k n
  unfold zop
  rw [(zhO_same h).2, zbW_same h]
theorem zbs_congr {x : Int32} {P Q : Nat → Bool} (h : zbs x P) (e : ∀ b, b < 9 → P b = Q b) : zbs x Q := fun b hb => by
  rw [h b hb]
  by_cases h9 : b < 9
  · rw [e b h9]
  · simp [h9]
theorem s_mark7 {r L : Nat} (hr : r < 3) (hL : L ≤ 12) : ∀ (k nn : Nat) (N : zM), zvMov N → zvSong N → N 3 4 = nI L → k ≤ L → k < nn → (∀ q, k ≤ q → q < L → zbs (N 36 q) (zop N r L q)) → ∃ N', p_X6_markOpen_7 (nI r) nn (nI k - 1) N = some N' ∧ zsame N N' ∧ ∀ q, q < L → zbs (N' 36 q) (zop N r L q) := by
  intro k
  induction k with
  | zero =>
    intro nn N vM vS hl h1 h2 hG
    obtain ⟨i, rfl⟩ := zfuel h2
    rw [p_X6_markOpen_7, if_pos (by decide)]
    exact ⟨N, rfl, zsame.rf, fun q hq => hG q (by omega) hq⟩
  | succ k ih =>
    intro nn N vM vS hl h1 h2 hG
    obtain ⟨i, rfl⟩ := zfuel h2
    have q1 := zix (m := k) (n := 12) (by omega) (by omega)
    obtain ⟨nt, t1, t2⟩ := s_notesFor (M := N) (r := r) (k := k) vS hr (by omega)
    have hLp : nI L - (1 : Int32) = nI (L - 1) := by rw [show (1 : Int32) = nI 1 from rfl, pk_sub (by omega)]
    have em : nI k + (-1 : Int32) = nI k - 1 := by
      rw [show (-1 : Int32) = iI (-1) from rfl, show (1 : Int32) = iI 1 from rfl, iI_nat, iI_add, iI_sub]
      congr 1
    rw [nI_pred, p_X6_markOpen_7, if_neg (nI_pos (by omega)), t1]
    simp only [Option.bind_some]
    rw [hl, hLp, em]
    simp only [zEqn (show k < 2 ^ 31 by omega) (show L - 1 < 2 ^ 31 by omega), q1, if_false]
    rw [zcl' (by omega)]
    have go : ∀ y, zbs y (zop N r L k) → ∃ N', p_X6_markOpen_7 (nI r) i (nI k - 1) (zset N 36 k y) = some N' ∧ zsame N N' ∧ ∀ q, q < L → zbs (N' 36 q) (zop N r L q) := by
      intro y hy
      have sN : zsame N (zset N 36 k y) := zsame.rf.set (by simp [zscr])
      obtain ⟨N2, b1, b2, b3⟩ := ih i _ (zvMov_same sN vM) (zvSong_same sN vS) (by rw [zs_ne (by decide)]; exact hl) (by omega) (by omega) (fun q hq hq2 => by
        rw [zop_same sN, zs_eq]
        by_cases e : q = k
        · subst e
          rw [if_pos rfl]
          exact hy
        · rw [if_neg e]
          exact hG q (by omega) hq2)
      exact ⟨N2, b1, sN.tr b2, fun q hq => by rw [← zop_same sN]; exact b3 q hq⟩
    by_cases hkL : k = L - 1
    · rw [if_pos hkL]
      refine go nt (zbs_congr t2 (fun b hb => ?_))
      rw [zop, show L - 1 - k = 0 by omega, zbW]
      simp
    · rw [if_neg hkL]
      obtain ⟨y, y1, y2⟩ := s_open6 (N := N) (r := r) (k := k) (x3 := nt) (P := zop N r L (k + 1)) (Q := ztO N r k) vM vS hr (by omega) (hG (k + 1) (by omega) (by omega)) t2 9 5000 0 0 (by omega) (by omega) (fun b _ => by rw [b_0]; simp)
      have y1' : p_X6_openAmong (nI r) (nI k) nt N = some y := y1
      rw [y1']
      simp only [Option.bind_some]
      exact go y (zbs_congr y2 (fun b hb => zop_step (by omega)))
theorem s_markOpen {r L : Nat} {N : zM} (hr : r < 3) (hL : L ≤ 12) (vM : zvMov N) (vS : zvSong N) (hl : N 3 4 = nI L) : ∃ N', p_X6_markOpen (nI r) N = some N' ∧ zsame N N' ∧ ∀ q, q < L → zbs (N' 36 q) (zop N r L q) := by
  have := s_mark7 hr hL L 5000 N vM vS hl (by omega) (by omega) (fun q h1 h2 => by omega)
  rw [p_X6_markOpen, hl]
  exact this
/-! the first step, note by note and movement by movement -/
theorem zsr_app {f : Nat → Bool} (k : Nat) : ∀ (j i : Nat), zsr f (j + k) i = match zsr f j i with
    | some q => some q
    | none => zsr f k (i + j)
  | 0, i => by simp [zsr]
  | j + 1, i => by
    rw [show j + 1 + k = (j + k) + 1 by omega, zsr, zsr]
    by_cases h : f i = true
    · rw [if_pos h, if_pos h]
    · rw [if_neg h, if_neg h, zsr_app k j (i + 1), show i + 1 + j = i + (j + 1) by omega]
def zPq (M : zM) (r L k a : Nat) (q : Nat) : Bool := zT M r k (q % 8) a (q / 8) && decide (0 < zbW M r L (L - 1 - k) (q / 8))
theorem s_first13 {N : zM} {r L k a n : Nat} {k3 : Int32 → Option Int32} (vM : zvMov N) (vS : zvSong N) (hr : r < 3) (hk : k < 12) (ha : a ≤ 9) (hn : n < 9) (ho : zbs (N 36 k) (zop N r L k)) : ∀ (j nn m : Nat), m + j = 8 → j < nn → p_X6_firstStep_13 k3 (nI r) (nI k) (aI a) (nI n) N nn (nI m) = match zsr (zPq N r L k a) j (8 * n + m) with
    | some q => some (nI (16 * (q / 8) + q % 8))
    | none => k3 (nI (n + 1)) := by
  have q2 := zix (m := k) (n := 12) hk (by omega)
  intro j
  induction j with
  | zero =>
    intro nn m h1 h2
    obtain ⟨i, rfl⟩ := zfuel h2
    rw [p_X6_firstStep_13, show (8 : Int32) = nI 8 from rfl, if_pos (by rw [zLe (by omega) (by omega)]; omega), nI_1]
    rfl
  | succ j ih =>
    intro nn m h1 h2
    obtain ⟨i, rfl⟩ := zfuel h2
    have d1 : (8 * n + m) / 8 = n := by omega
    have d2 : (8 * n + m) % 8 = m := by omega
    have eP : zPq N r L k a (8 * n + m) = (zop N r L k n && (zhO N r k m && zfit N m a n)) := by
      rw [zPq, d1, d2, zT, zop]
      cases zhO N r k m <;> cases ztO N r k n <;> cases zfit N m a n <;> simp
    rw [p_X6_firstStep_13, show (8 : Int32) = nI 8 from rfl, if_neg (by rw [zLe (by omega) (by omega)]; omega)]
    simp only [q2, if_false]
    rw [zcl' (by omega), s_hasBit (by omega), ho n (by omega), zsr, eP]
    simp only [Option.bind_some, zq_0, show n < 9 by omega, decide_true, Bool.true_and]
    rw [nI_1]
    by_cases c1 : zop N r L k n = true
    · rw [if_neg (by simpa using c1), s_hasHead vS hr hk (by omega)]
      simp only [Option.bind_some, zq_0]
      by_cases c2 : zhO N r k m = true
      · rw [if_neg (by simpa using c2), s_joins vM (by omega) ha hn]
        simp only [Option.bind_some, zq_0]
        by_cases c3 : zfit N m a n = true
        · rw [if_neg (by simpa using c3), if_pos (by simp [c1, c2, c3]), show (16 : Int32) = nI 16 from rfl, pk_mul, nI_add]
          show some (nI (16 * n + m)) = some (nI (16 * ((8 * n + m) / 8) + (8 * n + m) % 8))
          rw [d1, d2]
        · rw [if_pos c3, if_neg (by simp [c3]), ih i (m + 1) (by omega) (by omega), show 8 * n + (m + 1) = 8 * n + m + 1 by omega]
      · rw [if_pos c2, if_neg (by simp [c2]), ih i (m + 1) (by omega) (by omega), show 8 * n + (m + 1) = 8 * n + m + 1 by omega]
    · rw [if_pos c1, if_neg (by simp [c1]), ih i (m + 1) (by omega) (by omega), show 8 * n + (m + 1) = 8 * n + m + 1 by omega]
def eQ : Option Nat → Int32
  | none => -1
  | some q => nI (16 * (q / 8) + q % 8)
theorem s_first3 {N : zM} {r L k a : Nat} (vM : zvMov N) (vS : zvSong N) (hr : r < 3) (hk : k < 12) (ha : a ≤ 9) (ho : zbs (N 36 k) (zop N r L k)) : ∀ (j nn n : Nat), n + j = 9 → j < nn → p_X6_firstStep_3 (nI r) (nI k) (aI a) N nn (nI n) = some (eQ (zsr (zPq N r L k a) (8 * j) (8 * n))) := by
  intro j
  induction j with
  | zero =>
    intro nn n h1 h2
    obtain ⟨i, rfl⟩ := zfuel h2
    rw [p_X6_firstStep_3, show (9 : Int32) = nI 9 from rfl, if_pos (by rw [zLe (by omega) (by omega)]; omega)]
    rfl
  | succ j ih =>
    intro nn n h1 h2
    obtain ⟨i, rfl⟩ := zfuel h2
    have hs := s_first13 (k3 := p_X6_firstStep_3 (nI r) (nI k) (aI a) N i) (n := n) vM vS hr hk ha (by omega) ho 8 5000 0 (by omega) (by omega)
    rw [show nI 0 = 0 from rfl, Nat.add_zero] at hs
    rw [p_X6_firstStep_3, show (9 : Int32) = nI 9 from rfl, if_neg (by rw [zLe (by omega) (by omega)]; omega), hs, show 8 * (j + 1) = 8 + 8 * j by omega, zsr_app]
    cases zsr (zPq N r L k a) 8 (8 * n) with
    | some q => rfl
    | none =>
      rw [ih i (n + 1) (by omega) (by omega), show 8 * (n + 1) = 8 * n + 8 by omega]
theorem s_firstStep {N : zM} {r L k a : Nat} (vM : zvMov N) (vS : zvSong N) (hr : r < 3) (hk : k < 12) (ha : a ≤ 9) (ho : zbs (N 36 k) (zop N r L k)) : p_X6_firstStep (nI r) (nI k) (aI a) N = some (eQ (zsr (zPq N r L k a) 72 0)) := s_first3 vM vS hr hk ha ho 9 5000 0 (by omega) (by omega)
theorem zfs_ok {M : zM} {r L k a : Nat} (hk : k < L) (h : 0 < zbW M r L (L - k) a) : ∃ q, zsr (zPq M r L k a) 72 0 = some q ∧ q < 72 ∧ 0 < zbW M r L (L - (k + 1)) (q / 8) := by
  rw [show L - k = (L - 1 - k) + 1 by omega, zbW_pos, show L - 1 - (L - 1 - k) = k by omega] at h
  obtain ⟨b, m, hb, hm, ht, hw⟩ := h
  have hP : zPq M r L k a (8 * b + m) = true := by
    rw [zPq, show (8 * b + m) / 8 = b by omega, show (8 * b + m) % 8 = m by omega]
    simp [ht, hw]
  obtain ⟨q, a1, a2⟩ := pk_least (fun q => zPq M r L k a q = true) ⟨_, hP⟩
  have hq : q ≤ 8 * b + m := by
    rcases Nat.lt_or_ge (8 * b + m) q with h1 | h1
    · exact absurd hP (a2 _ h1)
    · exact h1
  refine ⟨q, zsr_some 72 0 (by omega) (by omega) a1 (fun j _ hj => by simpa using a2 j hj), by omega, ?_⟩
  rw [zPq, Bool.and_eq_true, decide_eq_true_eq] at a1
  rw [show L - (k + 1) = L - 1 - k by omega]
  exact a1.2
theorem zfs_no {M : zM} {r L k a : Nat} (hk : k < L) (h : zbW M r L (L - k) a = 0) : zsr (zPq M r L k a) 72 0 = none := by
  apply zsr_none
  intro q _ hq
  rw [Bool.eq_false_iff]
  intro hP
  rw [zPq, Bool.and_eq_true, decide_eq_true_eq] at hP
  have : 0 < zbW M r L (L - k) a := by
    rw [show L - k = (L - 1 - k) + 1 by omega, zbW_pos, show L - 1 - (L - 1 - k) = k by omega]
    exact ⟨q / 8, q % 8, by omega, by omega, hP.1, hP.2⟩
  omega
theorem eQ_n {q : Nat} (hq : q < 72) : ¬ eQ (some q) = -1 ∧ eQ (some q) / (16 : Int32) = nI (q / 8) := by
  rw [eQ]
  refine ⟨by rw [zm1 (by omega)]; exact id, ?_⟩
  rw [show (16 : Int32) = nI 16 from rfl, pk_div (by omega) (by omega) (by omega)]
  congr 1
  omega
theorem m_first111 {N : zM} {r L k a q : Nat} {x2 x4 : Int32} {k44 : Int32 → Int32 → Int32 → Option (Int32 × zM)} {k56 : Int32 → Int32 → Option (Int32 × zM)} (vM : zvMov N) (hk : k < L) (hL : L ≤ 12) (ha : a ≤ 9) (hq : q < 72) (hG : ∀ k c, k ≤ L → c < 10 → N 85 (10 * k + c) = nI (zcap (zbW N r L (L - k) c))) (hs : (zhO N r k (q % 8) && ztO N r k (q / 8)) = true) : p_X9_first_111 k44 k56 (nI r) x2 (nI a) x4 (nI k) (nI q) (nI (q / 8)) (nI (q % 8)) (aI a) (nI (q % 8)) N = if zPq N r L k a q = true then k56 (nI (16 * (q / 8) + q % 8)) (nI (q + 1)) else k56 x4 (nI (q + 1)) := by
  have q1 := zix (m := 10 * (k + 1) + q / 8) (n := 130) (by omega) (by omega)
  rw [p_X9_first_111, m_fitsSo vM (by omega) ha (by omega)]
  simp only [Option.bind_some, zq_0]
  rw [nI_1, nI_1, z10]
  simp only [q1, if_false]
  rw [zcl' (by omega), hG (k + 1) (q / 8) (by omega) (by omega)]
  have eP : zPq N r L k a q = (zfit N (q % 8) a (q / 8) && decide (0 < zbW N r L (L - (k + 1)) (q / 8))) := by
    rw [zPq, zT, show L - (k + 1) = L - 1 - k by omega]
    simp only [Bool.and_eq_true] at hs
    simp [hs.1, hs.2]
  rw [eP]
  by_cases c1 : zfit N (q % 8) a (q / 8) = true
  · rw [if_neg (by simpa using c1)]
    simp only [zcap0.1]
    by_cases c2 : zbW N r L (L - (k + 1)) (q / 8) = 0
    · rw [if_pos c2, if_neg (by simp [c2])]
    · rw [if_neg c2, if_pos (by simp [c1]; omega), show (16 : Int32) = nI 16 from rfl, pk_mul, nI_add]
  · rw [if_pos c1, if_neg (by simp [c1])]
theorem m_first56 {N : zM} {r L k a : Nat} {x2 : Int32} {k44 : Int32 → Int32 → Int32 → Option (Int32 × zM)} (vM : zvMov N) (vS : zvSong N) (hr : r < 3) (hk : k < L) (hL : L ≤ 12) (ha : a ≤ 9) (hG : ∀ k c, k ≤ L → c < 10 → N 85 (10 * k + c) = nI (zcap (zbW N r L (L - k) c))) : ∀ (j nn q : Nat), q + j = 72 → j + 1 < nn → p_X9_first_56 k44 (nI r) x2 (nI a) (nI k) N nn (-1) (nI q) = k44 (eQ (zsr (zPq N r L k a) j q) / 16) (eQ (zsr (zPq N r L k a) j q)) (nI (k + 1)) := by
  have hax : (if nI a = (9 : Int32) then (-1 : Int32) else nI a) = aI a := by
    rw [show (9 : Int32) = nI 9 from rfl]
    rcases Nat.lt_or_ge a 9 with h | h
    · rw [aI_n h, if_neg (by rw [zEqn (by omega) (by omega)]; omega)]
    · rw [show a = 9 by omega, if_pos rfl]
      rfl
  intro j
  induction j with
  | zero =>
    intro nn q h1 h2
    obtain ⟨i, rfl⟩ := zfuel h2
    rw [p_X9_first_56, show (72 : Int32) = nI 72 from rfl, if_pos (by rw [zLe (by omega) (by omega)]; omega), nI_1]
    rfl
  | succ j ih =>
    intro nn q h1 h2
    obtain ⟨i, rfl⟩ := zfuel h2
    have hdv : nI q / (8 : Int32) = nI (q / 8) := by rw [show (8 : Int32) = nI 8 from rfl, pk_div (by omega) (by omega) (by omega)]
    have hrm : nI q - nI (q / 8) * (8 : Int32) = nI (q % 8) := by
      rw [← hdv, show (8 : Int32) = nI 8 from rfl, pk_rem (by omega) (by omega) (by omega)]
    rw [p_X9_first_56, show (72 : Int32) = nI 72 from rfl, if_neg (by rw [zLe (by omega) (by omega)]; omega), if_pos rfl, hdv, hrm, m_isSung vS hr (by omega) (by omega) (by omega)]
    simp only [Option.bind_some, zq_0]
    have skip : zPq N r L k a q = false → p_X9_first_56 k44 (nI r) x2 (nI a) (nI k) N i (-1) (nI (q + 1)) = k44 (eQ (zsr (zPq N r L k a) (j + 1) q) / 16) (eQ (zsr (zPq N r L k a) (j + 1) q)) (nI (k + 1)) := by
      intro h0
      rw [zsr, h0, if_neg (by decide)]
      exact ih i (q + 1) (by omega) (by omega)
    have found : zPq N r L k a q = true → p_X9_first_56 k44 (nI r) x2 (nI a) (nI k) N i (nI (16 * (q / 8) + q % 8)) (nI (q + 1)) = k44 (eQ (zsr (zPq N r L k a) (j + 1) q) / 16) (eQ (zsr (zPq N r L k a) (j + 1) q)) (nI (k + 1)) := by
      intro h0
      obtain ⟨i', rfl⟩ : ∃ i', i = i' + 1 := ⟨i - 1, by omega⟩
      rw [zsr, h0, if_pos rfl, p_X9_first_56, if_neg (show ¬ nI (16 * (q / 8) + q % 8) = (-1 : Int32) by rw [zm1 (by omega)]; exact id), nI_1, eQ]
      split <;> rfl
    by_cases hs : (zhO N r k (q % 8) && ztO N r k (q / 8)) = true
    · rw [if_neg (by simpa using hs)]
      have key : p_X9_first_111 k44 (p_X9_first_56 k44 (nI r) x2 (nI a) (nI k) N i) (nI r) x2 (nI a) (-1) (nI k) (nI q) (nI (q / 8)) (nI (q % 8)) (aI a) (nI (q % 8)) N = k44 (eQ (zsr (zPq N r L k a) (j + 1) q) / 16) (eQ (zsr (zPq N r L k a) (j + 1) q)) (nI (k + 1)) := by
        rw [m_first111 vM hk hL ha (by omega) hG hs]
        by_cases hP : zPq N r L k a q = true
        · rw [if_pos hP]
          exact found hP
        · rw [if_neg hP]
          exact skip (by simpa using hP)
      rw [← hax] at key
      by_cases h9 : nI a = (9 : Int32)
      · rw [if_pos h9]
        rw [if_pos h9] at key
        exact key
      · rw [if_neg h9]
        rw [if_neg h9] at key
        exact key
    · rw [if_pos hs, nI_1]
      refine skip ?_
      rw [zPq, zT]
      simp only [Bool.not_eq_true, Bool.and_eq_false_iff] at hs
      rcases hs with h | h <;> simp [h]
/-- both ways, step for step -/
theorem first_both {N N2 : zM} {r L I : Nat} (vM : zvMov N) (vS : zvSong N) (wM : zvMov N2) (wS : zvSong N2) (hr : r < 3) (hL : L ≤ 12) (hI : I < L) (ho : ∀ q, q < L → zbs (N 36 q) (zop N r L q)) (hG : ∀ k c, k ≤ L → c < 10 → N2 85 (10 * k + c) = nI (zcap (zbW N2 r L (L - k) c))) (hs : zsame N N2) : ∀ (j nn k a : Nat) (x4 : Int32), k + j = I + 1 → j < nn → a ≤ 9 → 0 < zbW N r L (L - k) a → ∃ y, p_X6_firstRowAt_23 (nI r) (nI I) N nn (aI a) x4 (nI k) = some (y, N) ∧ p_X9_first_44 (nI r) (nI I) N2 nn (nI a) x4 (nI k) = some (y, N2) := by
  have eP : ∀ k a, zPq N2 r L k a = zPq N r L k a := by
    intro k a
    funext q
    unfold zPq
    rw [zT_same hs, zbW_same hs]
  intro j
  induction j with
  | zero =>
    intro nn k a x4 h1 h2 h3 h4
    obtain ⟨i, rfl⟩ := zfuel h2
    rw [p_X6_firstRowAt_23, p_X9_first_44, if_pos (by rw [zLt (by omega) (by omega)]; omega), if_pos (by rw [zLt (by omega) (by omega)]; omega)]
    exact ⟨x4, rfl, rfl⟩
  | succ j ih =>
    intro nn k a x4 h1 h2 h3 h4
    obtain ⟨i, rfl⟩ := zfuel h2
    obtain ⟨q, a1, a2, a3⟩ := zfs_ok (by omega) h4
    have hf := m_first56 (x2 := nI I) (k44 := p_X9_first_44 (nI r) (nI I) N2 i) wM wS hr (show k < L by omega) hL h3 hG 72 5000 0 (by omega) (by omega)
    rw [eP, a1, (eQ_n a2).2, show nI 0 = 0 from rfl] at hf
    rw [p_X6_firstRowAt_23, p_X9_first_44, if_neg (by rw [zLt (by omega) (by omega)]; omega), if_neg (by rw [zLt (by omega) (by omega)]; omega), s_firstStep vM vS hr (by omega) h3 (ho k (by omega)), a1, hf]
    simp only [Option.bind_some]
    rw [if_neg (eQ_n a2).1, (eQ_n a2).2, nI_1, ← aI_n (p := q / 8) (by omega)]
    obtain ⟨y, b1, b2⟩ := ih i (k + 1) (q / 8) (eQ (some q)) (by omega) (by omega) (by omega) a3
    rw [← aI_n (p := q / 8) (by omega)] at b2
    exact ⟨y, b1, b2⟩
theorem e_first (x1 x2 : Int32) {M : zM} (v : zInv M) : zAlike (p_X8_first x1 x2) (p_X9_first x1 x2) M := by
  have v1 := v.1
  have v3 := v.2.2.1
  obtain ⟨L, hL, e1, e2⟩ := zsong v3
  by_cases h : 0 ≤ x1 ∧ x1 ≤ 2
  · by_cases h2 : 0 ≤ x2
    · obtain ⟨r, hr, rfl⟩ := zup (n := 2) rfl (by decide) h
      by_cases hlt : x2 < nI L
      · obtain ⟨I, hI, rfl⟩ : ∃ I, I < L ∧ x2 = nI I := by
          have hx : 0 ≤ x2 ∧ x2 ≤ nI L - 1 := ⟨h2, by
            rw [fa_lt] at hlt
            rw [fa_le] at h2 ⊢
            have e0 : ((0 : Int32)).toInt = 0 := by decide
            rw [nI_toInt (by omega)] at hlt
            rw [show (1 : Int32) = nI 1 from rfl, pk_sub (by omega), nI_toInt (by omega)]
            omega⟩
          exact zbelow rfl (by omega) hx
        obtain ⟨N, a1, a2, a3⟩ := s_markOpen (r := r) (by omega) hL v1 v3 e2
        obtain ⟨N2, b1, b2, b3⟩ := m_readBy (r := r) (N := N) (by omega) hL (zvMov_same a2 v1) (zvSong_same a2 v3) (by rw [a2 9 11 rfl]; exact e1)
        rw [zbW_same a2] at b1
        have hG : ∀ k c, k ≤ L → c < 10 → N2 85 (10 * k + c) = nI (zcap (zbW N2 r L (L - k) c)) := fun k c hk hc => by rw [b3 k c hk hc, zbW_same b2]
        have ho : ∀ q, q < L → zbs (N 36 q) (zop N r L q) := fun q hq => by rw [zop_same a2]; exact a3 q hq
        have l2 : N2 9 11 = nI L := by rw [b2 9 11 rfl, a2 9 11 rfl]; exact e1
        by_cases hz : zbW M r L L 9 = 0
        · refine ⟨-1, N, N2, ?_, ?_, zInv_same (a2.tr b2) v⟩
          · have hno := zfs_no (M := N) (r := r) (L := L) (k := 0) (a := 9) (by omega) (by rw [Nat.sub_zero, zbW_same a2]; exact hz)
            have hst := s_firstStep (N := N) (r := r) (L := L) (k := 0) (a := 9) (zvMov_same a2 v1) (zvSong_same a2 v3) (by omega) (by omega) (by omega) (ho 0 (by omega))
            rw [hno, aI_9, show nI 0 = 0 from rfl] at hst
            have hrow : p_X6_firstRowAt_23 (nI r) (nI I) N 5000 (-1) (-1) 0 = some (-1, N) := by
              rw [show (5000 : Nat) = 4999 + 1 from rfl, p_X6_firstRowAt_23, if_neg (nI_pos (by omega)), hst]
              simp only [Option.bind_some]
              rw [if_pos (show eQ none = -1 from rfl)]
            simp [p_X8_first, p_X6_firstRowAt, s_isRegion, zq_0, h, h2, e2, hlt, a1, hrow]
          · rw [hz] at b1
            simp [p_X9_first, m_isRegion, zq_0, h, h2, b1, show nI (zcap 0) = 0 from rfl]
        · obtain ⟨y, c1, c2⟩ := first_both (N := N) (N2 := N2) (r := r) (zvMov_same a2 v1) (zvSong_same a2 v3) (zvMov_same (a2.tr b2) v1) (zvSong_same (a2.tr b2) v3) (by omega) hL hI ho hG b2 (I + 1) 5000 0 9 (-1) (by omega) (by omega) (by omega) (by rw [Nat.sub_zero, zbW_same a2]; omega)
          rw [aI_9, show nI 0 = 0 from rfl] at c1
          rw [show nI 9 = 9 from rfl, show nI 0 = 0 from rfl] at c2
          refine ⟨y, N, N2, ?_, ?_, zInv_same (a2.tr b2) v⟩
          · simp [p_X8_first, p_X6_firstRowAt, s_isRegion, zq_0, h, h2, e2, hlt, a1, c1]
          · simp [p_X9_first, m_isRegion, zq_0, h, h2, b1, zcap0.2, hz, l2, hlt, c2]
      · obtain ⟨N2, b1, b2, b3⟩ := m_readBy (r := r) (N := M) (by omega) hL v1 v3 e1
        refine ⟨-1, M, N2, ?_, ?_, zInv_same b2 v⟩
        · simp [p_X8_first, p_X6_firstRowAt, s_isRegion, zq_0, h, h2, e2, hlt]
        · have l2 : N2 9 11 = nI L := by rw [b2 9 11 rfl]; exact e1
          by_cases hz : zbW M r L L 9 = 0
          · rw [hz] at b1
            simp [p_X9_first, m_isRegion, zq_0, h, h2, b1, show nI (zcap 0) = 0 from rfl]
          · simp [p_X9_first, m_isRegion, zq_0, h, h2, b1, zcap0.2, hz, l2, hlt]
    · refine ⟨-3, M, M, ?_, ?_, v⟩ <;> simp [p_X8_first, p_X9_first, s_isRegion, m_isRegion, zq_0, h, h2]
  · refine ⟨-2, M, M, ?_, ?_, v⟩ <;> simp [p_X8_first, p_X9_first, s_isRegion, m_isRegion, zq_0, h]
