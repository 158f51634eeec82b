/-! ===== a song read: class ===== -/
theorem s_readOn18 {r k : Nat} {al : Int32} (hr : r < 3) (hk : k < 12) : ∀ (j nn i : Nat) (N : zM) (V : Nat → Nat), zvMov N → zvSong N → (∀ b, b < 32 → bt al b = (decide (b < 9) && ztO N r k b)) → (∀ c, c < 10 → N 34 c = nI (zcap (V c))) → N 35 0 = 0 → i + j = 10 → j < nn → (∀ c, c < 9 → N 35 (c + 1) = nI (zcap (zsg (fun i => V i * zCt N r k (zph i) c) i))) → ∃ N', p_X6_readOn_18 (nI r) (nI k) al nn (nI i - 1) N = some N' ∧ zsame N N' ∧ N' 34 0 = 0 ∧ ∀ c, c < 9 → N' 34 (c + 1) = nI (zcap (zsg (fun i => V i * zCt N r k (zph i) c) 10)) := by
  intro j
  induction j with
  | zero =>
    intro nn i N V vM vS hal hV h0 h1 h2 hS
    obtain ⟨n, rfl⟩ := zfuel h2
    have e : nI i - (1 : Int32) = nI 9 := by rw [show i = 10 by omega]; decide
    rw [p_X6_readOn_18, e, if_pos (by decide)]
    refine ⟨_, rfl, zsame.rf.row (fun b => by simp [zscr]), ?_, fun c hc => ?_⟩
    · rw [zrow, if_pos rfl, show (10 : Int32).toNatClampNeg = 10 from rfl, show (0 : Int32).toNatClampNeg = 0 from rfl, pk_cpy_in (by omega) (by omega)]
      exact h0
    · rw [zrow, if_pos rfl, show (10 : Int32).toNatClampNeg = 10 from rfl, show (0 : Int32).toNatClampNeg = 0 from rfl, pk_cpy_in (by omega) (by omega), Nat.zero_add, Nat.sub_zero, hS c hc, show i = 10 by omega]
  | succ j ih =>
    intro nn i N V vM vS hal hV h0 h1 h2 hS
    obtain ⟨n, rfl⟩ := zfuel h2
    have hlt : ¬ (9 : Int32) ≤ nI i - 1 := by
      rw [xI_ok (by omega)]
      have : zph i ≤ 9 := by unfold zph; split <;> omega
      rcases Nat.lt_or_ge (zph i) 9 with h | h
      · rw [aI_n h, show (9 : Int32) = nI 9 from rfl, zLe (by omega) (by omega)]
        omega
      · rw [show zph i = 9 by omega]
        decide
    obtain ⟨N1, a1, a2, a3⟩ := s_readOn28 (al := al) (V := V i) (k18 := p_X6_readOn_18 (nI r) (nI k) al n) hr hk (i := i) (by omega) 8 5000 0 N (fun c => zsg (fun i => V i * zCt N r k (zph i) c) i) vM vS hal (hV i (by omega)) (by omega) (by omega) (fun c hc => by rw [hS c hc, zsg, Nat.mul_zero, Nat.add_zero])
    rw [show nI 0 = 0 from rfl] at a1
    rw [p_X6_readOn_18, if_neg hlt, a1]
    have sN : zsame N N1 := fun a c e => a2 a c (Or.inl (fun q => by subst q; simp [zscr] at e))
    have e1 : nI i = nI (i + 1) - 1 := by rw [nI_pred]
    rw [e1]
    obtain ⟨N2, c1, c2, c3, c4⟩ := ih n (i + 1) N1 V (zvMov_same sN vM) (zvSong_same sN vS) (fun b hb => by rw [(zhO_same sN).2]; exact hal b hb) (fun c hc => by rw [a2 34 c (Or.inl (by decide))]; exact hV c hc) (by rw [a2 35 0 (Or.inr rfl)]; exact h0) (by omega) (by omega) (fun c hc => by rw [a3 c hc, zCt_same sN, zsg])
    refine ⟨N2, c1, sN.tr c2, c3, fun c hc => ?_⟩
    rw [c4 c hc, zCt_same sN]
theorem s_readOn {r k : Nat} {N : zM} {V : Nat → Nat} (hr : r < 3) (hk : k < 12) (vM : zvMov N) (vS : zvSong N) (hV : ∀ c, c < 10 → N 34 c = nI (zcap (V c))) : ∃ N', p_X6_readOn (nI r) (nI k) N = some N' ∧ zsame N N' ∧ N' 34 0 = 0 ∧ ∀ c, c < 9 → N' 34 (c + 1) = nI (zcap (zsg (fun i => V i * zCt N r k (zph i) c) 10)) := by
  have sN : zsame N (zfil N 35 0 10 (fun _ => 0)) := zsame.rf.fil (fun b => by simp [zscr])
  obtain ⟨al, l1, l2⟩ := s_notesFor (M := zfil N 35 0 10 (fun _ => 0)) (r := r) (k := k) (zvSong_same sN vS) hr hk
  obtain ⟨N2, c1, c2, c3, c4⟩ := s_readOn18 (al := al) hr hk 10 5000 0 (zfil N 35 0 10 (fun _ => 0)) V (zvMov_same sN vM) (zvSong_same sN vS) l2 (fun c hc => by rw [zfil_ne (by decide)]; exact hV c hc) (by rw [zfil_in (by omega)]) (by omega) (by omega) (fun c hc => by
    rw [zfil_in (by omega)]
    rfl)
  refine ⟨N2, ?_, sN.tr c2, c3, fun c hc => ?_⟩
  · rw [p_X6_readOn, j_fillA (by omega)]
    simp only [Option.bind_some]
    rw [l1]
    simp only [Option.bind_some]
    rw [show nI 0 - (1 : Int32) = -1 by decide] at c1
    exact c1
  · rw [c4 c hc, zCt_same sN]
theorem s_rows41 {N : zM} {V : Nat → Nat} (hV : ∀ c, c < 10 → N 34 c = nI (zcap (V c))) : ∀ (j nn i : Nat), i + j = 10 → j < nn → p_X6_rows_41 N nn (nI (zcap (zsg V i))) (nI i) = some (nI (zcap (zsg V 10)), N) := by
  intro j
  induction j with
  | zero =>
    intro nn i h1 h2
    obtain ⟨n, rfl⟩ := zfuel h2
    rw [p_X6_rows_41, show (9 : Int32) = nI 9 from rfl, if_pos (by rw [zLt (by omega) (by omega)]; omega), show i = 10 by omega]
  | succ j ih =>
    intro nn i h1 h2
    obtain ⟨n, rfl⟩ := zfuel h2
    have q1 := zix (m := i) (n := 10) (by omega) (by omega)
    have c1 := zcap_le (zsg V i)
    have c2 := zcap_le (V i)
    rw [p_X6_rows_41, show (9 : Int32) = nI 9 from rfl, if_neg (by rw [zLt (by omega) (by omega)]; omega)]
    simp only [q1, if_false]
    rw [zcl' (by omega), hV i (by omega), nI_add, nI_1, show (1000001 : Int32) = nI 1000001 from rfl]
    have e : (if nI (zcap (zsg V i) + zcap (V i)) < nI 1000001 then nI (zcap (zsg V i) + zcap (V i)) else nI 1000001) = nI (zcap (zsg V (i + 1))) := by
      rw [zsg, ← zcap_add2, zcap.eq_1 (zcap (zsg V i) + zcap (V i))]
      simp only [zLt (show zcap (zsg V i) + zcap (V i) < 2 ^ 31 by omega) (show 1000001 < 2 ^ 31 by omega)]
      split <;> rfl
    rw [e]
    exact ih n (i + 1) (by omega) (by omega)
theorem s_rows17 {r L : Nat} (hr : r < 3) (hL : L ≤ 12) : ∀ (j nn k : Nat) (N : zM), zvMov N → zvSong N → N 3 4 = nI L → k + j = L → j < nn → (∀ c, c < 10 → N 34 c = nI (zcap (zfV N r k c))) → ∃ N', p_X6_rows_17 (nI r) nn (nI k) N = some (nI (zcap (zsg (fun i => zfV N r L i) 10)), N') ∧ zsame N N' := by
  intro j
  induction j with
  | zero =>
    intro nn k N vM vS hl h1 h2 hV
    obtain ⟨n, rfl⟩ := zfuel h2
    rw [p_X6_rows_17, hl, if_pos (by rw [zLe (by omega) (by omega)]; omega)]
    refine ⟨N, ?_, zsame.rf⟩
    have e : k = L := by omega
    subst e
    exact s_rows41 (V := fun i => zfV N r k i) hV 10 5000 0 (by omega) (by omega)
  | succ j ih =>
    intro nn k N vM vS hl h1 h2 hV
    obtain ⟨n, rfl⟩ := zfuel h2
    rw [p_X6_rows_17, hl, if_neg (by rw [zLe (by omega) (by omega)]; omega)]
    obtain ⟨N1, a1, a2, a3, a4⟩ := s_readOn (r := r) (k := k) (N := N) (V := fun c => zfV N r k c) hr (by omega) vM vS hV
    rw [a1]
    simp only [Option.bind_some]
    rw [nI_1]
    have hf : ∀ k i, zfV N1 r k i = zfV N r k i := by
      intro k
      induction k with
      | zero => intro i; rfl
      | succ k ihk =>
        intro i
        rw [zfV, zfV, zCt_same a2]
        split
        · rfl
        · apply zsg_congr
          intro q _
          rw [ihk]
    obtain ⟨N2, b1, b2⟩ := ih n (k + 1) N1 (zvMov_same a2 vM) (zvSong_same a2 vS) (by rw [a2 3 4 rfl]; exact hl) (by omega) (by omega) (fun c hc => by
      rw [hf, zfV]
      by_cases h0 : c = 0
      · subst h0
        rw [if_pos rfl, a3]
        rfl
      · rw [if_neg h0]
        obtain ⟨c', rfl⟩ : ∃ c', c = c' + 1 := ⟨c - 1, by omega⟩
        rw [a4 c' (by omega)]
        rfl)
    refine ⟨N2, ?_, a2.tr b2⟩
    rw [b1]
    congr 3
    congr 1
    apply zsg_congr
    intro i _
    exact hf L i
/-- how many rows: class -/
theorem s_rows {r L : Nat} {N : zM} (hr : r < 3) (hL : L ≤ 12) (vM : zvMov N) (vS : zvSong N) (hl : N 3 4 = nI L) : ∃ N', p_X6_rows (nI r) N = some (nI (zcap (zbW N r L L 9)), N') ∧ zsame N N' := by
  have s1 : zsame N (zset (zfil N 34 0 10 (fun _ => 0)) 34 0 1) := (zsame.rf.fil (fun b => by simp [zscr])).set rfl
  obtain ⟨N2, b1, b2⟩ := s_rows17 hr hL L 5000 0 (zset (zfil N 34 0 10 (fun _ => 0)) 34 0 1) (zvMov_same s1 vM) (zvSong_same s1 vS) (by rw [s1 3 4 rfl]; exact hl) (by omega) (by omega) (fun c hc => by
    rw [zs_eq]
    by_cases h0 : c = 0
    · rw [if_pos h0, zfV, if_pos h0]
      rfl
    · rw [if_neg h0, zfil_in (by omega), zfV, if_neg h0]
      rfl)
  refine ⟨N2, ?_, s1.tr b2⟩
  rw [p_X6_rows, j_fillA (by omega)]
  simp only [Option.bind_some]
  rw [show (0 : Int32).toNatClampNeg = 0 from rfl, ← zbW_same s1, ← zcount_all]
  exact b1
/-! ===== a song read: reference ===== -/
theorem m_plus {a b : Nat} (ha : a ≤ 1000001) (hb : b ≤ 1000001) : p_X9_plus (nI a) (nI b) = some (nI (zcap (a + b))) := by
  rw [p_X9_plus, nI_add, show (1000001 : Int32) = nI 1000001 from rfl, zcap]
  simp only [zLe (show a + b < 2 ^ 31 by omega) (show 1000001 < 2 ^ 31 by omega)]
  by_cases h : a + b < 1000001
  · rw [if_pos h, if_pos (by omega)]
  · rw [if_neg h]
    by_cases h2 : a + b ≤ 1000001
    · rw [if_pos h2, show a + b = 1000001 by omega]
    · rw [if_neg h2]
theorem m_isSung {M : zM} {r k n m : Nat} (v : zvSong M) (hr : r < 3) (hk : k < 12) (hn : n < 9) (hm : m < 8) : p_X9_isSung (nI r) (nI k) (nI n) (nI m) M = some (zq ((zhO M r k m && ztO M r k n) = true)) := by
  obtain ⟨a1, a2, a3⟩ := zhd_ok v hr hm
  obtain ⟨b1, b2, b3⟩ := zsy_ok v hk
  obtain ⟨c1, c2, c3⟩ := ztl_ok v hr hn
  have q1 := zix (m := 8 * r + m) (n := 24) (by omega) (by omega)
  have q2 := zix (m := 9 * r + n) (n := 27) (by omega) (by omega)
  have q3 := zix (m := k) (n := 12) hk (by omega)
  rw [p_X9_isSung, z8, z9]
  simp only [q1, q2, q3, if_false]
  rw [zcl' (by omega), zcl' (by omega), zcl' (by omega), a2, b2, c2, z4]
  simp only [zEqn (show 4 * zhd M r m + ztl M r n < 2 ^ 31 by omega) (show zsy M k < 2 ^ 31 by omega)]
  by_cases h : 4 * zhd M r m + ztl M r n = zsy M k
  · rw [if_pos h]
    have h1 : zhd M r m = zsy M k / 4 := by omega
    have h2 : ztl M r n = zsy M k % 4 := by omega
    simp [zhO, ztO, h1, h2, zq]
  · rw [if_neg h]
    have h1 : ¬ (zhd M r m = zsy M k / 4 ∧ ztl M r n = zsy M k % 4) := by omega
    have : (zhO M r k m && ztO M r k n) = false := by
      rw [Bool.eq_false_iff]
      intro q
      simp only [zhO, ztO, Bool.and_eq_true, decide_eq_true_eq] at q
      exact h1 q
    rw [this]
    rfl
theorem z10 (m i : Nat) : (10 : Int32) * nI m + nI i = nI (10 * m + i) := by rw [show (10 : Int32) = nI 10 from rfl, pk_mul, nI_add]
theorem m_read64 {N : zM} {r k a n X : Nat} {W : Nat → Nat} {k36 k42 : Int32 → zM → Option (Int32 × zM)} {k54 : Int32 → Int32 → Option (Int32 × zM)} (vM : zvMov N) (vS : zvSong N) (hr : r < 3) (hk : k < 12) (ha : a ≤ 9) (hn : n < 9) (hW : ∀ n, n < 9 → N 85 (10 * (k + 1) + n) = nI (zcap (W n))) : ∀ (j nn m : Nat), m + j = 8 → j < nn → p_X9_readBy_64 k36 k42 k54 (nI r) (nI k) (nI a) (nI n) N nn (nI (zcap (X + zsg (fun m => if zT N r k m a n then 1 else 0) m * W n))) (nI m) = k54 (nI (zcap (X + zCt N r k a n * W n))) (nI (n + 1)) := by
  have hax : (if nI a = (9 : Int32) then (-1 : Int32) else nI a) = aI a := by
    rw [show (9 : Int32) = nI 9 from rfl]
    rcases Nat.lt_or_ge a 9 with h | h
    · rw [aI_n h, if_neg (by rw [zEqn (by omega) (by omega)]; omega)]
    · rw [show a = 9 by omega, if_pos rfl]
      rfl
  have q1 := zix (m := 10 * (k + 1) + n) (n := 130) (by omega) (by omega)
  intro j
  induction j with
  | zero =>
    intro nn m h1 h2
    obtain ⟨i, rfl⟩ := zfuel h2
    rw [p_X9_readBy_64, show (8 : Int32) = nI 8 from rfl, if_pos (by rw [zLe (by omega) (by omega)]; omega), nI_1, zCt, show m = 8 by omega]
  | succ j ih =>
    intro nn m h1 h2
    obtain ⟨i, rfl⟩ := zfuel h2
    rw [p_X9_readBy_64, show (8 : Int32) = nI 8 from rfl, if_neg (by rw [zLe (by omega) (by omega)]; omega), m_isSung vS hr hk hn (by omega)]
    simp only [Option.bind_some, zq_0]
    have skip : zT N r k m a n = false → p_X9_readBy_64 k36 k42 k54 (nI r) (nI k) (nI a) (nI n) N i (nI (zcap (X + zsg (fun m => if zT N r k m a n then 1 else 0) m * W n))) (nI (m + 1)) = k54 (nI (zcap (X + zCt N r k a n * W n))) (nI (n + 1)) := by
      intro h0
      have := ih i (m + 1) (by omega) (by omega)
      rw [zsg, h0, if_neg (by decide), Nat.add_zero] at this
      exact this
    by_cases hs : (zhO N r k m && ztO N r k n) = true
    · rw [if_neg (by simpa using hs)]
      have key : p_X9_readBy_98 k36 k42 k54 (p_X9_readBy_64 k36 k42 k54 (nI r) (nI k) (nI a) (nI n) N i) (nI r) (nI k) (nI a) (nI (zcap (X + zsg (fun m => if zT N r k m a n then 1 else 0) m * W n))) (nI n) (nI m) (aI a) (nI m) N = k54 (nI (zcap (X + zCt N r k a n * W n))) (nI (n + 1)) := by
        rw [p_X9_readBy_98, m_fitsSo vM (by omega) ha hn]
        simp only [Option.bind_some, zq_0]
        rw [nI_1, nI_1, z10]
        simp only [q1, if_false]
        rw [zcl' (by omega), hW n hn, m_plus (zcap_le _) (zcap_le _)]
        simp only [Option.bind_some]
        by_cases hf : zfit N m a n = true
        · have ht : zT N r k m a n = true := by
            simp only [Bool.and_eq_true] at hs
            simp [zT, hs.1, hs.2, hf]
          have := ih i (m + 1) (by omega) (by omega)
          rw [zsg, if_pos ht, Nat.add_mul, Nat.one_mul, ← Nat.add_assoc, ← zcap_add2] at this
          rw [if_neg (by simpa using hf)]
          exact this
        · rw [if_pos hf]
          exact skip (by simp [zT, hf])
      rw [← hax] at key
      by_cases h9 : nI a = (9 : Int32)
      · rw [if_pos h9]
        rw [if_pos h9] at key
        exact key
      · rw [if_neg h9]
        rw [if_neg h9] at key
        exact key
    · rw [if_pos hs, nI_1]
      refine skip ?_
      simp only [Bool.not_eq_true, Bool.and_eq_false_iff] at hs
      rcases hs with h | h <;> simp [zT, h]
theorem m_read54 {N : zM} {r k a : Nat} {W : Nat → Nat} {k36 k42 : Int32 → zM → Option (Int32 × zM)} (vM : zvMov N) (vS : zvSong N) (hr : r < 3) (hk : k < 12) (ha : a ≤ 9) (hW : ∀ n, n < 9 → N 85 (10 * (k + 1) + n) = nI (zcap (W n))) : ∀ (j nn n : Nat), n + j = 9 → j < nn → p_X9_readBy_54 k36 k42 (nI r) (nI k) (nI a) N nn (nI (zcap (zsg (fun n => zCt N r k a n * W n) n))) (nI n) = k42 (nI (a + 1)) (zset N 85 (10 * k + a) (nI (zcap (zsg (fun n => zCt N r k a n * W n) 9)))) := by
  have q1 := zix (m := 10 * k + a) (n := 130) (by omega) (by omega)
  intro j
  induction j with
  | zero =>
    intro nn n h1 h2
    obtain ⟨i, rfl⟩ := zfuel h2
    rw [p_X9_readBy_54, show (9 : Int32) = nI 9 from rfl, if_pos (by rw [zLe (by omega) (by omega)]; omega), z10]
    simp only [q1, if_false]
    rw [zcl' (by omega), nI_1, show n = 9 by omega]
  | succ j ih =>
    intro nn n h1 h2
    obtain ⟨i, rfl⟩ := zfuel h2
    rw [p_X9_readBy_54, show (9 : Int32) = nI 9 from rfl, if_neg (by rw [zLe (by omega) (by omega)]; omega)]
    have := m_read64 (k36 := k36) (k42 := k42) (k54 := p_X9_readBy_54 k36 k42 (nI r) (nI k) (nI a) N i) (n := n) (X := zsg (fun n => zCt N r k a n * W n) n) vM vS hr hk ha (by omega) hW 8 5000 0 (by omega) (by omega)
    rw [zsg, Nat.zero_mul, Nat.add_zero, show nI 0 = 0 from rfl] at this
    rw [this]
    have ih2 := ih i (n + 1) (by omega) (by omega)
    rw [zsg] at ih2
    exact ih2
theorem m_read42 {r k : Nat} {W : Nat → Nat} {k36 : Int32 → zM → Option (Int32 × zM)} (hr : r < 3) (hk : k < 12) : ∀ (j nn a : Nat) (N : zM), zvMov N → zvSong N → (∀ n, n < 10 → N 85 (10 * (k + 1) + n) = nI (zcap (W n))) → a + j = 10 → j < nn → (∀ c, c < a → N 85 (10 * k + c) = nI (zcap (zsg (fun n => zCt N r k c n * W n) 9))) → ∃ N', p_X9_readBy_42 k36 (nI r) (nI k) nn (nI a) N = k36 (nI k + (-1 : Int32)) N' ∧ zsame N N' ∧ (∀ x, 10 * (k + 1) ≤ x → N' 85 x = N 85 x) ∧ ∀ c, c < 10 → N' 85 (10 * k + c) = nI (zcap (zsg (fun n => zCt N r k c n * W n) 9)) := by
  intro j
  induction j with
  | zero =>
    intro nn a N vM vS hW h1 h2 hA
    obtain ⟨i, rfl⟩ := zfuel h2
    rw [p_X9_readBy_42, show (10 : Int32) = nI 10 from rfl, if_pos (by rw [zLe (by omega) (by omega)]; omega)]
    exact ⟨N, rfl, zsame.rf, fun _ _ => rfl, fun c hc => hA c (by omega)⟩
  | succ j ih =>
    intro nn a N vM vS hW h1 h2 hA
    obtain ⟨i, rfl⟩ := zfuel h2
    rw [p_X9_readBy_42, show (10 : Int32) = nI 10 from rfl, if_neg (by rw [zLe (by omega) (by omega)]; omega)]
    have h54 := m_read54 (k36 := k36) (k42 := p_X9_readBy_42 k36 (nI r) (nI k) i) (a := a) vM vS hr hk (by omega) (fun n hn => hW n (by omega)) 9 5000 0 (by omega) (by omega)
    rw [zsg, show nI (zcap 0) = 0 from rfl, show nI 0 = 0 from rfl] at h54
    rw [h54]
    have sN : zsame N (zset N 85 (10 * k + a) (nI (zcap (zsg (fun n => zCt N r k a n * W n) 9)))) := zsame.rf.set (by simp [zscr])
    obtain ⟨N2, b1, b2, b3, b4⟩ := ih i (a + 1) _ (zvMov_same sN vM) (zvSong_same sN vS) (fun n hn => by rw [zs_nj (by omega)]; exact hW n hn) (by omega) (by omega) (fun c hc => by
      rw [zCt_same sN, zs_eq]
      by_cases e : c = a
      · subst e
        rw [if_pos rfl]
      · rw [if_neg (by omega)]
        exact hA c (by omega))
    refine ⟨N2, b1, sN.tr b2, fun x hx => by rw [b3 x hx, zs_nj (by omega)], fun c hc => ?_⟩
    rw [b4 c hc, zCt_same sN]
theorem m_read36 {r L : Nat} (hr : r < 3) (hL : L ≤ 12) : ∀ (k nn : Nat) (N : zM), zvMov N → zvSong N → k ≤ L → k < nn → (∀ q c, k ≤ q → q ≤ L → c < 10 → N 85 (10 * q + c) = nI (zcap (zbW N r L (L - q) c))) → ∃ N', p_X9_readBy_36 (nI r) nn (nI k - 1) N = some (nI (zcap (zbW N r L L 9)), N') ∧ zsame N N' ∧ ∀ q c, q ≤ L → c < 10 → N' 85 (10 * q + c) = nI (zcap (zbW N r L (L - q) c)) := by
  intro k
  induction k with
  | zero =>
    intro nn N vM vS h1 h2 hG
    obtain ⟨i, rfl⟩ := zfuel h2
    rw [p_X9_readBy_36, if_pos (by decide), show (9 : Int32).toNatClampNeg = 9 from rfl]
    refine ⟨N, ?_, zsame.rf, fun q c hq hc => hG q c (by omega) hq hc⟩
    have := hG 0 9 (by omega) (by omega) (by omega)
    rw [Nat.mul_zero, Nat.zero_add, Nat.sub_zero] at this
    rw [this]
  | succ k ih =>
    intro nn N vM vS h1 h2 hG
    obtain ⟨i, rfl⟩ := zfuel h2
    rw [nI_pred, p_X9_readBy_36, if_neg (nI_pos (by omega))]
    obtain ⟨N1, a1, a2, a3, a4⟩ := m_read42 (r := r) (k := k) (W := fun n => zbW N r L (L - (k + 1)) n) (k36 := p_X9_readBy_36 (nI r) i) hr (by omega) 10 5000 0 N vM vS (fun n hn => hG (k + 1) n (by omega) (by omega) hn) (by omega) (by omega) (fun c hc => by omega)
    rw [show nI 0 = 0 from rfl] at a1
    rw [a1]
    have em : nI k + (-1 : Int32) = nI k - 1 := by
      rw [show (-1 : Int32) = iI (-1) from rfl, show (1 : Int32) = iI 1 from rfl, iI_nat, iI_add, iI_sub]
      congr 1
    rw [em]
    obtain ⟨N2, b1, b2, b3⟩ := ih i N1 (zvMov_same a2 vM) (zvSong_same a2 vS) (by omega) (by omega) (fun q c hq hq2 hc => by
      rw [zbW_same a2]
      rcases Nat.eq_or_lt_of_le hq with e | h
      · subst e
        rw [a4 c hc, show L - k = L - (k + 1) + 1 by omega, zbW, show L - 1 - (L - (k + 1)) = k by omega]
      · rw [a3 _ (by omega)]
        exact hG q c h hq2 hc)
    refine ⟨N2, ?_, a2.tr b2, fun q c hq hc => by rw [b3 q c hq hc, zbW_same a2]⟩
    rw [b1, zbW_same a2]
theorem m_read2 {r L : Nat} (hr : r < 3) (hL : L ≤ 12) : ∀ (j nn n : Nat) (N : zM), zvMov N → zvSong N → N 9 11 = nI L → n + j = 10 → j < nn → (∀ c, c < n → N 85 (10 * L + c) = 1) → ∃ N', p_X9_readBy_2 (nI r) nn (nI n) N = some (nI (zcap (zbW N r L L 9)), N') ∧ zsame N N' ∧ ∀ q c, q ≤ L → c < 10 → N' 85 (10 * q + c) = nI (zcap (zbW N r L (L - q) c)) := by
  intro j
  induction j with
  | zero =>
    intro nn n N vM vS hl h1 h2 hG
    obtain ⟨i, rfl⟩ := zfuel h2
    rw [p_X9_readBy_2, show (10 : Int32) = nI 10 from rfl, if_pos (by rw [zLe (by omega) (by omega)]; omega), hl]
    refine m_read36 hr hL L 5000 N vM vS (by omega) (by omega) (fun q c hq hq2 hc => ?_)
    rw [show q = L by omega, Nat.sub_self, zbW, hG c (by omega)]
    rfl
  | succ j ih =>
    intro nn n N vM vS hl h1 h2 hG
    obtain ⟨i, rfl⟩ := zfuel h2
    have q1 := zix (m := 10 * L + n) (n := 130) (by omega) (by omega)
    rw [p_X9_readBy_2, if_neg (show ¬ (10 : Int32) ≤ nI n by rw [show (10 : Int32) = nI 10 from rfl, zLe (by omega) (by omega)]; omega), hl, z10]
    simp only [q1, if_false]
    rw [zcl' (by omega), nI_1]
    have sN : zsame N (zset N 85 (10 * L + n) 1) := zsame.rf.set (by simp [zscr])
    obtain ⟨N2, b1, b2, b3⟩ := ih i (n + 1) _ (zvMov_same sN vM) (zvSong_same sN vS) (by rw [zs_ne (by decide)]; exact hl) (by omega) (by omega) (fun c hc => by
      rw [zs_eq]
      by_cases e : c = n
      · rw [if_pos (by omega)]
      · rw [if_neg (by omega)]
        exact hG c (by omega))
    refine ⟨N2, ?_, sN.tr b2, fun q c hq hc => by rw [b3 q c hq hc, zbW_same sN]⟩
    rw [b1, zbW_same sN]
/-- how many rows: reference; and its table -/
theorem m_readBy {r L : Nat} {N : zM} (hr : r < 3) (hL : L ≤ 12) (vM : zvMov N) (vS : zvSong N) (hl : N 9 11 = nI L) : ∃ N', p_X9_readBy (nI r) N = some (nI (zcap (zbW N r L L 9)), N') ∧ zsame N N' ∧ ∀ q c, q ≤ L → c < 10 → N' 85 (10 * q + c) = nI (zcap (zbW N r L (L - q) c)) :=
  m_read2 hr hL 10 5000 0 N vM vS hl (by omega) (by omega) (fun c hc => by omega)
theorem zsong {M : zM} (v : zvSong M) : ∃ L, L ≤ 12 ∧ M 9 11 = nI L ∧ M 3 4 = nI L := by
  obtain ⟨n, hn, e⟩ := zr_nat (hi := 12) v.2.2.1.2 (by decide)
  exact ⟨n, hn, e, v.2.2.1.1.trans e⟩
theorem e_read (x1 : Int32) {M : zM} (v : zInv M) : zAlike (p_X8_read x1) (p_X9_read x1) M := by
  have v1 := v.1
  have v3 := v.2.2.1
  obtain ⟨L, hL, e1, e2⟩ := zsong v3
  by_cases h : 0 ≤ x1 ∧ x1 ≤ 2
  · obtain ⟨r, hr, rfl⟩ := zup (n := 2) rfl (by decide) h
    obtain ⟨N, a1, a2⟩ := s_rows (r := r) (by omega) hL v1 v3 e2
    obtain ⟨N2, b1, b2, -⟩ := m_readBy (r := r) (N := N) (by omega) hL (zvMov_same a2 v1) (zvSong_same a2 v3) (by rw [a2 9 11 rfl]; exact e1)
    rw [zbW_same a2] at b1
    refine ⟨nI (zcap (zbW M r L L 9)), N, N2, ?_, ?_, zInv_same (a2.tr b2) v⟩
    · simp [p_X8_read, s_isRegion, zq_0, h, a1]
    · simp [p_X9_read, m_isRegion, zq_0, h, b1]
  · refine ⟨-2, M, M, ?_, ?_, v⟩ <;> simp [p_X8_read, p_X9_read, s_isRegion, m_isRegion, zq_0, h]
/-! home -/
theorem s_home6 {L : Nat} (hL : L ≤ 12) : ∀ (j nn r : Nat) (x1 x2 : Int32) (N N2 : zM), zvMov N → zvSong N → N 3 4 = nI L → N 9 11 = nI L → zvMov N2 → zvSong N2 → N2 9 11 = nI L → (∀ r, zbW N2 r L L 9 = zbW N r L L 9) → r + j = 3 → j < nn → ∃ y N' N2', p_X6_homeRegion_6 nn x1 x2 (nI r) N = some (y, N') ∧ zsame N N' ∧ p_X9_home_6 nn x1 x2 (nI r) N2 = some (y, N2') ∧ zsame N2 N2' := by
  intro j
  induction j with
  | zero =>
    intro nn r x1 x2 N N2 vM vS l1 l2 wM wS l3 hb h1 h2
    obtain ⟨i, rfl⟩ := zfuel h2
    rw [p_X6_homeRegion_6, p_X9_home_6, show (3 : Int32) = nI 3 from rfl, if_pos (by rw [zLe (by omega) (by omega)]; omega), if_pos (by rw [zLe (by omega) (by omega)]; omega)]
    exact ⟨x1, N, N2, rfl, zsame.rf, rfl, zsame.rf⟩
  | succ j ih =>
    intro nn r x1 x2 N N2 vM vS l1 l2 wM wS l3 hb h1 h2
    obtain ⟨i, rfl⟩ := zfuel h2
    rw [p_X6_homeRegion_6, p_X9_home_6, show (3 : Int32) = nI 3 from rfl, if_neg (by rw [zLe (by omega) (by omega)]; omega), if_neg (by rw [zLe (by omega) (by omega)]; omega)]
    obtain ⟨A, a1, a2⟩ := s_rows (r := r) (by omega) hL vM vS l1
    obtain ⟨B, b1, b2, -⟩ := m_readBy (r := r) (N := N2) (by omega) hL wM wS l3
    rw [a1, b1, hb r]
    simp only [Option.bind_some]
    rw [nI_1]
    have go : ∀ y1 y2, ∃ y N' N2', p_X6_homeRegion_6 i y1 y2 (nI (r + 1)) A = some (y, N') ∧ zsame N N' ∧ p_X9_home_6 i y1 y2 (nI (r + 1)) B = some (y, N2') ∧ zsame N2 N2' := by
      intro y1 y2
      obtain ⟨y, N', N2', c1, c2, c3, c4⟩ := ih i (r + 1) y1 y2 A B (zvMov_same a2 vM) (zvSong_same a2 vS) (by rw [a2 3 4 rfl]; exact l1) (by rw [a2 9 11 rfl]; exact l2) (zvMov_same b2 wM) (zvSong_same b2 wS) (by rw [b2 9 11 rfl]; exact l3) (fun r => by rw [zbW_same b2, zbW_same a2, hb r]) (by omega) (by omega)
      exact ⟨y, N', N2', c1, a2.tr c2, c3, b2.tr c4⟩
    by_cases c1 : nI (zcap (zbW N r L L 9)) ≤ 0
    · simp only [if_pos c1]
      exact go _ _
    · simp only [if_neg c1]
      by_cases c2 : x1 = -1
      · simp only [if_pos c2]
        exact go _ _
      · simp only [if_neg c2]
        by_cases c3 : x2 ≤ nI (zcap (zbW N r L L 9))
        · simp only [if_pos c3]
          exact go _ _
        · simp only [if_neg c3]
          exact go _ _
theorem e_home {M : zM} (v : zInv M) : zAlike p_X8_home p_X9_home M := by
  have v1 := v.1
  have v3 := v.2.2.1
  obtain ⟨L, hL, e1, e2⟩ := zsong v3
  obtain ⟨y, N, -, a1, a2, -, -⟩ := s_home6 hL 3 5000 0 (-1) 0 M M v1 v3 e2 e1 v1 v3 e1 (fun _ => rfl) (by omega) (by omega)
  obtain ⟨y', N', N2, b1, b2, b3, b4⟩ := s_home6 hL 3 5000 0 (-1) 0 M N v1 v3 e2 e1 (zvMov_same a2 v1) (zvSong_same a2 v3) (by rw [a2 9 11 rfl]; exact e1) (fun r => zbW_same a2 r L L 9) (by omega) (by omega)
  rw [b1] at a1
  cases a1
  refine ⟨y, N, N2, ?_, b3, zInv_same (b2.tr b4) v⟩
  have : p_X6_homeRegion M = some (y, N) := b1
  simp [p_X8_home, this]
