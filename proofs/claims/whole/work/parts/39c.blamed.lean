/-! ===== blamed ===== -/
/-- whether a cell is wrong by the chosen ground -/
def zwf (M : zM) (ns n c s j : Nat) : Nat := match zso (zcs M c s) n 0 j with
  | none => 0
  | some q => zwr M c s q.1 q.2 (zga M ns n c q.1) (zga M ns n c ((q.1 + 1) % n))
theorem zso_pos {f : Nat → Nat} {q : Nat × Nat} : ∀ (k i left : Nat), zso f k i left = some q → left = zsg (fun t => f (i + t)) (q.1 - i) + q.2
  | 0, i, left, h => by simp [zso] at h
  | k + 1, i, left, h => by
    have hr := zso_rng _ _ _ h
    rw [zso] at h
    split at h
    · cases h
      rw [Nat.sub_self, zsg, Nat.zero_add]
    · next hl =>
      have h1 := zso_pos k (i + 1) _ h
      have hr2 := zso_rng _ _ _ h
      have e : q.1 - i = q.1 - (i + 1) + 1 := by omega
      rw [e, zsg_head, zsg_congr (f := fun t => f (i + (t + 1))) (g := fun t => f (i + 1 + t)) (fun t _ => by rw [show i + (t + 1) = i + 1 + t by omega]), Nat.add_zero]
      omega
theorem zwf_at {M : zM} {ns n c s k l : Nat} (hk : k < n) (hl : l < zcs M c s k) : zwf M ns n c s (zsg (zcs M c s) k + l) = zwr M c s k l (zga M ns n c k) (zga M ns n c ((k + 1) % n)) := by
  have h := zso_at (f := zcs M c s) (l := l) k n 0 hk (by rw [Nat.zero_add]; exact hl)
  have e : zsg (fun t => zcs M c s (0 + t)) k = zsg (zcs M c s) k := zsg_congr (fun t _ => by rw [Nat.zero_add])
  rw [e, Nat.zero_add] at h
  rw [zwf, h]
theorem zwf_le (M : zM) (ns n c s j : Nat) : zwf M ns n c s j ≤ 1 := by
  unfold zwf
  split
  · omega
  · unfold zwr
    repeat' split
    all_goals omega
theorem s_isWrong {M N : zM} {ns n c s j : Nat} (v : zSh M ns n c) (hs : s < ns) (hj : j < zsz M n c s) (hN : zsame M N) (hg : ∀ x, x < n → N 69 x = nI (zga M ns n c x)) : p_X5_isWrong (nI s) (nI j) N = some (nI (zwf M ns n c s j)) := by
  obtain ⟨v4, v6, h1, h0, h2, h3, b1, b2, b3, b4, b5, b6⟩ := id v
  have hsz : zsz M n c s ≤ n * 4 := zcs_le (c := c) v4 v6 (s := s) (by omega) n
  have q1 := zix (m := s) (n := 3) (by omega) (by omega)
  have q2 := zix (m := j) (n := 64) (by omega) (by omega)
  obtain ⟨r1, r2, r3⟩ := zru_ok v6 (show s < 3 by omega)
  obtain ⟨q, u1, u2, u3, u4, u5⟩ := zsrc_ok v hs hj
  obtain ⟨t1, t2⟩ := ztd_ok v6 (show s < 3 by omega) (show j < 64 by omega)
  have hp := zpa_rng v4 r1 u4
  have hm := Nat.mod_lt (q.1 + 1) (show 0 < n by omega)
  have hsrc : p_X4_source (nI (zru M s)) (nI n) (nI c) (nI j) N = some (nI (zsrc M n c s j)) := by
    rw [s_source (zvRules_same hN v4) r1 h3 h2 (by omega), zcf_same hN, u1, eV_same hN, eV, ← u2]
  have hpos : j = zsg (zcs M c s) q.1 + q.2 := by
    have := zso_pos _ _ _ u1
    rw [Nat.sub_zero, zsg_congr (f := fun t => zcs M c s (0 + t)) (g := zcs M c s) (fun t _ => by rw [Nat.zero_add])] at this
    exact this
  have hti : zti M c s q.1 q.2 = ztd M s j := by rw [zti, ← hpos]
  have h42 : ∀ t0 : Int32, t0 = (if zpa M (zru M s) c q.1 q.2 = 9 then nI (zga M ns n c q.1) else if zpa M (zru M s) c q.1 q.2 = 10 then nI (zga M ns n c ((q.1 + 1) % n)) else nI (zpa M (zru M s) c q.1 q.2)) → p_X5_isWrong_42 (nI s) (nI j) t0 N = some (nI (zwf M ns n c s j)) := by
    intro t0 ht
    have hw : zwf M ns n c s j = if ztd M s j = -1 then 0 else if t0 = ztd M s j then 0 else 1 := by
      rw [zwf, u1]
      show zwr M c s q.1 q.2 _ _ = _
      rw [zwr, hti, ← ht]
    rw [p_X5_isWrong_42]
    simp only [q1, q2, if_false]
    rw [zcl' (by omega), zcl' (by omega), hN (48 + s) j (by simp [zscr]; omega), t1, hw]
    by_cases c1 : ztd M s j = -1
    · rw [if_pos c1, if_pos c1]
      rfl
    · rw [if_neg c1, if_neg c1]
      by_cases c2 : ztd M s j = t0
      · rw [if_pos c2, if_pos c2.symm]
        rfl
      · rw [if_neg c2, if_neg (fun e => c2 e.symm)]
        rfl
  rw [p_X5_isWrong]
  simp only [q1, if_false]
  rw [zcl' (by omega), hN 45 s (by simp [zscr]), r3, hN 6 5 rfl, hN 6 6 rfl, b4, b6, hsrc, Option.bind_some, show (16 : Int32) = nI 16 from rfl]
  simp only [zLe (show 16 < 2 ^ 31 by omega) (show zsrc M n c s j < 2 ^ 31 by omega)]
  rw [u2, zsv]
  by_cases c9 : zpa M (zru M s) c q.1 q.2 = 9
  · have q3 := zix (m := q.1) (n := 16) (by omega) (by omega)
    rw [if_pos c9, if_pos (by omega), pk_sub (by omega), show 16 + q.1 - 16 = q.1 by omega]
    simp only [q3, if_false]
    rw [zcl' (by omega), hg q.1 u3]
    exact h42 _ (by rw [if_pos c9])
  · by_cases c10 : zpa M (zru M s) c q.1 q.2 = 10
    · have q3 := zix (m := (q.1 + 1) % n) (n := 16) (by omega) (by omega)
      rw [if_neg c9, if_pos c10, if_pos (by omega), pk_sub (by omega), show 16 + (q.1 + 1) % n - 16 = (q.1 + 1) % n by omega]
      simp only [q3, if_false]
      rw [zcl' (by omega), hg _ hm]
      exact h42 _ (by rw [if_neg c9, if_pos c10])
    · rw [if_neg c9, if_neg c10, if_neg (by omega)]
      exact h42 _ (by rw [if_neg c9, if_neg c10])
theorem s_wrongCells {M N : zM} {ns n c s : Nat} (v : zSh M ns n c) (hs : s < ns) (hN : zsame M N) (hg : ∀ x, x < n → N 69 x = nI (zga M ns n c x)) : ∀ (i nn j acc : Nat), j + i = zsz M n c s → i < nn → p_X5_wrongCells_4 (nI s) N nn (nI acc) (nI j) = some (nI (acc + zsg (fun t => zwf M ns n c s (j + t)) i)) := by
  obtain ⟨v4, v6, h1, h0, h2, h3, b1, b2, b3, b4, b5, b6⟩ := id v
  have hsz : zsz M n c s ≤ n * 4 := zcs_le (c := c) v4 v6 (s := s) (by omega) n
  have q1 := zix (m := s) (n := 3) (by omega) (by omega)
  have hc46 : M 46 s = nI (zsz M n c s) := zcells v6 b1 b3 b5 hs h1 h2 h3
  intro i
  induction i with
  | zero =>
    intro nn j acc e1 e2
    obtain ⟨m, rfl⟩ := zfuel e2
    rw [p_X5_wrongCells_4]
    simp only [q1, if_false]
    rw [zcl' (by omega), hN 46 s (by simp [zscr]), hc46, if_pos (by rw [zLe (by omega) (by omega)]; omega)]
    rfl
  | succ i ih =>
    intro nn j acc e1 e2
    obtain ⟨m, rfl⟩ := zfuel e2
    have hle := zwf_le M ns n c s j
    rw [p_X5_wrongCells_4]
    simp only [q1, if_false]
    rw [zcl' (by omega), hN 46 s (by simp [zscr]), hc46, if_neg (by rw [zLe (by omega) (by omega)]; omega), s_isWrong v hs (by omega) hN hg, Option.bind_some, zsg_head, Nat.add_zero j, zsg_congr (f := fun t => zwf M ns n c s (j + (t + 1))) (g := fun t => zwf M ns n c s (j + 1 + t)) (fun t _ => by rw [show j + (t + 1) = j + 1 + t by omega]), nI_1, nI_1]
    by_cases e : zwf M ns n c s j = 0
    · rw [e, if_pos (show nI 0 = (0 : Int32) from rfl), ih m (j + 1) acc (by omega) (by omega), Nat.zero_add]
    · rw [show zwf M ns n c s j = 1 by omega, if_neg (by decide), ih m (j + 1) (acc + 1) (by omega) (by omega), Nat.add_assoc]
/-- what is counted of a cell: all, or one -/
def zct (M : zM) (ns n c s : Nat) (x : Int32) (j : Nat) : Nat := if x = -1 ∨ x = nI j then zwf M ns n c s j else 0
theorem m_bl50 {M N : zM} {ns n c s k : Nat} {x2 : Int32} {k38 : Int32 → Int32 → Int32 → Option (Int32 × zM)} (v : zSh M ns n c) (hs : s < ns) (hk : k < n) (hN : zsame M N) (hg : ∀ x, x < n → N 93 x = nI (zga M ns n c x)) : ∀ (i nn l acc : Nat), l + i = zcs M c s k → i < nn → p_X9_blamed_50 k38 (nI s) x2 (nI k) N nn (nI acc) (nI (zsg (zcs M c s) k + l)) (nI l) = k38 (nI (acc + zsg (fun t => zct M ns n c s x2 (zsg (zcs M c s) k + (l + t))) i)) (nI (zsg (zcs M c s) (k + 1))) (nI (k + 1)) := by
  obtain ⟨v4, v6, h1, h0, h2, h3, b1, b2, b3, b4, b5, b6⟩ := id v
  have q1 := zix (m := s) (n := 3) (by omega) (by omega)
  have q3 := zix (m := k) (n := 16) (by omega) (by omega)
  have hm := Nat.mod_lt (k + 1) (show 0 < n by omega)
  have q4 := zix (m := (k + 1) % n) (n := 16) (by omega) (by omega)
  obtain ⟨r1, r2, r3⟩ := zru_ok v6 (show s < 3 by omega)
  have hc4 : zcs M c s k ≤ 4 := (zcf_rng v4 r1).2
  have hsz : zsg (zcs M c s) k ≤ k * 4 := zcs_le (c := c) v4 v6 (s := s) (by omega) k
  intro i
  induction i with
  | zero =>
    intro nn l acc e1 e2
    obtain ⟨w, rfl⟩ := zfuel e2
    rw [p_X9_blamed_50]
    simp only [q1, if_false]
    rw [zcl' (by omega), hN 89 s (by simp [zscr]), r2, hN 9 20 (by simp [zscr]), b5, m_cellsOf (zvRules_same hN v4) r1 (by omega), zcf_same hN, show zcf M (zru M s) c k = zcs M c s k from rfl, Option.bind_some, if_pos (by rw [zLe (by omega) (by omega)]; omega), nI_1, zsg, zsg, show l = zcs M c s k by omega]
    rfl
  | succ i ih =>
    intro nn l acc e1 e2
    obtain ⟨w, rfl⟩ := zfuel e2
    have q2 := zix (m := 64 * s + (zsg (zcs M c s) k + l)) (n := 192) (by omega) (by omega)
    have hwf := zwf_at (ns := ns) (s := s) (M := M) (c := c) hk (show l < zcs M c s k by omega)
    have step : ∀ d : Nat, d = zct M ns n c s x2 (zsg (zcs M c s) k + l) → p_X9_blamed_50 k38 (nI s) x2 (nI k) N w (nI acc + nI d) (nI (zsg (zcs M c s) k + l) + 1) (nI l + 1) = k38 (nI (acc + zsg (fun t => zct M ns n c s x2 (zsg (zcs M c s) k + (l + t))) (i + 1))) (nI (zsg (zcs M c s) (k + 1))) (nI (k + 1)) := by
      intro d hd
      rw [nI_add, nI_1, nI_1, show zsg (zcs M c s) k + l + 1 = zsg (zcs M c s) k + (l + 1) by omega, ih w (l + 1) (acc + d) (by omega) (by omega), zsg_head (fun t => zct M ns n c s x2 (zsg (zcs M c s) k + (l + t))), Nat.add_zero l, zsg_congr (f := fun t => zct M ns n c s x2 (zsg (zcs M c s) k + (l + (t + 1)))) (g := fun t => zct M ns n c s x2 (zsg (zcs M c s) k + (l + 1 + t))) (fun t _ => by rw [show l + (t + 1) = l + 1 + t by omega]), hd, Nat.add_assoc]
    have hcell : p_X9_cellOf (nI (zru M s)) (nI c) (nI k) (nI l) (nI (zga M ns n c k)) (nI (zga M ns n c ((k + 1) % n))) N = some (if zpa M (zru M s) c k l = 9 then nI (zga M ns n c k) else if zpa M (zru M s) c k l = 10 then nI (zga M ns n c ((k + 1) % n)) else nI (zpa M (zru M s) c k l)) := by
      rw [m_cellOf (zvRules_same hN v4) r1 (by omega) (zcf_lt v4 r1 (show l < zcf M (zru M s) c k by have : zcf M (zru M s) c k = zcs M c s k := rfl; omega)), zpa_same hN]
    rw [p_X9_blamed_50]
    simp only [q1, if_false]
    rw [zcl' (by omega), hN 89 s (by simp [zscr]), r2, hN 9 20 (by simp [zscr]), b5, m_cellsOf (zvRules_same hN v4) r1 (by omega), zcf_same hN, show zcf M (zru M s) c k = zcs M c s k from rfl, Option.bind_some, if_neg (by rw [zLe (by omega) (by omega)]; omega), z64]
    simp only [q2, q3, if_false]
    rw [zcl' (by omega), hN 90 _ (by simp [zscr]), hN 9 19 (by simp [zscr]), b3, if_neg (nI_ne0 (by omega) (by omega)), nI_1, pk_rem (by omega) (by omega) (by omega)]
    simp only [q4, if_false]
    rw [zcl' (by omega), zcl' (by omega), hg k hk, hg _ hm, hcell, Option.bind_some]
    by_cases c1 : zti M c s k l = -1
    · rw [if_pos c1, p_X9_blamed_139, p_X9_blamed_140, if_pos rfl]
      refine step 0 ?_
      rw [zct, hwf, zwr, if_pos c1]
      split <;> rfl
    · rw [if_neg c1]
      by_cases c2 : zti M c s k l = (if zpa M (zru M s) c k l = 9 then nI (zga M ns n c k) else if zpa M (zru M s) c k l = 10 then nI (zga M ns n c ((k + 1) % n)) else nI (zpa M (zru M s) c k l))
      · rw [if_pos c2, p_X9_blamed_139, p_X9_blamed_140, if_pos rfl]
        refine step 0 ?_
        rw [zct, hwf, zwr, if_neg c1, if_pos c2.symm]
        split <;> rfl
      · have h1 : zwf M ns n c s (zsg (zcs M c s) k + l) = 1 := by rw [hwf, zwr, if_neg c1, if_neg (fun e => c2 e.symm)]
        rw [if_neg c2, p_X9_blamed_140, if_neg (by decide)]
        by_cases c3 : x2 = -1
        · rw [if_pos c3, p_X9_blamed_159]
          refine step 1 ?_
          rw [zct, if_pos (Or.inl c3), h1]
        · rw [if_neg c3]
          by_cases c4 : x2 = nI (zsg (zcs M c s) k + l)
          · rw [if_pos c4, p_X9_blamed_159]
            refine step 1 ?_
            rw [zct, if_pos (Or.inr c4), h1]
          · rw [if_neg c4]
            refine step 0 ?_
            rw [zct, if_neg (fun e => e.elim c3 c4)]
theorem m_bl38 {M N : zM} {ns n c s : Nat} {x2 : Int32} (v : zSh M ns n c) (hs : s < ns) (hN : zsame M N) (hg : ∀ x, x < n → N 93 x = nI (zga M ns n c x)) : ∀ (i nn k acc : Nat), k + i = n → i < nn → p_X9_blamed_38 (nI s) x2 N nn (nI acc) (nI (zsg (zcs M c s) k)) (nI k) = some (nI (acc + zsg (fun t => zsg (fun l => zct M ns n c s x2 (zsg (zcs M c s) (k + t) + l)) (zcs M c s (k + t))) i), N) := by
  obtain ⟨v4, v6, h1, h0, h2, h3, b1, b2, b3, b4, b5, b6⟩ := id v
  intro i
  induction i with
  | zero =>
    intro nn k acc e1 e2
    obtain ⟨w, rfl⟩ := zfuel e2
    rw [p_X9_blamed_38, hN 9 19 (by simp [zscr]), b3, if_pos (by rw [zLe (by omega) (by omega)]; omega)]
    rfl
  | succ i ih =>
    intro nn k acc e1 e2
    obtain ⟨w, rfl⟩ := zfuel e2
    have hc4 : zcs M c s k ≤ 4 := (zcf_rng v4 (zru_ok v6 (show s < 3 by omega)).1).2
    have h50 := m_bl50 (x2 := x2) (k38 := p_X9_blamed_38 (nI s) x2 N w) v hs (show k < n by omega) hN hg (zcs M c s k) 5000 0 acc (by omega) (by omega)
    rw [Nat.add_zero, show nI 0 = (0 : Int32) from rfl] at h50
    rw [p_X9_blamed_38, hN 9 19 (by simp [zscr]), b3, if_neg (by rw [zLe (by omega) (by omega)]; omega), h50, ih w (k + 1) _ (by omega) (by omega), zsg_head, zsg_congr (f := fun t => zsg (fun l => zct M ns n c s x2 (zsg (zcs M c s) (k + (t + 1)) + l)) (zcs M c s (k + (t + 1)))) (g := fun t => zsg (fun l => zct M ns n c s x2 (zsg (zcs M c s) (k + 1 + t) + l)) (zcs M c s (k + 1 + t))) (fun t _ => by rw [show k + (t + 1) = k + 1 + t by omega]), Nat.add_assoc]
    simp only [Nat.zero_add, Nat.add_zero]
theorem m_blamedAll {M N : zM} {ns n c s : Nat} {x2 : Int32} (v : zSh M ns n c) (hs : s < ns) (hN : zsame M N) (hg : ∀ x, x < n → N 93 x = nI (zga M ns n c x)) : p_X9_blamed_38 (nI s) x2 N 5000 0 0 0 = some (nI (zsg (zct M ns n c s x2) (zsz M n c s)), N) := by
  have h := m_bl38 (x2 := x2) v hs hN hg n 5000 0 0 (by omega) (by have := v.2.2.2.2.1; omega)
  rw [zsg, show nI 0 = (0 : Int32) from rfl, Nat.zero_add] at h
  rw [h, zsg_flat]
  simp only [Nat.zero_add]
theorem e_blamed (x1 x2 : Int32) {M : zM} (v : zInv M) : zAlike (p_X8_blamed x1 x2) (p_X9_blamed x1 x2) M := by
  obtain ⟨v1, v2, v3, v4, v5, v6, v7⟩ := id v
  obtain ⟨ns, n, c, h1, h2, h3, h4, e1, e1', e2, e2', e3, e3'⟩ := zshn v6
  have hic := s_isCell (x1 := x1) (x2 := x2) v4 v6 h1 h2 h3 e1 e1' e2 e3
  by_cases h : 0 ≤ x1 ∧ x1 ≤ nI ns - 1
  case neg =>
    refine ⟨-2, M, M, ?_, ?_, v⟩
    · rw [p_X8_blamed, s_isSheet, e1', Option.bind_some, zq_f h, if_pos rfl]
    · rw [p_X9_blamed, m_isSheet, e1, Option.bind_some, zq_f h, if_pos rfl]
  obtain ⟨s, hs, rfl⟩ := zbelow rfl (by omega) h
  have vs : zSh M ns n c := ⟨v4, v6, h1, h4 (by omega), h2, h3, e1, e1', e2, e2', e3, e3'⟩
  have hsz : zsz M n c s ≤ n * 4 := zcs_le (c := c) v4 v6 (s := s) (by omega) n
  rw [zcl' (by omega)] at hic
  have hms : ∀ N : zM, zsame M N → p_X9_sizeOf (nI s) N = some (nI (zsz M n c s)) := fun N hN => by
    have := m_sizeOf (zvRules_same hN v4) (zvSheets_same hN v6) (show s < 3 by omega) h2 ((hN 9 19 rfl).trans e2) ((hN 9 20 rfl).trans e3)
    rw [this, zcs, zcf_same hN, zru_same hN]
  obtain ⟨N1, a1, a2, a3⟩ := s_choose vs
  obtain ⟨N2, b1, b2, b3⟩ := m_best vs a2
  have hall := m_blamedAll (x2 := x2) vs hs b2 b3
  have m1 : ((-1 : Int32)).toInt = -1 := by decide
  have m0 : ((0 : Int32)).toInt = 0 := by decide
  have hbd : ∀ N : zM, zsame M N → p_X9_blamed (nI s) x2 N = if -1 ≤ x2 ∧ x2 ≤ nI (zsz M n c s) - 1 then (p_X9_findBest N).bind (fun M27 => p_X9_blamed_38 (nI s) x2 M27 5000 0 0 0) else some (-2, N) := fun N hN => by
    rw [p_X9_blamed, m_isSheet, hN 9 18 rfl, e1, Option.bind_some, zq_t h, if_neg (by decide), hms N hN, Option.bind_some, s_in, Option.bind_some]
    simp only [zq_0]
    by_cases w : -1 ≤ x2 ∧ x2 ≤ nI (zsz M n c s) - 1
    · rw [if_neg (by simpa using w), if_pos w]
    · rw [if_pos w, if_neg w]
  by_cases hm : x2 = -1
  · have hin : -1 ≤ x2 ∧ x2 ≤ nI (zsz M n c s) - 1 := by
      have hs1 : 1 ≤ zsz M n c s ∨ zsz M n c s = 0 := by omega
      rw [hm]
      refine ⟨by decide, ?_⟩
      rcases hs1 with hs1 | hs1
      · rw [show (1 : Int32) = nI 1 from rfl, pk_sub hs1, fa_le, nI_toInt (by omega)]
        have : (-nI 1).toInt = -1 := by decide
        omega
      · rw [hs1]
        decide
    refine ⟨nI (zsg (zct M ns n c s x2) (zsz M n c s)), N1, N2, ?_, ?_, zInv_same b2 v⟩
    · have hw := s_wrongCells vs hs a2 a3 (zsz M n c s) 5000 0 0 (by omega) (by omega)
      rw [show nI 0 = (0 : Int32) from rfl] at hw
      have ec : zsg (zct M ns n c s x2) (zsz M n c s) = 0 + zsg (fun t => zwf M ns n c s (0 + t)) (zsz M n c s) := by
        rw [Nat.zero_add]
        apply zsg_congr
        intro j _
        rw [zct, if_pos (Or.inl hm), Nat.zero_add]
      rw [p_X8_blamed, s_isSheet, e1', Option.bind_some, zq_t h, if_neg (by decide), if_pos hm, p_X8_blamed_25, a1, Option.bind_some, if_pos hm, p_X5_wrongCells, hw, Option.bind_some, ec]
    · rw [hbd N1 a2, if_pos hin, b1, Option.bind_some, hall]
  · by_cases hx : 0 ≤ x2 ∧ x2 ≤ nI (zsz M n c s) - 1
    · have hin : -1 ≤ x2 ∧ x2 ≤ nI (zsz M n c s) - 1 := ⟨by have := hx.1; rw [fa_le] at this ⊢; omega, hx.2⟩
      obtain ⟨j, hj, rfl⟩ := zbelow rfl (show zsz M n c s < 2 ^ 30 by omega) hx
      have hle := zwf_le M ns n c s j
      have hct : zsg (zct M ns n c s (nI j)) (zsz M n c s) = zwf M ns n c s j := by
        rw [← zsg_pick (f := zwf M ns n c s) hj]
        apply zsg_congr
        intro i hi
        rw [zct]
        have e1 : (nI j = -1 ∨ nI j = nI i) = (i = j) := by
          rw [zm1 (by omega), zEqn (by omega) (by omega), eq_iff_iff]
          exact ⟨fun q => q.elim False.elim Eq.symm, fun q => Or.inr q.symm⟩
        simp only [e1]
      rw [hct] at hall
      refine ⟨nI (zwf M ns n c s j), N1, N2, ?_, ?_, zInv_same b2 v⟩
      · rw [p_X8_blamed, s_isSheet, e1', Option.bind_some, zq_t h, if_neg (by decide), if_neg hm, hic, Option.bind_some, zq_t ⟨h, hx⟩, if_neg (by decide), p_X8_blamed_25, a1, Option.bind_some, if_neg hm, s_isWrong vs hs hj a2 a3, Option.bind_some]
        by_cases e : zwf M ns n c s j = 0
        · rw [e, if_pos (show nI 0 = (0 : Int32) from rfl)]
          rfl
        · rw [show zwf M ns n c s j = 1 by omega, if_neg (by decide)]
          rfl
      · rw [hbd N1 a2, if_pos hin, b1, Option.bind_some, hall]
    · have hin : ¬ (-1 ≤ x2 ∧ x2 ≤ nI (zsz M n c s) - 1) := fun w => hx ⟨by
        have := w.1
        rw [fa_le] at this ⊢
        rw [fa_eq] at hm
        omega, w.2⟩
      refine ⟨-2, M, M, ?_, ?_, v⟩
      · rw [p_X8_blamed, s_isSheet, e1', Option.bind_some, zq_t h, if_neg (by decide), if_neg hm, hic, Option.bind_some, zq_f (fun q => hx q.2), if_pos rfl]
      · rw [hbd M zsame.rf, if_neg hin]
