/-! ===== the reference's table of faults ===== -/
def zOff (M N : zM) (n : Nat) (F : Nat → Nat → Nat → Nat) : Prop := zsame M N ∧ ∀ k a b, k < n → a < 9 → b < 9 → N 91 (81 * k + (9 * a + b)) = nI (F k a b)
theorem zOff_c {M N : zM} {n : Nat} {F F' : Nat → Nat → Nat → Nat} (h : zOff M N n F) (hF : ∀ k a b, k < n → a < 9 → b < 9 → F k a b = F' k a b) : zOff M N n F' := ⟨h.1, fun k a b hk ha hb => by rw [h.2 k a b hk ha hb, hF k a b hk ha hb]⟩
theorem z81 (m i : Nat) : (81 : Int32) * nI m + nI i = nI (81 * m + i) := by rw [show (81 : Int32) = nI 81 from rfl, pk_mul, nI_add]
theorem m_off87 {M : zM} {ns n c s k l j : Nat} {k28 : Int32 → zM → Option zM} {k40 k51 : Int32 → Int32 → zM → Option zM} (v : zSh M ns n c) (hs : s < ns) (hk : k < n) (hl : l < zcs M c s k) (hj : j = zsg (zcs M c s) k + l) (ht : ¬ ztd M s j = -1) (f : Nat → Nat) : ∀ (i nn m : Nat) (N : zM), m + i = 81 → i < nn → zsame M N → (∀ y, 81 * k + m ≤ y → y < 81 * k + 81 → N 91 y = nI (f y)) → p_X9_findOff_87 k28 k40 k51 (nI s) (nI j) (nI k) (nI l) (ztd M s j) nn (nI m) N = k51 (nI (j + 1)) (nI (l + 1)) (zfil N 91 (81 * k + m) (81 * k + 81) (fun y => nI (f y + zwr M c s k l ((y - 81 * k) / 9) ((y - 81 * k) % 9)))) := by
  obtain ⟨v4, v6, h1, h0, h2, h3, b1, b2, b3, b4, b5, b6⟩ := id v
  have q1 := zix (m := s) (n := 3) (by omega) (by omega)
  obtain ⟨r1, r2, r3⟩ := zru_ok v6 (show s < 3 by omega)
  intro i
  induction i with
  | zero =>
    intro nn m N e1 e2 hN hf
    obtain ⟨w, rfl⟩ := zfuel e2
    rw [p_X9_findOff_87, show (81 : Int32) = nI 81 from rfl, if_pos (by rw [zLe (by omega) (by omega)]; omega), zfil_nil (by omega), nI_1, nI_1]
  | succ i ih =>
    intro nn m N e1 e2 hN hf
    obtain ⟨w, rfl⟩ := zfuel e2
    have q2 := zix (m := 81 * k + m) (n := 1296) (by omega) (by omega)
    have hcell : p_X9_cellOf (nI (zru M s)) (nI c) (nI k) (nI l) (nI m / (9 : Int32)) (nI m - nI m / (9 : Int32) * (9 : Int32)) N = some (if zpa M (zru M s) c k l = 9 then nI (m / 9) else if zpa M (zru M s) c k l = 10 then nI (m % 9) else nI (zpa M (zru M s) c k l)) := by
      rw [m_cellOf (zvRules_same hN v4) r1 (by omega) (zcf_lt v4 r1 hl), zpa_same hN, show (9 : Int32) = nI 9 from rfl, pk_rem (by omega) (by omega) (by omega), pk_div (by omega) (by omega) (by omega)]
    have step : ∀ x : Int32, x = nI (zwr M c s k l (m / 9) (m % 9)) → p_X9_findOff_87 k28 k40 k51 (nI s) (nI j) (nI k) (nI l) (ztd M s j) w (nI (m + 1)) (zset N 91 (81 * k + m) (N 91 (81 * k + m) + x)) = k51 (nI (j + 1)) (nI (l + 1)) (zfil N 91 (81 * k + m) (81 * k + 81) (fun y => nI (f y + zwr M c s k l ((y - 81 * k) / 9) ((y - 81 * k) % 9)))) := by
      intro x hx
      have hst := zfil_step (M := N) (row := 91) (lo := 81 * k + m) (hi := 81 * k + 81) (g := fun y => nI (f y + zwr M c s k l ((y - 81 * k) / 9) ((y - 81 * k) % 9))) (by omega)
      have hg : N 91 (81 * k + m) + x = nI (f (81 * k + m) + zwr M c s k l ((81 * k + m - 81 * k) / 9) ((81 * k + m - 81 * k) % 9)) := by
        rw [hf _ (by omega) (by omega), hx, nI_add, show 81 * k + m - 81 * k = m by omega]
      rw [← hst, ← hg]
      refine ih w (m + 1) _ (by omega) (by omega) (hN.set (by simp [zscr])) (fun y hy1 hy2 => ?_)
      rw [zs_nj (by omega)]
      exact hf y (by omega) hy2
    rw [p_X9_findOff_87, if_neg (by rw [show (81 : Int32) = nI 81 from rfl, zLe (by omega) (by omega)]; omega), if_neg ht, z81]
    simp only [q1, q2, if_false]
    rw [zcl' (by omega), zcl' (by omega), hN 89 s (by simp [zscr]), r2, hN 9 20 (by simp [zscr]), b5, hcell]
    simp only [Option.bind_some]
    rw [nI_1]
    have hw : zwr M c s k l (m / 9) (m % 9) = if (if zpa M (zru M s) c k l = 9 then nI (m / 9) else if zpa M (zru M s) c k l = 10 then nI (m % 9) else nI (zpa M (zru M s) c k l)) = ztd M s j then 0 else 1 := by
      rw [zwr, zti, ← hj, if_neg ht]
    by_cases he : (if zpa M (zru M s) c k l = 9 then nI (m / 9) else if zpa M (zru M s) c k l = 10 then nI (m % 9) else nI (zpa M (zru M s) c k l)) = ztd M s j
    · rw [if_pos he]
      rw [if_pos he] at hw
      exact step 0 (by rw [hw]; rfl)
    · rw [if_neg he]
      rw [if_neg he] at hw
      exact step 1 (by rw [hw]; rfl)
theorem m_off87' {M N : zM} {ns n c s k l : Nat} {k28 : Int32 → zM → Option zM} {k40 k51 : Int32 → Int32 → zM → Option zM} {F : Nat → Nat → Nat → Nat} (v : zSh M ns n c) (hs : s < ns) (hk : k < n) (hl : l < zcs M c s k) (h : zOff M N n F) : ∃ N', p_X9_findOff_87 k28 k40 k51 (nI s) (nI (zsg (zcs M c s) k + l)) (nI k) (nI l) (zti M c s k l) 5000 (nI 0) N = k51 (nI (zsg (zcs M c s) k + l + 1)) (nI (l + 1)) N' ∧ zOff M N' n (fun k' a b => F k' a b + if k' = k then zwr M c s k l a b else 0) := by
  by_cases ht : zti M c s k l = -1
  · refine ⟨N, ?_, zOff_c h (fun k' a b _ _ _ => ?_)⟩
    · rw [p_X9_findOff_87, if_neg (by decide), if_pos ht, nI_1, nI_1]
    · rw [zwr, if_pos ht]
      simp
  · have hn := v.2.2.2.2.1
    refine ⟨_, m_off87 v hs hk hl rfl ht (fun y => F k ((y - 81 * k) / 9) ((y - 81 * k) % 9)) 81 5000 0 N (by omega) (by omega) h.1 ?_, h.1.fil (fun b => by simp [zscr]), ?_⟩
    · intro y hy1 hy2
      have := h.2 k ((y - 81 * k) / 9) ((y - 81 * k) % 9) hk (by omega) (by omega)
      rw [show 81 * k + (9 * ((y - 81 * k) / 9) + (y - 81 * k) % 9) = y by omega] at this
      exact this
    · intro k' a b hk' ha hb
      dsimp only
      by_cases e : k' = k
      · subst e
        rw [zfil_in (by omega), show 81 * k' + (9 * a + b) - 81 * k' = 9 * a + b by omega, show (9 * a + b) / 9 = a by omega, show (9 * a + b) % 9 = b by omega, if_pos rfl]
      · rw [zfil_out (by omega), if_neg e, h.2 k' a b hk' ha hb]
        rfl
theorem m_off51 {M : zM} {ns n c s k : Nat} {k28 : Int32 → zM → Option zM} {k40 : Int32 → Int32 → zM → Option zM} (v : zSh M ns n c) (hs : s < ns) (hk : k < n) : ∀ (i nn l : Nat) (N : zM) (F : Nat → Nat → Nat → Nat), l + i = zcs M c s k → i < nn → zOff M N n F → ∃ N', p_X9_findOff_51 k28 k40 (nI s) (nI k) nn (nI (zsg (zcs M c s) k + l)) (nI l) N = k40 (nI (zsg (zcs M c s) (k + 1))) (nI (k + 1)) N' ∧ zOff M N' n (fun k' a b => F k' a b + if k' = k then zsg (fun t => zwr M c s k (l + t) a b) i else 0) := by
  obtain ⟨v4, v6, h1, h0, h2, h3, b1, b2, b3, b4, b5, b6⟩ := id v
  have q1 := zix (m := s) (n := 3) (by omega) (by omega)
  obtain ⟨r1, r2, r3⟩ := zru_ok v6 (show s < 3 by omega)
  have hc4 : zcs M c s k ≤ 4 := (zcf_rng v4 r1).2
  have hsz : zsg (zcs M c s) k ≤ k * 4 := zcs_le (c := c) v4 v6 (s := s) (by omega) k
  intro i
  induction i with
  | zero =>
    intro nn l N F e1 e2 h
    obtain ⟨w, rfl⟩ := zfuel e2
    refine ⟨N, ?_, zOff_c h (fun k' a b _ _ _ => by simp [zsg])⟩
    rw [p_X9_findOff_51]
    simp only [q1, if_false]
    rw [zcl' (by omega), h.1 89 s (by simp [zscr]), r2, h.1 9 20 (by simp [zscr]), b5, m_cellsOf (zvRules_same h.1 v4) r1 (by omega), zcf_same h.1, show zcf M (zru M s) c k = zcs M c s k from rfl]
    simp only [Option.bind_some]
    rw [if_pos (by rw [zLe (by omega) (by omega)]; omega), nI_1, zsg, show l = zcs M c s k by omega]
  | succ i ih =>
    intro nn l N F e1 e2 h
    obtain ⟨w, rfl⟩ := zfuel e2
    have q2 := zix (m := 64 * s + (zsg (zcs M c s) k + l)) (n := 192) (by omega) (by omega)
    obtain ⟨N1, w1, w2⟩ := m_off87' (k28 := k28) (k40 := k40) (k51 := p_X9_findOff_51 k28 k40 (nI s) (nI k) w) (l := l) v hs hk (by omega) h
    obtain ⟨N2, w3, w4⟩ := ih w (l + 1) N1 _ (by omega) (by omega) w2
    refine ⟨N2, ?_, zOff_c w4 (fun k' a b _ _ _ => ?_)⟩
    · rw [p_X9_findOff_51]
      simp only [q1, if_false]
      rw [zcl' (by omega), h.1 89 s (by simp [zscr]), r2, h.1 9 20 (by simp [zscr]), b5, m_cellsOf (zvRules_same h.1 v4) r1 (by omega), zcf_same h.1, show zcf M (zru M s) c k = zcs M c s k from rfl]
      simp only [Option.bind_some]
      rw [if_neg (by rw [zLe (by omega) (by omega)]; omega), z64]
      simp only [q2, if_false]
      rw [zcl' (by omega), h.1 90 _ (by simp [zscr]), show (0 : Int32) = nI 0 from rfl]
      rw [← Nat.add_assoc] at w3
      exact w1.trans w3
    · by_cases e : k' = k
      · rw [if_pos e, if_pos e, if_pos e, zsg_head, zsg_congr (f := fun t => zwr M c s k (l + (t + 1)) a b) (g := fun t => zwr M c s k (l + 1 + t) a b) (fun t _ => by rw [show l + (t + 1) = l + 1 + t by omega]), Nat.add_assoc]
        rfl
      · rw [if_neg e, if_neg e, if_neg e]
theorem m_off40 {M : zM} {ns n c s : Nat} {k28 : Int32 → zM → Option zM} (v : zSh M ns n c) (hs : s < ns) : ∀ (i nn k : Nat) (N : zM) (F : Nat → Nat → Nat → Nat), k + i = n → i < nn → zOff M N n F → ∃ N', p_X9_findOff_40 k28 (nI s) nn (nI (zsg (zcs M c s) k)) (nI k) N = k28 (nI (s + 1)) N' ∧ zOff M N' n (fun k' a b => F k' a b + if k ≤ k' then zsg (fun t => zwr M c s k' t a b) (zcs M c s k') else 0) := by
  obtain ⟨v4, v6, h1, h0, h2, h3, b1, b2, b3, b4, b5, b6⟩ := id v
  intro i
  induction i with
  | zero =>
    intro nn k N F e1 e2 h
    obtain ⟨w, rfl⟩ := zfuel e2
    refine ⟨N, ?_, zOff_c h (fun k' a b hk _ _ => by rw [if_neg (by omega)]; rfl)⟩
    rw [p_X9_findOff_40, h.1 9 19 (by simp [zscr]), b3, if_pos (by rw [zLe (by omega) (by omega)]; omega), nI_1]
  | succ i ih =>
    intro nn k N F e1 e2 h
    obtain ⟨w, rfl⟩ := zfuel e2
    have hc4 : zcs M c s k ≤ 4 := (zcf_rng v4 (zru_ok v6 (show s < 3 by omega)).1).2
    obtain ⟨N1, w1, w2⟩ := m_off51 (k28 := k28) (k40 := p_X9_findOff_40 k28 (nI s) w) v hs (show k < n by omega) (zcs M c s k) 5000 0 N F (by omega) (by omega) h
    obtain ⟨N2, w3, w4⟩ := ih w (k + 1) N1 _ (by omega) (by omega) w2
    refine ⟨N2, ?_, zOff_c w4 (fun k' a b _ _ _ => ?_)⟩
    · rw [p_X9_findOff_40, h.1 9 19 (by simp [zscr]), b3, if_neg (by rw [zLe (by omega) (by omega)]; omega), show (0 : Int32) = nI 0 from rfl]
      rw [Nat.add_zero] at w1
      exact w1.trans w3
    · by_cases e : k' = k
      · subst e
        rw [if_pos rfl, if_neg (by omega), if_pos (by omega)]
        simp only [Nat.zero_add, Nat.add_zero]
      · rw [if_neg e]
        by_cases e3 : k ≤ k'
        · rw [if_pos (by omega), if_pos e3]
          rfl
        · rw [if_neg (by omega), if_neg e3]
theorem m_off28 {M : zM} {ns n c : Nat} (v : zSh M ns n c) : ∀ (i nn s : Nat) (N : zM) (F : Nat → Nat → Nat → Nat), s + i = ns → i < nn → zOff M N n F → ∃ N', p_X9_findOff_28 nn (nI s) N = some N' ∧ zOff M N' n (fun k a b => F k a b + zsg (fun r => zsg (fun t => zwr M c (s + r) k t a b) (zcs M c (s + r) k)) i) := by
  obtain ⟨v4, v6, h1, h0, h2, h3, b1, b2, b3, b4, b5, b6⟩ := id v
  intro i
  induction i with
  | zero =>
    intro nn s N F e1 e2 h
    obtain ⟨w, rfl⟩ := zfuel e2
    refine ⟨N, ?_, zOff_c h (fun k' a b hk _ _ => rfl)⟩
    rw [p_X9_findOff_28, h.1 9 18 (by simp [zscr]), b1, if_pos (by rw [zLe (by omega) (by omega)]; omega)]
  | succ i ih =>
    intro nn s N F e1 e2 h
    obtain ⟨w, rfl⟩ := zfuel e2
    obtain ⟨N1, w1, w2⟩ := m_off40 (k28 := p_X9_findOff_28 w) v (show s < ns by omega) n 5000 0 N F (by omega) (by omega) h
    obtain ⟨N2, w3, w4⟩ := ih w (s + 1) N1 _ (by omega) (by omega) w2
    refine ⟨N2, ?_, zOff_c w4 (fun k' a b _ _ _ => ?_)⟩
    · rw [p_X9_findOff_28, h.1 9 18 (by simp [zscr]), b1, if_neg (by rw [zLe (by omega) (by omega)]; omega), show (0 : Int32) = nI 0 from rfl]
      exact w1.trans w3
    · rw [if_pos (by omega), zsg_head, zsg_congr (f := fun r => zsg (fun t => zwr M c (s + (r + 1)) k' t a b) (zcs M c (s + (r + 1)) k')) (g := fun r => zsg (fun t => zwr M c (s + 1 + r) k' t a b) (zcs M c (s + 1 + r) k')) (fun r _ => by rw [show s + (r + 1) = s + 1 + r by omega]), Nat.add_assoc]
      rfl
theorem m_off2 {M : zM} {ns n c : Nat} (v : zSh M ns n c) : ∀ (i nn k : Nat) (N : zM), k + i = 81 * n → i < nn → zsame M N → p_X9_findOff_2 nn (nI k) N = p_X9_findOff_28 5000 (nI 0) (zfil N 91 k (81 * n) (fun _ => 0)) := by
  obtain ⟨v4, v6, h1, h0, h2, h3, b1, b2, b3, b4, b5, b6⟩ := id v
  intro i
  induction i with
  | zero =>
    intro nn k N e1 e2 h
    obtain ⟨w, rfl⟩ := zfuel e2
    rw [p_X9_findOff_2, h 9 19 (by simp [zscr]), b3, show (81 : Int32) = nI 81 from rfl, pk_mul, if_pos (by rw [zLe (by omega) (by omega)]; omega), zfil_nil (by omega), show nI 0 = (0 : Int32) from rfl]
  | succ i ih =>
    intro nn k N e1 e2 h
    obtain ⟨w, rfl⟩ := zfuel e2
    have q2 := zix (m := k) (n := 1296) (by omega) (by omega)
    rw [p_X9_findOff_2, h 9 19 (by simp [zscr]), b3, show (81 : Int32) = nI 81 from rfl, pk_mul, if_neg (by rw [zLe (by omega) (by omega)]; omega)]
    simp only [q2, if_false]
    rw [zcl' (by omega), nI_1, ih w (k + 1) _ (by omega) (by omega) (h.set (by simp [zscr])), zfil_step (g := fun _ => (0 : Int32)) (by omega)]
theorem m_off {M : zM} {ns n c : Nat} (v : zSh M ns n c) {M0 : zM} (h0 : zsame M M0) : ∃ N, p_X9_findOff M0 = some N ∧ zOff M N n (zF' M ns c) := by
  have hn := v.2.2.2.2.1
  have e : p_X9_findOff M0 = p_X9_findOff_28 5000 (nI 0) (zfil M0 91 0 (81 * n) (fun _ => 0)) := by
    rw [p_X9_findOff, show (0 : Int32) = nI 0 from rfl]
    exact m_off2 v (81 * n) 5000 0 M0 (by omega) (by omega) h0
  obtain ⟨N, w1, w2⟩ := m_off28 v ns 5000 0 (zfil M0 91 0 (81 * n) (fun _ => 0)) (fun _ _ _ => 0) (by omega) (by have := v.2.2.1; omega) ⟨h0.fil (fun b => by simp [zscr]), fun k a b hk ha hb => by rw [zfil_in (by omega)]; rfl⟩
  refine ⟨N, e.trans w1, zOff_c w2 (fun k a b _ _ _ => ?_)⟩
  rw [zF']
  simp only [Nat.zero_add]
