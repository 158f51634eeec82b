theorem m_sheet96 {s : Nat} (hs : s < 3) : ∀ (k nn i : Nat) (N : zM), i + k = 64 → k < nn → N 9 18 = nI s → p_X9_sheet_96 nn (nI i) N = some (nI s, zset (zfil N 90 (64 * s + i) (64 * s + 64) (fun _ => -1)) 9 18 (nI (s + 1))) := by
  intro k
  induction k with
  | zero =>
    intro nn i N h1 h2 h3
    obtain ⟨m, rfl⟩ := zfuel h2
    rw [p_X9_sheet_96, show (64 : Int32) = nI 64 from rfl, if_pos (by rw [zLe (by omega) (by omega)]; omega), zs_self, h3, nI_1, show (1 : Int32) = nI 1 from rfl, pk_sub (by omega), zfil_nil (by omega), show s + 1 - 1 = s by omega]
  | succ k ih =>
    intro nn i N h1 h2 h3
    obtain ⟨m, rfl⟩ := zfuel h2
    have q1 := zix (m := 64 * s + i) (n := 192) (by omega) (by omega)
    rw [p_X9_sheet_96, if_neg (by rw [show (64 : Int32) = nI 64 from rfl, zLe (by omega) (by omega)]; omega), h3, z64]
    simp only [q1, if_false]
    rw [zcl' (by omega), nI_1, ih m (i + 1) _ (by omega) (by omega) (by rw [zs_ne (by omega)]; exact h3), ← Nat.add_assoc, zfil_step (g := fun _ => (-1 : Int32)) (by omega)]
theorem e_sheet (x1 x2 x3 : Int32) {M : zM} (v : zInv M) : zAlike (p_X8_sheet x1 x2 x3) (p_X9_sheet x1 x2 x3) M := by
  obtain ⟨v1, v2, v3, v4, v5, v6, v7⟩ := v
  obtain ⟨ns, n0, c0, h1, h2, h3, h4, e1, e1', e2, e2', e3, e3'⟩ := zshn v6
  by_cases g1 : 0 ≤ x1 ∧ x1 ≤ 4
  case neg => exact ⟨-2, M, M, by simp [p_X8_sheet, s_isRule, zq_0, g1], by simp [p_X9_sheet, m_isRule, zq_0, g1], v1, v2, v3, v4, v5, v6, v7⟩
  obtain ⟨R, hR, rfl⟩ := zup (n := 4) rfl (by decide) g1
  by_cases g2 : 1 ≤ x2 ∧ x2 ≤ 16
  case neg => exact ⟨-3, M, M, by simp [p_X8_sheet, s_isRule, s_within, zq_0, g1, g2], by simp [p_X9_sheet, m_isRule, s_in, zq_0, g1, g2], v1, v2, v3, v4, v5, v6, v7⟩
  obtain ⟨n, hn1, hn, rfl⟩ := zup1 (n := 16) rfl (by decide) g2
  have hbd := zbd n (by omega)
  have hp : 2 ^ n ≤ 2 ^ 16 := Nat.pow_le_pow_right (by omega) hn
  have hp0 : 0 < 2 ^ n := Nat.two_pow_pos n
  by_cases g3 : 0 ≤ x3 ∧ x3 ≤ nI (2 ^ n - 1)
  case neg => exact ⟨-3, M, M, by simp [p_X8_sheet, s_isRule, s_within, zq_0, g1, g2, hbd, g3], by simp [p_X9_sheet, m_isRule, s_in, zq_0, g1, g2, hbd, g3], v1, v2, v3, v4, v5, v6, v7⟩
  obtain ⟨c, hc, rfl⟩ := zup (n := 2 ^ n - 1) rfl (by omega) g3
  have q0 : (nI ns = 0) = (ns = 0) := zEqn (b := 0) (by omega) (by omega)
  have q1 : (nI n = nI n0) = (n = n0) := zEqn (by omega) (by omega)
  have q2 : (nI c = nI c0) = (c = c0) := zEqn (by omega) (by omega)
  have q3 : (nI ns ≤ 0) = (ns ≤ 0) := zLe (b := 0) (by omega) (by omega)
  have q4 : (nI ns < 3) = (ns < 3) := zLt (b := 3) (by omega) (by omega)
  have q5 : (nI ns = 3) = (ns = 3) := zEqn (b := 3) (by omega) (by omega)
  by_cases g4 : ns = 0 ∨ (n = n0 ∧ c = c0)
  case neg =>
    have g5 : ns ≠ 0 := fun q => g4 (Or.inl q)
    have g6 : ¬ (n = n0 ∧ c = c0) := fun q => g4 (Or.inr q)
    refine ⟨-4, M, M, ?_, ?_, v1, v2, v3, v4, v5, v6, v7⟩
    · have ha : p_X5_accept (nI n) (nI c) M = some 0 := by
        rw [p_X5_accept, e1', e2', e3']
        simp only [q0, q1, q2]
        rw [if_neg g5]
        by_cases hh : n = n0
        · rw [if_pos hh, if_neg (fun q => g6 ⟨hh, q⟩)]
        · rw [if_neg hh]
      simp [p_X8_sheet, s_isRule, s_within, zq_0, g1, g2, hbd, g3, ha]
    · rw [p_X9_sheet, m_isRule, s_in, s_in, hbd, e1, e2, e3]
      simp only [Option.bind_some, zq_0, q1, q2, q3]
      rw [if_neg (by simpa using g1), if_neg (by simpa using g2), if_neg (by simpa using g3), if_neg (by omega)]
      by_cases hh : n = n0
      · rw [if_pos hh, if_neg (fun q => g6 ⟨hh, q⟩)]
      · rw [if_neg hh]
  have ha : p_X5_accept (nI n) (nI c) M = some 1 := by
    rw [p_X5_accept, e1', e2', e3']
    simp only [q0, q1, q2]
    rcases g4 with hh | ⟨hh, hk⟩
    · rw [if_pos hh]
    · rw [if_pos hh, if_pos hk]
      split <;> rfl
  have hm : p_X9_sheet (nI R) (nI n) (nI c) = fun N => if N 9 18 ≤ 0 then p_X9_sheet_62 (nI R) (nI n) (nI c) N else if nI n = N 9 19 then if nI c = N 9 20 then p_X9_sheet_62 (nI R) (nI n) (nI c) N else some (-4, N) else some (-4, N) := by
    funext N
    rw [p_X9_sheet, m_isRule, s_in, s_in, hbd]
    simp only [Option.bind_some, zq_0]
    rw [if_neg (by simpa using g1), if_neg (by simpa using g2), if_neg (by simpa using g3)]
  have hm2 : ∀ N : zM, N 9 18 = M 9 18 → N 9 19 = M 9 19 → N 9 20 = M 9 20 → p_X9_sheet (nI R) (nI n) (nI c) N = p_X9_sheet_62 (nI R) (nI n) (nI c) N := by
    intro N a1 a2 a3
    rw [hm]
    simp only [a1, a2, a3, e1, e2, e3, q1, q2, q3]
    rcases g4 with hh | ⟨hh, hk⟩
    · rw [if_pos (by omega)]
    · rw [if_pos hh, if_pos hk]
      split <;> rfl
  by_cases g5 : ns = 3
  · refine ⟨-5, M, M, ?_, ?_, v1, v2, v3, v4, v5, v6, v7⟩
    · have q6 : ¬ (nI ns < 3) := by rw [q4]; omega
      simp [p_X8_sheet, s_isRule, s_within, zq_0, g1, g2, hbd, g3, ha, e1', q6]
    · rw [hm2 M rfl rfl rfl, p_X9_sheet_62, e1, if_pos (by rw [q5]; exact g5)]
  · have hns : ns < 3 := by omega
    have ix := zix (m := ns) (n := 3) hns (by omega)
    have hsz := s_size (M := zset (zset (zset M 6 5 (nI n)) 6 6 (nI c)) 45 ns (nI R)) (zvRules_s rfl (zvRules_s rfl (zvRules_s rfl v4))) (show R < 5 by omega) hn (show c < 2 ^ n by omega)
    have hps : zps (zset (zset (zset M 6 5 (nI n)) 6 6 (nI c)) 45 ns (nI R)) R = zps M R := by rw [zps, zps, zs_ne (by omega), zs_ne (by omega), zs_ne (by omega)]
    rw [hps] at hsz
    generalize hW : nI (zcnts (fun i => c.testBit i) (zps M R) n) = W at hsz
    let A : zM := zset (zset (zset (zset M 6 5 (nI n)) 6 6 (nI c)) 45 ns (nI R)) 46 ns W
    let M1 : zM := zset (zfil A (48 + ns) 0 64 (fun _ => -1)) 6 4 (nI (ns + 1))
    let B : zM := zset (zset (zset M1 9 19 (nI n)) 9 20 (nI c)) 89 ns (nI R)
    let M2 : zM := zset (zfil B 90 (64 * ns + 0) (64 * ns + 64) (fun _ => -1)) 9 18 (nI (ns + 1))
    have f : ∀ a b, M2 a b = if a = 9 ∧ b = 18 then nI (ns + 1) else if a = 90 ∧ 64 * ns ≤ b ∧ b < 64 * ns + 64 then -1 else if a = 89 ∧ b = ns then nI R else if a = 9 ∧ b = 20 then nI c else if a = 9 ∧ b = 19 then nI n else if a = 6 ∧ b = 4 then nI (ns + 1) else if a = 48 + ns ∧ 0 ≤ b ∧ b < 64 then -1 else if a = 46 ∧ b = ns then W else if a = 45 ∧ b = ns then nI R else if a = 6 ∧ b = 6 then nI c else if a = 6 ∧ b = 5 then nI n else M a b := fun a b => rfl
    have fs : ∀ a b, ¬ (a = 9 ∧ (b = 18 ∨ b = 19 ∨ b = 20)) → ¬ (a = 6 ∧ (b = 4 ∨ b = 5 ∨ b = 6)) → a ≠ 90 → a ≠ 89 → a ≠ 46 → a ≠ 45 → ¬ (48 ≤ a ∧ a < 51) → M2 a b = M a b := by
      intro a b w1 w2 w3 w4 w5 w6 w7
      rw [f, if_neg (by omega), if_neg (by omega), if_neg (by omega), if_neg (by omega), if_neg (by omega), if_neg (by omega), if_neg (by omega), if_neg (by omega), if_neg (by omega), if_neg (by omega), if_neg (by omega)]
    refine ⟨nI ns, M1, M2, ?_, ?_, ?_, ?_, ?_, ?_, ?_, ?_, ?_⟩
    · have q6 : nI ns < 3 := by rw [q4]; omega
      have hap : p_X5_append (nI R) (nI n) (nI c) M = some (nI ns, M1) := by
        have y1 : (zset (zset M 6 5 (nI n)) 6 6 (nI c)) 6 4 = nI ns := by rw [zs_nj (by omega), zs_nj (by omega), e1']
        have y2 : (zset (zset (zset M 6 5 (nI n)) 6 6 (nI c)) 45 ns (nI R)) 6 4 = nI ns := by rw [zs_ne (by omega), y1]
        have y3 : A 6 4 = nI ns := by show zset _ _ _ _ _ _ = _; rw [zs_ne (by omega), y2]
        have y4 : (zfil A (48 + ns) 0 64 (fun _ => (-1 : Int32))) 6 4 = nI ns := by rw [zfil_ne (by omega), y3]
        rw [p_X5_append, y1]
        simp only [ix, if_false]
        rw [zcl' (by omega), hsz]
        simp only [Option.bind_some]
        rw [y2]
        simp only [ix, if_false]
        rw [zcl' (by omega)]
        show (if A 6 4 < 0 ∨ 3 ≤ (A 6 4).toNatClampNeg then none else (p_J7_fill_53178 (48 + (A 6 4).toNatClampNeg) 64 (-1) A).bind fun M49 => some ((zset M49 6 4 (M49 6 4 + 1)) 6 4 - 1, zset M49 6 4 (M49 6 4 + 1))) = _
        rw [y3]
        simp only [ix, if_false]
        rw [zcl' (by omega), j_fillA (by omega)]
        simp only [Option.bind_some]
        rw [y4, zs_self, nI_1, show (1 : Int32) = nI 1 from rfl, pk_sub (by omega), show ns + 1 - 1 = ns by omega]
        rfl
      simp [p_X8_sheet, s_isRule, s_within, zq_0, g1, g2, hbd, g3, ha, e1', q6, hap]
    · have z1 : ∀ b, M1 9 b = M 9 b := by
        intro b
        show zset _ _ _ _ _ _ = _
        rw [zs_ne (by omega), zfil_ne (by omega)]
        show zset _ _ _ _ _ _ = _
        rw [zs_ne (by omega), zs_ne (by omega), zs_ne (by omega), zs_ne (by omega)]
      have z2 : (zset (zset M1 9 19 (nI n)) 9 20 (nI c)) 9 18 = nI ns := by rw [zs_nj (by omega), zs_nj (by omega), z1, e1]
      have z3 : B 9 18 = nI ns := by show zset _ _ _ _ _ _ = _; rw [zs_ne (by omega), z2]
      rw [hm2 M1 (z1 18) (z1 19) (z1 20), p_X9_sheet_62, z1, e1, if_neg (by rw [q5]; exact g5), z2]
      simp only [ix, if_false]
      rw [zcl' (by omega)]
      exact m_sheet96 hns 64 5000 0 B (by omega) (by omega) z3
    · exact zvMov_c (fun a b h => fs a b (by rintro ⟨rfl, rfl | rfl | rfl⟩ <;> exact absurd h (by decide)) (by rintro ⟨rfl, rfl | rfl | rfl⟩ <;> exact absurd h (by decide)) (by rintro rfl; simp [zdMov] at h) (by rintro rfl; simp [zdMov] at h) (by rintro rfl; simp [zdMov] at h) (by rintro rfl; simp [zdMov] at h) (by rintro ⟨w1, w2⟩; simp [zdMov] at h; omega)) v1
    · exact zvTune_c (fun a b h => fs a b (by rintro ⟨rfl, rfl | rfl | rfl⟩ <;> exact absurd h (by decide)) (by rintro ⟨rfl, rfl | rfl | rfl⟩ <;> exact absurd h (by decide)) (by rintro rfl; simp [zdTune] at h) (by rintro rfl; simp [zdTune] at h) (by rintro rfl; simp [zdTune] at h) (by rintro rfl; simp [zdTune] at h) (by rintro ⟨w1, w2⟩; simp [zdTune] at h; omega)) v2
    · exact zvSong_c (fun a b h => fs a b (by rintro ⟨rfl, rfl | rfl | rfl⟩ <;> exact absurd h (by decide)) (by rintro ⟨rfl, rfl | rfl | rfl⟩ <;> exact absurd h (by decide)) (by rintro rfl; simp [zdSong] at h) (by rintro rfl; simp [zdSong] at h) (by rintro rfl; simp [zdSong] at h) (by rintro rfl; simp [zdSong] at h) (by rintro ⟨w1, w2⟩; simp [zdSong] at h; omega)) v3
    · exact zvRules_c (fun a b h => fs a b (by rintro ⟨rfl, rfl | rfl | rfl⟩ <;> exact absurd h (by decide)) (by rintro ⟨rfl, rfl | rfl | rfl⟩ <;> exact absurd h (by decide)) (by rintro rfl; simp [zdRules] at h) (by rintro rfl; simp [zdRules] at h) (by rintro rfl; simp [zdRules] at h) (by rintro rfl; simp [zdRules] at h) (by rintro ⟨w1, w2⟩; simp [zdRules] at h; omega)) v4
    · exact zvGround_c (fun a b h => fs a b (by rintro ⟨rfl, rfl | rfl | rfl⟩ <;> exact absurd h (by decide)) (by rintro ⟨rfl, rfl | rfl | rfl⟩ <;> exact absurd h (by decide)) (by rintro rfl; simp [zdGround] at h) (by rintro rfl; simp [zdGround] at h) (by rintro rfl; simp [zdGround] at h) (by rintro rfl; simp [zdGround] at h) (by rintro ⟨w1, w2⟩; simp [zdGround] at h; omega)) v5
    · have t18 : M2 9 18 = nI (ns + 1) := rfl
      have t19 : M2 9 19 = nI n := rfl
      have t20 : M2 9 20 = nI c := rfl
      have t4 : M2 6 4 = nI (ns + 1) := rfl
      have t5 : M2 6 5 = nI n := by rw [f, if_neg (by omega), if_neg (by omega), if_neg (by omega), if_neg (by omega), if_neg (by omega), if_neg (by omega), if_neg (by omega), if_neg (by omega), if_neg (by omega), if_neg (by omega), if_pos (by omega)]
      have t6 : M2 6 6 = nI c := by rw [f, if_neg (by omega), if_neg (by omega), if_neg (by omega), if_neg (by omega), if_neg (by omega), if_neg (by omega), if_neg (by omega), if_neg (by omega), if_neg (by omega), if_pos (by omega)]
      have t86 : ∀ b, M2 86 b = M 86 b := fun b => fs 86 b (by omega) (by omega) (by omega) (by omega) (by omega) (by omega) (by omega)
      have t45 : ∀ s, M2 45 s = if s = ns then nI R else M 45 s := fun s => by rw [f]; simp; omega
      have t46 : ∀ s, M2 46 s = if s = ns then W else M 46 s := fun s => by rw [f]; simp; omega
      have t89 : ∀ s, M2 89 s = if s = ns then nI R else M 89 s := fun s => by
        have w : ¬ (89 = 48 + ns) := by omega
        rw [f]
        simp [w]
      have t48 : ∀ s b, s < 3 → b < 64 → M2 (48 + s) b = if s = ns then -1 else M (48 + s) b := fun s b hs hb => by
        rw [f, if_neg (by omega), if_neg (by omega), if_neg (by omega), if_neg (by omega), if_neg (by omega), if_neg (by omega)]
        by_cases hh : s = ns
        · rw [if_pos (by omega), if_pos hh]
        · rw [if_neg (by omega), if_neg (by omega), if_neg (by omega), if_neg (by omega), if_neg (by omega), if_neg hh]
      have t90 : ∀ s b, s < 3 → b < 64 → M2 90 (64 * s + b) = if s = ns then -1 else M 90 (64 * s + b) := fun s b hs hb => by
        rw [f, if_neg (by omega)]
        by_cases hh : s = ns
        · rw [if_pos (by omega), if_pos hh]
        · rw [if_neg (by omega), if_neg (by omega), if_neg (by omega), if_neg (by omega), if_neg (by omega), if_neg (by omega), if_neg (by omega), if_neg (by omega), if_neg (by omega), if_neg (by omega), if_neg hh]
      obtain ⟨a1, a2, a3, a4, a5, a6, a7⟩ := v6
      refine ⟨⟨t4.trans t18.symm, ?_⟩, ⟨t5.trans t19.symm, ?_⟩, ⟨t6.trans t20.symm, ?_⟩, ?_, ?_, ?_, ?_⟩
      · rw [t18]; exact zr_nI (hi := 3) (by omega) (by decide)
      · rw [t19]; exact zr_nI (hi := 16) (by omega) (by decide)
      · rw [t20]; exact zr_nI (hi := 65535) (by omega) (by decide)
      · intro _
        rw [t19, nI_toInt (by omega)]
        omega
      · intro s hs
        rw [t45, t89]
        by_cases hh : s = ns
        · rw [if_pos hh, if_pos hh]
          exact ⟨rfl, zr_nI (hi := 4) hR (by decide)⟩
        · rw [if_neg hh, if_neg hh]
          exact a5 s hs
      · intro s b hs hb
        rw [t48 s b hs hb, t90 s b hs hb]
        by_cases hh : s = ns
        · rw [if_pos hh, if_pos hh]
          exact ⟨rfl, by decide, by decide⟩
        · rw [if_neg hh, if_neg hh]
          exact a6 s b hs hb
      · intro s hs
        rw [t18, nI_toInt (by omega)] at hs
        rw [t46, t89, t20, t19, t86]
        have hz : zbit (nI c) = fun i => c.testBit i := by
          funext i
          rw [zbit, nI_toInt (by omega), Int.toNat_natCast]
        by_cases hh : s = ns
        · rw [if_pos hh, if_pos hh, nI_toInt (by omega), nI_toInt (by omega), Int.toNat_natCast, Int.toNat_natCast, hz, ← hW]
          rfl
        · rw [if_neg hh, if_neg hh]
          have := a7 s (by rw [e1, nI_toInt (by omega)]; omega)
          rw [e2, e3] at this
          rcases g4 with w | ⟨w1, w2⟩
          · omega
          · rw [w1, w2]
            exact this
    · exact zvPipes_c (fun a b h => fs a b (by rintro ⟨rfl, rfl | rfl | rfl⟩ <;> exact absurd h (by decide)) (by rintro ⟨rfl, rfl | rfl | rfl⟩ <;> exact absurd h (by decide)) (by rintro rfl; simp [zdPipes] at h) (by rintro rfl; simp [zdPipes] at h) (by rintro rfl; simp [zdPipes] at h) (by rintro rfl; simp [zdPipes] at h) (by rintro ⟨w1, w2⟩; simp [zdPipes] at h; omega)) v7
