def zmu (M : zM) (ns n c j : Nat) : Nat := zco M ns n c j (zga M ns n c j)
def zkp (M : zM) (ns n c : Nat) : Nat → Nat
  | 0 => zG M ns c (n - 1)
  | r + 1 => zG M ns c (n - (r + 1 + 1)) + zkp M ns n c r + zmu M ns n c (n - (r + 1))
theorem zco_le {M : zM} {ns n c : Nat} (v : zSh M ns n c) (j b : Nat) : zco M ns n c j b ≤ 24 := by
  have h1 := zA0_le v j b
  have h2 := zB'_le v (zpd n j) b
  rw [zco]
  omega
theorem zkp_le {M : zM} {ns n c : Nat} (v : zSh M ns n c) : ∀ r, zkp M ns n c r ≤ 36 * (r + 1)
  | 0 => by have := zG_le v (n - 1); rw [zkp]; omega
  | r + 1 => by
    have h1 := zkp_le v r
    have h2 := zG_le v (n - (r + 1 + 1))
    have h3 : zmu M ns n c (n - (r + 1)) ≤ 24 := zco_le v _ _
    rw [zkp]
    omega
theorem zTl_eq {M : zM} {ns n c f : Nat} (v : zSh M ns n c) (hf : f < 9) : ∀ r a, r < n → zTl (zF' M ns c) n f (r + 1) a = zA0 M ns c (n - (r + 1)) a + (zkp M ns n c r + zB' M ns c (n - 1) f)
  | 0, a, hr => by
    have h1 := zA0_le v (n - (0 + 1)) a
    have h2 := zB'_le v (n - 1) f
    have h3 := zG_le v (n - 1)
    rw [zTl]
    refine zmn_eq (fun b hb => ?_) ⟨f, hf, ?_⟩ (by rw [zkp]; omega)
    · rw [zF'_eq, zTl, zkp]
      by_cases e : b = f
      · rw [e, if_pos rfl, show n - (0 + 1) = n - 1 from rfl]
        omega
      · rw [if_neg e]
        omega
    · rw [zF'_eq, zTl, zkp, if_pos rfl, show n - (0 + 1) = n - 1 from rfl]
      omega
  | r + 1, a, hr => by
    have h1 := zA0_le v (n - (r + 1 + 1)) a
    have h2 := zB'_le v (n - 1) f
    have h4 := zkp_le v (r + 1)
    have hn := v.2.2.2.2.1
    have hz : zpd n (n - (r + 1)) = n - (r + 1 + 1) := by unfold zpd; split <;> omega
    have hg := zga_le M ns n c (n - (r + 1))
    have hm := (zam_ok (zco M ns n c (n - (r + 1))) 8).2.1
    have e2 : ∀ b, zco M ns n c (n - (r + 1)) b = zA0 M ns c (n - (r + 1)) b + zB' M ns c (n - (r + 1 + 1)) b := fun b => by rw [zco, hz]
    rw [zTl]
    refine zmn_eq (fun b hb => ?_) ⟨zga M ns n c (n - (r + 1)), hg, ?_⟩ (by omega)
    · have h5 := hm b (by omega)
      rw [zF'_eq, zTl_eq v hf r b (by omega), zkp, zmu, zga]
      rw [e2 b] at h5
      omega
    · have h5 := e2 (zga M ns n c (n - (r + 1)))
      rw [zF'_eq, zTl_eq v hf r _ (by omega), zkp, zmu]
      omega
theorem zTl_all {M : zM} {ns n c f : Nat} (v : zSh M ns n c) (hf : f < 9) : zTl (zF' M ns c) n f n f = zco M ns n c 0 f + zkp M ns n c (n - 1) := by
  have h0 := v.2.2.2.1
  have h := zTl_eq v hf (n - 1) f (by omega)
  rw [show n - 1 + 1 = n by omega, Nat.sub_self] at h
  rw [h, zco, show zpd n 0 = n - 1 from rfl]
  omega
theorem zTl_am {M : zM} {ns n c : Nat} (v : zSh M ns n c) : zam (fun f => zTl (zF' M ns c) n f n f) 8 = zga M ns n c 0 := zam_add (fun b hb => zTl_all v hb) 8 (by omega)
theorem m_fb11 {M : zM} {ns n c : Nat} {F : Nat → Nat → Nat → Nat} (v : zSh M ns n c) (hF : ∀ k a b, F k a b < 1000) : ∀ (i nn f : Nat) (N : zM), f + i = 8 → i < nn → zOff M N n F → ∃ N1, p_X9_findBest_11 nn (nI (zam (fun f => zTl F n f n f) f)) (nI (zTl F n (zam (fun f => zTl F n f n f) f) n (zam (fun f => zTl F n f n f) f))) (nI (f + 1)) N = (p_X9_findTable (nI (zam (fun f => zTl F n f n f) 8)) N1).bind (fun q57 => p_X9_findBest_70 5000 (nI 0) (zset q57.2 93 0 (nI (zam (fun f => zTl F n f n f) 8)))) ∧ zOff M N1 n F := by
  intro i
  induction i with
  | zero =>
    intro nn f N e1 e2 h
    obtain ⟨w, rfl⟩ := zfuel e2
    refine ⟨N, ?_, h⟩
    rw [p_X9_findBest_11, if_pos (by rw [show (9 : Int32) = nI 9 from rfl, zLe (by omega) (by omega)]; omega), show f = 8 by omega, show ((0 : Int32)).toNatClampNeg = 0 from rfl, show nI 0 = (0 : Int32) from rfl]
  | succ i ih =>
    intro nn f N e1 e2 h
    obtain ⟨w, rfl⟩ := zfuel e2
    obtain ⟨N', w1, w2⟩ := m_table (f := f + 1) v (by omega) hF h
    obtain ⟨N1, w3, w4⟩ := ih w (f + 1) N' (by omega) (by omega) w2.1
    refine ⟨N1, ?_, w4⟩
    have g1 := zTl_le F n (zam (fun f => zTl F n f n f) f) n (zam (fun f => zTl F n f n f) f)
    have g2 := zTl_le F n (f + 1) n (f + 1)
    rw [p_X9_findBest_11, if_neg (by rw [show (9 : Int32) = nI 9 from rfl, zLe (by omega) (by omega)]; omega), w1, Option.bind_some, ← w3]
    simp only [p_X9_findBest_35, zLe (show zTl F n (zam (fun f => zTl F n f n f) f) n (zam (fun f => zTl F n f n f) f) < 2 ^ 31 by omega) (show zTl F n (f + 1) n (f + 1) < 2 ^ 31 by omega), nI_1]
    have hz : zam (fun f => zTl F n f n f) (f + 1) = if zTl F n (zam (fun f => zTl F n f n f) f) n (zam (fun f => zTl F n f n f) f) ≤ zTl F n (f + 1) n (f + 1) then zam (fun f => zTl F n f n f) f else f + 1 := rfl
    rw [hz]
    by_cases e : zTl F n (zam (fun f => zTl F n f n f) f) n (zam (fun f => zTl F n f n f) f) ≤ zTl F n (f + 1) n (f + 1)
    · rw [if_pos e, if_pos e, if_pos e]
    · rw [if_neg e, if_neg e, if_neg e]
theorem m_fb83 {M N : zM} {ns n c k : Nat} {k70 : Int32 → zM → Option zM} (v : zSh M ns n c) (hk : k + 1 < n) (h : zTab M N n (zF' M ns c) (zTl (zF' M ns c) n (zga M ns n c 0)) 0) (h93 : N 93 k = nI (zga M ns n c k)) : ∀ (i nn b : Nat), b + i = zga M ns n c (k + 1) → i < nn → p_X9_findBest_83 k70 (nI k) N nn (nI b) = k70 (nI (k + 1)) (zset N 93 (k + 1) (nI (zga M ns n c (k + 1)))) := by
  have hn := v.2.2.2.2.1
  have g0 := zga_le M ns n c 0
  have g1 := zga_le M ns n c k
  have g2 := zga_le M ns n c (k + 1)
  have q1 := zix (m := k) (n := 16) (by omega) (by omega)
  have q2 := zix (m := k + 1) (n := 16) (by omega) (by omega)
  have q3 := zix (m := 9 * k + zga M ns n c k) (n := 153) (by omega) (by omega)
  have hz : zpd n (k + 1) = k := by unfold zpd; split <;> omega
  have e2 : ∀ b, zco M ns n c (k + 1) b = zA0 M ns c (k + 1) b + zB' M ns c k b := fun b => by rw [zco, hz]
  have t1 : ∀ b, zTl (zF' M ns c) n (zga M ns n c 0) (n - (k + 1)) b = zA0 M ns c (k + 1) b + (zkp M ns n c (n - (k + 2)) + zB' M ns c (n - 1) (zga M ns n c 0)) := fun b => by
    have := zTl_eq v g0 (n - (k + 2)) b (by omega)
    rw [show n - (k + 2) + 1 = n - (k + 1) by omega, show n - (n - (k + 1)) = k + 1 by omega] at this
    exact this
  have t2 : zTl (zF' M ns c) n (zga M ns n c 0) (n - k) (zga M ns n c k) = zA0 M ns c k (zga M ns n c k) + ((zG M ns c k + zkp M ns n c (n - (k + 2)) + zmu M ns n c (k + 1)) + zB' M ns c (n - 1) (zga M ns n c 0)) := by
    have := zTl_eq v g0 (n - (k + 2) + 1) (zga M ns n c k) (by omega)
    rw [zkp, show n - (k + 2) + 1 + 1 = n - k by omega, show n - (n - k) = k by omega, show n - (n - (k + 2) + 1) = k + 1 by omega] at this
    exact this
  have cond : ∀ b, (nI (zF' M ns c k (zga M ns n c k) b) + nI (zTl (zF' M ns c) n (zga M ns n c 0) (n - (k + 1)) b) = nI (zTl (zF' M ns c) n (zga M ns n c 0) (n - k) (zga M ns n c k))) = (zco M ns n c (k + 1) b = zmu M ns n c (k + 1)) := by
    intro b
    have l1 := zF'_lt v k (zga M ns n c k) b
    have l2 := zTl_le (zF' M ns c) n (zga M ns n c 0) (n - (k + 1)) b
    have l3 := zTl_le (zF' M ns c) n (zga M ns n c 0) (n - k) (zga M ns n c k)
    have l4 := e2 b
    rw [nI_add, zEqn (by omega) (by omega), eq_iff_iff, t1, t2, zF'_eq]
    omega
  intro i
  induction i with
  | zero =>
    intro nn b e1 e3
    obtain ⟨w, rfl⟩ := zfuel e3
    have q4 := zix (m := 81 * k + (9 * zga M ns n c k + b)) (n := 1296) (by omega) (by omega)
    have q5 := zix (m := 9 * (k + 1) + b) (n := 153) (by omega) (by omega)
    rw [p_X9_findBest_83]
    simp only [q1, if_false]
    rw [zcl' (n := k) (by omega), h93, nI_1, z819, z9, z9]
    simp only [q2, q3, q4, q5, if_false]
    rw [zcl' (by omega), zcl' (by omega), zcl' (by omega), zcl' (by omega), h.1.2 k _ b (by omega) g1 (by omega), h.2 (k + 1) b (by omega) (by omega) (by omega), h.2 k _ (by omega) (by omega) g1]
    simp only [cond]
    rw [if_pos (by rw [show b = zga M ns n c (k + 1) by omega]; rfl), show b = zga M ns n c (k + 1) by omega]
  | succ i ih =>
    intro nn b e1 e3
    obtain ⟨w, rfl⟩ := zfuel e3
    have q4 := zix (m := 81 * k + (9 * zga M ns n c k + b)) (n := 1296) (by omega) (by omega)
    have q5 := zix (m := 9 * (k + 1) + b) (n := 153) (by omega) (by omega)
    have hlt : zmu M ns n c (k + 1) < zco M ns n c (k + 1) b := (zam_ok (zco M ns n c (k + 1)) 8).2.2 b (show b < zga M ns n c (k + 1) by omega)
    rw [p_X9_findBest_83]
    simp only [q1, if_false]
    rw [zcl' (n := k) (by omega), h93, nI_1, nI_1, z819, z9, z9]
    simp only [q2, q3, q4, q5, if_false]
    rw [zcl' (by omega), zcl' (by omega), zcl' (by omega), h.1.2 k _ b (by omega) g1 (by omega), h.2 (k + 1) b (by omega) (by omega) (by omega), h.2 k _ (by omega) (by omega) g1]
    simp only [cond]
    rw [if_neg (by omega)]
    exact ih w (b + 1) (by omega) (by omega)
theorem m_fb70 {M : zM} {ns n c : Nat} (v : zSh M ns n c) : ∀ (i nn k : Nat) (N : zM), k + 1 + i = n → i < nn → zTab M N n (zF' M ns c) (zTl (zF' M ns c) n (zga M ns n c 0)) 0 → N 93 k = nI (zga M ns n c k) → p_X9_findBest_70 nn (nI k) N = some (zfil N 93 (k + 1) n (fun y => nI (zga M ns n c y))) := by
  obtain ⟨v4, v6, h1, h0, h2, h3, b1, b2, b3, b4, b5, b6⟩ := id v
  intro i
  induction i with
  | zero =>
    intro nn k N e1 e2 h h93
    obtain ⟨w, rfl⟩ := zfuel e2
    rw [p_X9_findBest_70, h.1.1 9 19 (by simp [zscr]), b3, nI_1, if_pos (by rw [zLe (by omega) (by omega)]; omega), zfil_nil (by omega)]
  | succ i ih =>
    intro nn k N e1 e2 h h93
    obtain ⟨w, rfl⟩ := zfuel e2
    have g2 := zga_le M ns n c (k + 1)
    have h83 := m_fb83 (k70 := p_X9_findBest_70 w) v (show k + 1 < n by omega) h h93 (zga M ns n c (k + 1)) 5000 0 (by omega) (by omega)
    rw [show nI 0 = (0 : Int32) from rfl] at h83
    rw [p_X9_findBest_70, h.1.1 9 19 (by simp [zscr]), b3, nI_1, if_neg (by rw [zLe (by omega) (by omega)]; omega), h83, ih w (k + 1) _ (by omega) (by omega) ⟨⟨h.1.1.set (by simp [zscr]), fun k a b hk ha hb => by rw [zs_ne (by omega)]; exact h.1.2 k a b hk ha hb⟩, fun k a hk hr ha => by rw [zs_ne (by omega)]; exact h.2 k a hk hr ha⟩ (by rw [zs_self]), zfil_step (g := fun y => nI (zga M ns n c y)) (by omega)]
theorem m_best {M M0 : zM} {ns n c : Nat} (v : zSh M ns n c) (h0 : zsame M M0) : ∃ N, p_X9_findBest M0 = some N ∧ zsame M N ∧ ∀ x, x < n → N 93 x = nI (zga M ns n c x) := by
  have hn := v.2.2.2.2.1
  have hn1 := v.2.2.2.1
  have hF := zF'_lt v
  obtain ⟨N1, a1, a2⟩ := m_off v h0
  obtain ⟨N2, a3, a4⟩ := m_table (f := 0) v (by omega) hF a2
  obtain ⟨N3, a5, a6⟩ := m_fb11 v hF 8 4999 0 N2 (by omega) (by omega) a4.1
  obtain ⟨N4, a7, a8⟩ := m_table (f := zga M ns n c 0) v (zga_le M ns n c 0) hF a6
  have a9 := m_fb70 v (n - 1) 5000 0 (zset N4 93 0 (nI (zga M ns n c 0))) (by omega) (by omega) ⟨⟨a8.1.1.set (by simp [zscr]), fun k a b hk ha hb => by rw [zs_ne (by omega)]; exact a8.1.2 k a b hk ha hb⟩, fun k a hk hr ha => by rw [zs_ne (by omega)]; exact a8.2 k a hk hr ha⟩ (by rw [zs_self])
  have g1 := zTl_le (zF' M ns c) n 0 n 0
  have g2 : zTl (zF' M ns c) n 0 n 0 < 100000 := by
    have w1 := zTl_all v (show 0 < 9 by omega)
    have w2 := zkp_le v (n - 1)
    have w3 := zco_le v 0 0
    omega
  have e11 : p_X9_findBest_11 5000 0 100000 0 N1 = p_X9_findBest_11 4999 (nI (zam (fun f => zTl (zF' M ns c) n f n f) 0)) (nI (zTl (zF' M ns c) n (zam (fun f => zTl (zF' M ns c) n f n f) 0) n (zam (fun f => zTl (zF' M ns c) n f n f) 0))) (nI (0 + 1)) N2 := by
    rw [show nI 0 = (0 : Int32) from rfl] at a3
    rw [p_X9_findBest_11, if_neg (by decide), a3, Option.bind_some, zam]
    simp only [p_X9_findBest_35]
    have q : ((100000 : Int32) ≤ nI (zTl (zF' M ns c) n 0 n 0)) = (100000 ≤ zTl (zF' M ns c) n 0 n 0) := zLe (a := 100000) (by omega) (by omega)
    simp only [q]
    rw [if_neg (by omega), if_neg (by omega), show (0 : Int32) + 1 = nI (0 + 1) from rfl, show nI 0 = (0 : Int32) from rfl]
  refine ⟨zfil (zset N4 93 0 (nI (zga M ns n c 0))) 93 (0 + 1) n (fun y => nI (zga M ns n c y)), ?_, ?_, ?_⟩
  · rw [p_X9_findBest, a1, Option.bind_some, e11, a5, zTl_am v, a7, Option.bind_some, a9]
  · exact (a8.1.1.set (by simp [zscr])).fil (fun b => by simp [zscr])
  · intro x hx
    by_cases e : x = 0
    · rw [e, zfil_out (by omega), zs_self]
    · rw [zfil_in (by omega)]
theorem e_least (x1 : Int32) {M : zM} (v : zInv M) : zAlike (p_X8_least x1) (p_X9_least x1) M := by
  obtain ⟨v1, v2, v3, v4, v5, v6, v7⟩ := id v
  obtain ⟨ns, n, c, h1, h2, h3, h4, e1, e1', e2, e2', e3, e3'⟩ := zshn v6
  have q0 : (nI ns = 0) = (ns = 0) := zEqn (b := 0) (by omega) (by omega)
  by_cases hz : ns = 0
  · refine ⟨-4, M, M, ?_, ?_, v⟩
    · rw [p_X8_least, e1', if_pos (by rw [q0]; exact hz)]
    · rw [p_X9_least, e1, if_pos (by rw [q0]; exact hz)]
  · have vs : zSh M ns n c := ⟨v4, v6, h1, h4 (by omega), h2, h3, e1, e1', e2, e2', e3, e3'⟩
    by_cases hx : 0 ≤ x1 ∧ x1 ≤ nI n - 1
    · obtain ⟨x, hx', rfl⟩ := zbelow rfl (by omega) hx
      have q1 := zix (m := x) (n := 16) (by omega) (by omega)
      obtain ⟨N1, a1, a2, a3⟩ := s_choose vs
      obtain ⟨N2, b1, b2, b3⟩ := m_best vs a2
      refine ⟨nI (zga M ns n c x), N1, N2, ?_, ?_, zInv_same b2 v⟩
      · rw [p_X8_least, e1', if_neg (by rw [q0]; exact hz), e2', s_within, Option.bind_some, zq_t hx, if_neg (by decide), a1, Option.bind_some]
        simp only [q1, if_false]
        rw [zcl' (by omega), a3 x hx']
      · rw [p_X9_least, a2 9 18 rfl, e1, if_neg (by rw [q0]; exact hz), a2 9 19 rfl, e2, s_in, Option.bind_some, zq_t hx, if_neg (by decide), b1, Option.bind_some]
        simp only [q1, if_false]
        rw [zcl' (by omega), b3 x hx']
    · refine ⟨-1, M, M, ?_, ?_, v⟩
      · rw [p_X8_least, e1', if_neg (by rw [q0]; exact hz), e2', s_within, Option.bind_some, zq_f hx, if_pos rfl]
      · rw [p_X9_least, e1, if_neg (by rw [q0]; exact hz), e2, s_in, Option.bind_some, zq_f hx, if_pos rfl]
