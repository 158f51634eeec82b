/-! ===== grounds that agree ===== -/
theorem m_plusC (a b : Nat) : p_X9_plus (nI (zcap a)) (nI (zcap b)) = some (nI (zcap (a + b))) := by
  have h1 := zcap_le a
  have h2 := zcap_le b
  rw [← zcap_add2, p_X9_plus, nI_add, show (1000001 : Int32) = nI 1000001 from rfl]
  simp only [zLe (show zcap a + zcap b < 2 ^ 31 by omega) (show 1000001 < 2 ^ 31 by omega)]
  by_cases h : zcap a + zcap b ≤ 1000001
  · rw [if_pos h, zcap_id h]
  · rw [if_neg h, zcap, if_neg (by omega)]
def zTg (F : Nat → Nat → Nat → Nat) (n f : Nat) : Nat → Nat → Nat
  | 0, a => if a = f then 1 else 0
  | r + 1, a => zsg (fun b => if F (n - (r + 1)) a b = 0 then zTg F n f r b else 0) 9
def zTab (M N : zM) (n : Nat) (F : Nat → Nat → Nat → Nat) (T : Nat → Nat → Nat) (r : Nat) : Prop := zOff M N n F ∧ ∀ k a, k ≤ n → r ≤ k → a < 9 → N 92 (9 * k + a) = nI (T (n - k) a)
theorem z819 (k a b : Nat) : ((81 : Int32) * nI k + (9 : Int32) * nI a) + nI b = nI (81 * k + (9 * a + b)) := by rw [show (81 : Int32) = nI 81 from rfl, show (9 : Int32) = nI 9 from rfl, pk_mul, pk_mul, nI_add, nI_add, Nat.add_assoc]
theorem zOff_92 {M N : zM} {n : Nat} {F : Nat → Nat → Nat → Nat} {j : Nat} {x : Int32} (h : zOff M N n F) : zOff M (zset N 92 j x) n F := ⟨h.1.set (by simp [zscr]), fun k a b hk ha hb => by rw [zs_ne (by omega)]; exact h.2 k a b hk ha hb⟩
theorem zOff_f92 {M N : zM} {n : Nat} {F : Nat → Nat → Nat → Nat} {lo hi : Nat} {g : Nat → Int32} (h : zOff M N n F) : zOff M (zfil N 92 lo hi g) n F := ⟨h.1.fil (fun b => by simp [zscr]), fun k a b hk ha hb => by rw [zfil_ne (by omega)]; exact h.2 k a b hk ha hb⟩
theorem m_ag89 {M : zM} {n : Nat} {k18 : Int32 → Int32 → zM → Option (Int32 × zM)} {k69 k76 : Int32 → zM → Option (Int32 × zM)} {x1 x2 : Int32} {N : zM} {F : Nat → Nat → Nat → Nat} {T : Nat → Nat} {k a : Nat} (hn : n ≤ 16) (hk : k < n) (ha : a < 9) (hF : ∀ k a b, F k a b < 1000) (h : zOff M N n F) (hT : ∀ b, b < 9 → N 92 (9 * (k + 1) + b) = nI (zcap (T b))) : ∀ (i nn b acc : Nat), b + i = 9 → i < nn → p_X9_agreeing_89 k18 k69 k76 x1 x2 (nI k) (nI a) N nn (nI (zcap acc)) (nI b) = k76 (nI (a + 1)) (zset N 92 (9 * k + a) (nI (zcap (acc + zsg (fun t => if F k a (b + t) = 0 then T (b + t) else 0) i)))) := by
  intro i
  induction i with
  | zero =>
    intro nn b acc e1 e2
    obtain ⟨w, rfl⟩ := zfuel e2
    have q1 := zix (m := 9 * k + a) (n := 153) (by omega) (by omega)
    rw [p_X9_agreeing_89, if_pos (by rw [show (9 : Int32) = nI 9 from rfl, zLe (by omega) (by omega)]; omega), z9]
    simp only [q1, if_false]
    rw [zcl' (by omega), nI_1]
    rfl
  | succ i ih =>
    intro nn b acc e1 e2
    obtain ⟨w, rfl⟩ := zfuel e2
    have q1 := zix (m := 81 * k + (9 * a + b)) (n := 1296) (by omega) (by omega)
    have q2 := zix (m := 9 * (k + 1) + b) (n := 153) (by omega) (by omega)
    have hz : (nI (F k a b) = 0) = (F k a b = 0) := zEqn (b := 0) (by have := hF k a b; omega) (by omega)
    have es : zsg (fun t => if F k a (b + t) = 0 then T (b + t) else 0) (i + 1) = (if F k a b = 0 then T b else 0) + zsg (fun t => if F k a (b + 1 + t) = 0 then T (b + 1 + t) else 0) i := by
      rw [zsg_head, zsg_congr (f := fun t => if F k a (b + (t + 1)) = 0 then T (b + (t + 1)) else 0) (g := fun t => if F k a (b + 1 + t) = 0 then T (b + 1 + t) else 0) (fun t _ => by rw [show b + (t + 1) = b + 1 + t by omega])]
      rfl
    rw [p_X9_agreeing_89, if_neg (by rw [show (9 : Int32) = nI 9 from rfl, zLe (by omega) (by omega)]; omega), z819, nI_1, nI_1, z9]
    simp only [q1, q2, if_false]
    rw [zcl' (by omega), zcl' (by omega), h.2 k a b hk ha (by omega), hT b (by omega), m_plusC]
    simp only [hz]
    rw [es]
    by_cases e : F k a b = 0
    · rw [if_pos e, if_pos e, Option.bind_some, ih w (b + 1) _ (by omega) (by omega), Nat.add_assoc]
    · rw [if_neg e, if_neg e, ih w (b + 1) _ (by omega) (by omega), Nat.zero_add]
theorem m_ag76 {M : zM} {n : Nat} {k18 : Int32 → Int32 → zM → Option (Int32 × zM)} {k69 : Int32 → zM → Option (Int32 × zM)} {x1 x2 : Int32} {F : Nat → Nat → Nat → Nat} {T : Nat → Nat} {k : Nat} (hn : n ≤ 16) (hk : k < n) (hF : ∀ k a b, F k a b < 1000) : ∀ (i nn a : Nat) (N : zM), a + i = 9 → i < nn → zOff M N n F → (∀ b, b < 9 → N 92 (9 * (k + 1) + b) = nI (zcap (T b))) → p_X9_agreeing_76 k18 k69 x1 x2 (nI k) nn (nI a) N = k69 (nI k + (-1)) (zfil N 92 (9 * k + a) (9 * k + 9) (fun y => nI (zcap (zsg (fun t => if F k (y - 9 * k) t = 0 then T t else 0) 9)))) := by
  intro i
  induction i with
  | zero =>
    intro nn a N e1 e2 h hT
    obtain ⟨w, rfl⟩ := zfuel e2
    rw [p_X9_agreeing_76, if_pos (by rw [show (9 : Int32) = nI 9 from rfl, zLe (by omega) (by omega)]; omega), zfil_nil (by omega)]
  | succ i ih =>
    intro nn a N e1 e2 h hT
    obtain ⟨w, rfl⟩ := zfuel e2
    have h89 := m_ag89 (k18 := k18) (k69 := k69) (k76 := p_X9_agreeing_76 k18 k69 x1 x2 (nI k) w) (x1 := x1) (x2 := x2) hn hk (show a < 9 by omega) hF h hT 9 5000 0 0 (by omega) (by omega)
    rw [show nI (zcap 0) = (0 : Int32) from rfl, show nI 0 = (0 : Int32) from rfl] at h89
    rw [p_X9_agreeing_76, if_neg (by rw [show (9 : Int32) = nI 9 from rfl, zLe (by omega) (by omega)]; omega), h89, ih w (a + 1) _ (by omega) (by omega) (zOff_92 h) (fun b hb => by rw [zs_nj (by omega)]; exact hT b hb)]
    have hst := zfil_step (M := N) (row := 92) (lo := 9 * k + a) (hi := 9 * k + 9) (g := fun y => nI (zcap (zsg (fun t => if F k (y - 9 * k) t = 0 then T t else 0) 9))) (by omega)
    rw [← hst, show 9 * k + a - 9 * k = a by omega]
    simp only [Nat.zero_add, Nat.add_assoc]
theorem m_ag69 {M : zM} {n : Nat} {k18 : Int32 → Int32 → zM → Option (Int32 × zM)} {x1 : Int32} {F : Nat → Nat → Nat → Nat} {f : Nat} (hn : n ≤ 16) (hf : f < 9) (hF : ∀ k a b, F k a b < 1000) : ∀ (r nn : Nat) (N : zM), r ≤ n → r < nn → zTab M N n F (fun j a => zcap (zTg F n f j a)) r → ∃ N', p_X9_agreeing_69 k18 x1 (nI f) nn (nI r - 1) N = (p_X9_plus x1 (nI (zcap (zTg F n f n f)))).bind (fun q => k18 q (nI (f + 1)) N') ∧ zOff M N' n F := by
  intro r
  induction r with
  | zero =>
    intro nn N e1 e2 h
    obtain ⟨w, rfl⟩ := zfuel e2
    have q1 := zix (m := f) (n := 153) (by omega) (by omega)
    refine ⟨N, ?_, h.1⟩
    have := h.2 0 f (by omega) (by omega) hf
    rw [Nat.mul_zero, Nat.zero_add, Nat.sub_zero] at this
    rw [p_X9_agreeing_69, if_pos (by decide)]
    simp only [q1, if_false]
    rw [zcl' (by omega), this, nI_1]
  | succ r ih =>
    intro nn N e1 e2 h
    obtain ⟨w, rfl⟩ := zfuel e2
    have h76 := m_ag76 (k18 := k18) (k69 := p_X9_agreeing_69 k18 x1 (nI f) w) (x1 := x1) (x2 := nI f) (F := F) (T := zTg F n f (n - (r + 1))) (k := r) hn (by omega) hF 9 5000 0 N (by omega) (by omega) h.1 (fun b hb => h.2 (r + 1) b (by omega) (by omega) hb)
    rw [show nI 0 = (0 : Int32) from rfl] at h76
    obtain ⟨N', w1, w2⟩ := ih w (zfil N 92 (9 * r + 0) (9 * r + 9) (fun y => nI (zcap (zsg (fun t => if F r (y - 9 * r) t = 0 then zTg F n f (n - (r + 1)) t else 0) 9)))) (by omega) (by omega) ⟨zOff_f92 h.1, fun k a hk hr ha => by
      by_cases e : k = r
      · subst e
        rw [zfil_in (by omega), show 9 * k + a - 9 * k = a by omega]
        have e3 : n - k = n - (k + 1) + 1 := by omega
        dsimp only
        rw [e3, zTg, ← e3, show n - (n - k) = k by omega]
      · rw [zfil_out (by omega)]
        exact h.2 k a hk (by omega) ha⟩
    refine ⟨N', ?_, w2⟩
    have hneg : ¬ (nI r < 0) := nI_pos (by omega)
    rw [p_X9_agreeing_69, show (1 : Int32) = nI 1 from rfl, pk_sub (by omega), show r + 1 - 1 = r by omega, if_neg hneg, h76, ← w1, Int32.sub_eq_add_neg]
theorem m_ag26 {M : zM} {ns n c : Nat} {k18 : Int32 → Int32 → zM → Option (Int32 × zM)} {x1 : Int32} {F : Nat → Nat → Nat → Nat} {f : Nat} (v : zSh M ns n c) (hf : f < 9) : ∀ (i nn b : Nat) (N : zM), b + i = 9 → i < nn → zOff M N n F → p_X9_agreeing_26 k18 x1 (nI f) nn (nI b) N = p_X9_agreeing_69 k18 x1 (nI f) 5000 (nI n - 1) (zfil N 92 (9 * n + b) (9 * n + 9) (fun y => if y - 9 * n = f then 1 else 0)) := by
  obtain ⟨v4, v6, h1, h0, h2, h3, b1, b2, b3, b4, b5, b6⟩ := id v
  intro i
  induction i with
  | zero =>
    intro nn b N e1 e2 h
    obtain ⟨w, rfl⟩ := zfuel e2
    rw [p_X9_agreeing_26, if_pos (by rw [show (9 : Int32) = nI 9 from rfl, zLe (by omega) (by omega)]; omega), h.1 9 19 (by simp [zscr]), b3, zfil_nil (by omega)]
  | succ i ih =>
    intro nn b N e1 e2 h
    obtain ⟨w, rfl⟩ := zfuel e2
    have q1 := zix (m := 9 * n + b) (n := 153) (by omega) (by omega)
    have hst := zfil_step (M := N) (row := 92) (lo := 9 * n + b) (hi := 9 * n + 9) (g := fun y => if y - 9 * n = f then (1 : Int32) else 0) (by omega)
    rw [show 9 * n + b - 9 * n = b by omega] at hst
    rw [p_X9_agreeing_26, if_neg (by rw [show (9 : Int32) = nI 9 from rfl, zLe (by omega) (by omega)]; omega), h.1 9 19 (by simp [zscr]), b3, z9]
    simp only [q1, if_false, zEqn (show b < 2 ^ 31 by omega) (show f < 2 ^ 31 by omega)]
    rw [zcl' (by omega), nI_1, ← hst]
    by_cases e : b = f
    · rw [if_pos e, if_pos e]
      exact ih w (b + 1) _ (by omega) (by omega) (zOff_92 h)
    · rw [if_neg e, if_neg e]
      exact ih w (b + 1) _ (by omega) (by omega) (zOff_92 h)
theorem m_ag18 {M : zM} {ns n c : Nat} {F : Nat → Nat → Nat → Nat} (v : zSh M ns n c) (hF : ∀ k a b, F k a b < 1000) : ∀ (i nn f acc : Nat) (N : zM), f + i = 9 → i < nn → zOff M N n F → ∃ N', p_X9_agreeing_18 nn (nI (zcap acc)) (nI f) N = some (nI (zcap (acc + zsg (fun t => zTg F n (f + t) n (f + t)) i)), N') ∧ zsame M N' := by
  have hn := v.2.2.2.2.1
  intro i
  induction i with
  | zero =>
    intro nn f acc N e1 e2 h
    obtain ⟨w, rfl⟩ := zfuel e2
    refine ⟨N, ?_, h.1⟩
    rw [p_X9_agreeing_18, if_pos (by rw [show (9 : Int32) = nI 9 from rfl, zLe (by omega) (by omega)]; omega)]
    rfl
  | succ i ih =>
    intro nn f acc N e1 e2 h
    obtain ⟨w, rfl⟩ := zfuel e2
    have h26 := m_ag26 (k18 := p_X9_agreeing_18 w) (x1 := nI (zcap acc)) (f := f) v (by omega) 9 5000 0 N (by omega) (by omega) h
    rw [show nI 0 = (0 : Int32) from rfl] at h26
    obtain ⟨N1, w1, w2⟩ := m_ag69 (k18 := p_X9_agreeing_18 w) (x1 := nI (zcap acc)) (F := F) (f := f) hn (by omega) hF n 5000 (zfil N 92 (9 * n + 0) (9 * n + 9) (fun y => if y - 9 * n = f then 1 else 0)) (by omega) (by omega) ⟨zOff_f92 h, fun k a hk hr ha => by
      have e : k = n := by omega
      subst e
      rw [zfil_in (by omega), show 9 * k + a - 9 * k = a by omega]
      dsimp only
      rw [Nat.sub_self, zTg]
      split <;> rfl⟩
    obtain ⟨N2, w3, w4⟩ := ih w (f + 1) (acc + zTg F n f n f) N1 (by omega) (by omega) w2
    refine ⟨N2, ?_, w4⟩
    rw [p_X9_agreeing_18, if_neg (by rw [show (9 : Int32) = nI 9 from rfl, zLe (by omega) (by omega)]; omega), h26, w1, m_plusC, Option.bind_some, w3, zsg_head, zsg_congr (f := fun t => zTg F n (f + (t + 1)) n (f + (t + 1))) (g := fun t => zTg F n (f + 1 + t) n (f + 1 + t)) (fun t _ => by rw [show f + (t + 1) = f + 1 + t by omega]), Nat.add_assoc]
    simp only [Nat.add_zero]
/-! the product of ways -/
def zpr' (w : Nat → Nat) : Nat → Nat → Nat
  | 0, _ => 1
  | k + 1, i => w i * zpr' w k (i + 1)
def zal (A : Nat → Nat → Nat) (G : Nat → Nat) (k a : Nat) : Nat := if A k a + G k = 0 then 1 else 0
def zbe (B : Nat → Nat → Nat) (k b : Nat) : Nat := if B k b = 0 then 1 else 0
def zwy (A B : Nat → Nat → Nat) (G : Nat → Nat) (n j : Nat) : Nat := zsg (fun b => zbe B (zpd n j) b * zal A G j b) 9
theorem zTg_eq {F : Nat → Nat → Nat → Nat} {A B : Nat → Nat → Nat} {G : Nat → Nat} {n f : Nat} (hF : ∀ k a b, F k a b = A k a + B k b + G k) (hf : f < 9) : ∀ r a, r < n → zTg F n f (r + 1) a = zal A G (n - (r + 1)) a * (zpr' (zwy A B G n) r (n - r) * zbe B (n - 1) f)
  | 0, a, hr => by
    have e : zTg F n f 1 a = zsg (fun b => if b = f then zal A G (n - 1) a * zbe B (n - 1) b else 0) 9 := by
      rw [zTg]
      apply zsg_congr
      intro b _
      rw [zTg, hF, zal, zbe, Nat.zero_add]
      by_cases e1 : b = f
      · rw [if_pos e1, if_pos e1]
        by_cases e2 : A (n - 1) a + G (n - 1) = 0
        · by_cases e3 : B (n - 1) b = 0
          · rw [if_pos (by omega), if_pos e2, if_pos e3]
          · rw [if_neg (by omega), if_pos e2, if_neg e3]
        · rw [if_neg (by omega), if_neg e2, Nat.zero_mul]
      · rw [if_neg e1, if_neg e1]
        split <;> rfl
    rw [e, zsg_pick hf, zpr', Nat.one_mul, Nat.zero_add]
  | r + 1, a, hr => by
    rw [zTg]
    have e : ∀ b, b < 9 → (if F (n - (r + 1 + 1)) a b = 0 then zTg F n f (r + 1) b else 0) = zal A G (n - (r + 1 + 1)) a * (zpr' (zwy A B G n) r (n - r) * zbe B (n - 1) f) * (zbe B (zpd n (n - (r + 1))) b * zal A G (n - (r + 1)) b) := by
      intro b _
      rw [zTg_eq hF hf r b (by omega), hF, show zpd n (n - (r + 1)) = n - (r + 1 + 1) by unfold zpd; split <;> omega]
      by_cases e2 : A (n - (r + 1 + 1)) a + G (n - (r + 1 + 1)) = 0
      · have y1 : zal A G (n - (r + 1 + 1)) a = 1 := if_pos e2
        by_cases e3 : B (n - (r + 1 + 1)) b = 0
        · have y2 : zbe B (n - (r + 1 + 1)) b = 1 := if_pos e3
          rw [if_pos (by omega), y1, y2, Nat.one_mul, Nat.one_mul, Nat.mul_comm]
        · have y2 : zbe B (n - (r + 1 + 1)) b = 0 := if_neg e3
          rw [if_neg (by omega), y1, y2, Nat.zero_mul, Nat.mul_zero]
      · have y1 : zal A G (n - (r + 1 + 1)) a = 0 := if_neg e2
        rw [if_neg (by omega), y1, Nat.zero_mul, Nat.zero_mul]
    rw [zsg_congr e, zsg_mulL, zpr', ← zwy, Nat.mul_assoc, Nat.mul_comm (zpr' _ r (n - r) * _), show n - (r + 1) + 1 = n - r by omega, Nat.mul_assoc]
theorem zTg_sum {F : Nat → Nat → Nat → Nat} {A B : Nat → Nat → Nat} {G : Nat → Nat} {n : Nat} (hn : 1 ≤ n) (hF : ∀ k a b, F k a b = A k a + B k b + G k) : zsg (fun f => zTg F n f n f) 9 = zpr' (zwy A B G n) n 0 := by
  obtain ⟨m, rfl⟩ : ∃ m, n = m + 1 := ⟨n - 1, by omega⟩
  have e : ∀ f, f < 9 → zTg F (m + 1) f (m + 1) f = zpr' (zwy A B G (m + 1)) m 1 * (zbe B (zpd (m + 1) 0) f * zal A G 0 f) := by
    intro f hf
    rw [zTg_eq hF hf m f (by omega), Nat.sub_self, show m + 1 - m = 1 by omega, show zpd (m + 1) 0 = m + 1 - 1 from rfl, Nat.mul_left_comm, Nat.mul_comm (zbe _ _ _)]
  rw [zsg_congr e, zsg_mulL, zpr', ← zwy, Nat.mul_comm]
theorem zpr'_0 {w : Nat → Nat} {j : Nat} (hw : w j = 0) : ∀ k i, i ≤ j → j < i + k → zpr' w k i = 0
  | 0, i, h1, h2 => by omega
  | k + 1, i, h1, h2 => by
    rw [zpr']
    by_cases e : i = j
    · rw [e, hw, Nat.zero_mul]
    · rw [zpr'_0 hw k (i + 1) (by omega) (by omega), Nat.mul_zero]
/-! the class -/
theorem zPs_le {M : zM} {ns n c : Nat} (v : zSh M ns n c) (x : Nat) : zPs M ns n c x ≤ 192 := by
  obtain ⟨v4, v6, h1, h0, h2, h3, -⟩ := v
  have h : zPs M ns n c x ≤ ns * 64 := zsg_le (fun s hs => by
    have a1 : zsg (fun j => zhP M n c s j x) (zsz M n c s) ≤ zsz M n c s * 1 := zsg_le (fun j _ => by unfold zhP; split; omega; split <;> omega)
    have a2 : zsz M n c s ≤ n * 4 := zcs_le (c := c) v4 v6 (s := s) (by omega) n
    omega)
  omega
theorem s_blame {M N : zM} {ns n c x : Nat} (v : zSh M ns n c) (hx : x < n) (h : zPol M N (zPs M ns n c) (zQs M ns n c) (zLs M ns n c)) : ∀ (i nn w acc : Nat), w + i = 9 → i < nn → p_X5_blamelessNotes_4 (nI x) N nn (nI acc) (nI w) = some (nI (acc + zsg (fun t => if zco M ns n c x (w + t) = 0 then 1 else 0) i)) := by
  have hn := v.2.2.2.2.1
  have q1 := zix (m := x) (n := 16) (by omega) (by omega)
  intro i
  induction i with
  | zero =>
    intro nn w acc e1 e2
    obtain ⟨m, rfl⟩ := zfuel e2
    rw [p_X5_blamelessNotes_4, if_pos (by rw [show (9 : Int32) = nI 9 from rfl, zLe (by omega) (by omega)]; omega)]
    rfl
  | succ i ih =>
    intro nn w acc e1 e2
    obtain ⟨m, rfl⟩ := zfuel e2
    have q2 := zix (m := w) (n := 9) (by omega) (by omega)
    have hp := zPs_le v x
    have hpq := zPs_eq (w := w) v hx
    rw [p_X5_blamelessNotes_4, if_neg (by rw [show (9 : Int32) = nI 9 from rfl, zLe (by omega) (by omega)]; omega)]
    simp only [q1, q2, if_false]
    rw [zcl' (by omega), zcl' (by omega), h.2.2.1 x (by omega), h.2.2.2 x w (by omega) (by omega), nI_1, nI_1]
    simp only [zEqn (show zQs M ns n c x w < 2 ^ 31 by omega) (show zPs M ns n c x < 2 ^ 31 by omega)]
    rw [zsg_head, Nat.add_zero w, zsg_congr (f := fun t => if zco M ns n c x (w + (t + 1)) = 0 then 1 else 0) (g := fun t => if zco M ns n c x (w + 1 + t) = 0 then 1 else 0) (fun t _ => by rw [show w + (t + 1) = w + 1 + t by omega])]
    by_cases e : zQs M ns n c x w = zPs M ns n c x
    · rw [if_pos e, ih m (w + 1) _ (by omega) (by omega), if_pos (by omega), Nat.add_assoc]
    · rw [if_neg e, ih m (w + 1) _ (by omega) (by omega), if_neg (by omega), Nat.zero_add]
def zwc (M : zM) (ns n c x : Nat) : Nat := zsg (fun t => if zco M ns n c x t = 0 then 1 else 0) 9
theorem zwc_le (M : zM) (ns n c x : Nat) : zwc M ns n c x ≤ 9 := zsg_le (n := 9) (b := 1) (fun t _ => by split <;> omega)
theorem s_agr17 {M N : zM} {ns n c : Nat} (v : zSh M ns n c) (h : zPol M N (zPs M ns n c) (zQs M ns n c) (zLs M ns n c)) : ∀ (k nn i acc : Nat), i + k = n → k < nn → acc ≤ 1000001 → p_X5_agreeingGrounds_17 N nn (nI acc) (nI i) = some (nI (zcap (acc * zpr' (zwc M ns n c) k i)), N) := by
  obtain ⟨v4, v6, h1, h0, h2, h3, b1, b2, b3, b4, b5, b6⟩ := id v
  intro k
  induction k with
  | zero =>
    intro nn i acc e1 e2 e3
    obtain ⟨m, rfl⟩ := zfuel e2
    rw [p_X5_agreeingGrounds_17, h.1 6 5 rfl, b4, if_pos (by rw [zLe (by omega) (by omega)]; omega), zpr', Nat.mul_one, zcap_id e3]
  | succ k ih =>
    intro nn i acc e1 e2 e3
    obtain ⟨m, rfl⟩ := zfuel e2
    have hb : p_X5_blamelessNotes (nI i) N = some (nI (zwc M ns n c i)) := by
      have := s_blame v (show i < n by omega) h 9 5000 0 0 (by omega) (by omega)
      rw [show nI 0 = (0 : Int32) from rfl] at this
      rw [p_X5_blamelessNotes, this, zwc]
      simp only [Nat.zero_add]
    have hle := zwc_le M ns n c i
    have hmul : acc * zwc M ns n c i ≤ 1000001 * 9 := Nat.mul_le_mul e3 hle
    rw [p_X5_agreeingGrounds_17, h.1 6 5 rfl, b4, if_neg (by rw [zLe (by omega) (by omega)]; omega), hb, Option.bind_some, s_cap (by omega), nI_1, ih m (i + 1) _ (by omega) (by omega) (zcap_le _), zcap_mul, zpr', Nat.mul_assoc]
theorem zF'_lt {M : zM} {ns n c : Nat} (v : zSh M ns n c) (k a b : Nat) : zF' M ns c k a b < 1000 := by
  have h1 := zA0_le v k a
  have h2 := zB'_le v k b
  have h3 := zG_le v k
  rw [zF'_eq]
  omega
theorem e_agreeing {M : zM} (v : zInv M) : zAlike p_X8_agreeing p_X9_agreeing M := by
  obtain ⟨v1, v2, v3, v4, v5, v6, v7⟩ := id v
  obtain ⟨ns, n, c, h1, h2, h3, h4, e1, e1', e2, e2', e3, e3'⟩ := zshn v6
  have q0 : (nI ns = 0) = (ns = 0) := zEqn (b := 0) (by omega) (by omega)
  by_cases hz : ns = 0
  · refine ⟨-4, M, M, ?_, ?_, v⟩
    · rw [p_X8_agreeing, e1', if_pos (by rw [q0]; exact hz)]
    · rw [p_X9_agreeing, e1, if_pos (by rw [q0]; exact hz)]
  · have vs : zSh M ns n c := ⟨v4, v6, h1, h4 (by omega), h2, h3, e1, e1', e2, e2', e3, e3'⟩
    obtain ⟨N1, a1, a2⟩ := s_poll vs
    obtain ⟨N2, a3, a4⟩ := m_off vs a2.1
    obtain ⟨N3, a5, a6⟩ := m_ag18 vs (zF'_lt vs) 9 5000 0 0 N2 (by omega) (by omega) a4
    have hT : zsg (fun t => zTg (zF' M ns c) n (0 + t) n (0 + t)) 9 = zpr' (zwy (zA0 M ns c) (zB' M ns c) (zG M ns c) n) n 0 := by
      simp only [Nat.zero_add]
      exact zTg_sum vs.2.2.2.1 (zF'_eq M ns c)
    rw [Nat.zero_add, hT, show nI (zcap 0) = (0 : Int32) from rfl, show nI 0 = (0 : Int32) from rfl] at a5
    have hL := zLs_eq vs
    have hLl : zLs M ns n c ≤ n * 12 := by rw [hL]; exact zsg_le (fun k _ => zG_le vs k)
    refine ⟨nI (zcap (zpr' (zwy (zA0 M ns c) (zB' M ns c) (zG M ns c) n) n 0)), N1, N3, ?_, ?_, zInv_same a6 v⟩
    · rw [p_X8_agreeing, e1', if_neg (by rw [q0]; exact hz), p_X5_agreeingGrounds, a1, Option.bind_some, a2.2.1]
      have q1 : (nI (zLs M ns n c) ≤ 0) = (zLs M ns n c ≤ 0) := zLe (b := 0) (by omega) (by omega)
      simp only [q1]
      by_cases hl : zLs M ns n c ≤ 0
      · have h17 := s_agr17 vs a2 n 5000 0 1 (by omega) (by omega) (by omega)
        rw [show nI 1 = (1 : Int32) from rfl, show nI 0 = (0 : Int32) from rfl, Nat.one_mul] at h17
        have hw : zwy (zA0 M ns c) (zB' M ns c) (zG M ns c) n = fun j => if j < n then zwc M ns n c j else zwy (zA0 M ns c) (zB' M ns c) (zG M ns c) n j := by
          funext j
          by_cases hj : j < n
          · rw [if_pos hj, zwy, zwc]
            apply zsg_congr
            intro t _
            have hg : zG M ns c j = 0 := by
              rcases Nat.eq_zero_or_pos (zG M ns c j) with h | h
              · exact h
              · have h5 : 0 < zsg (fun k => zG M ns c k) n := zsg_pos.mpr ⟨j, hj, h⟩
                omega
            rw [zbe, zal, zco, hg]
            by_cases y1 : zB' M ns c (zpd n j) t = 0
            · by_cases y2 : zA0 M ns c j t = 0
              · rw [if_pos y1, if_pos (by omega), if_pos (by omega)]
              · rw [if_pos y1, if_neg (by omega), if_neg (by omega)]
            · rw [if_neg y1, Nat.zero_mul, if_neg (by omega)]
          · rw [if_neg hj]
        have hpr : ∀ k i, i + k ≤ n → zpr' (zwy (zA0 M ns c) (zB' M ns c) (zG M ns c) n) k i = zpr' (zwc M ns n c) k i := by
          intro k
          induction k with
          | zero => intro i _; rfl
          | succ k ih =>
            intro i hi
            rw [zpr', zpr', ih (i + 1) (by omega), congrFun hw i, if_pos (by omega)]
        rw [if_pos hl, h17, Option.bind_some, hpr n 0 (by omega)]
      · obtain ⟨j, hj, hg⟩ := zsg_pos.mp (show 0 < zsg (fun k => zG M ns c k) n by omega)
        have hw0 : zwy (zA0 M ns c) (zB' M ns c) (zG M ns c) n j = 0 := by
          rw [zwy]
          apply zsg_zero
          intro t _
          rw [zal, if_neg (by omega), Nat.mul_zero]
        rw [if_neg hl, zpr'_0 hw0 n 0 (by omega) (by omega), Option.bind_some]
        rfl
    · rw [p_X9_agreeing, a2.1 9 18 rfl, e1, if_neg (by rw [q0]; exact hz), a3, Option.bind_some, a5]
