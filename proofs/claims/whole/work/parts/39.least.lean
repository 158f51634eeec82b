/-! ===== fewest wrong ones: the first least ===== -/
def zam (f : Nat → Nat) : Nat → Nat
  | 0 => 0
  | k + 1 => if f (zam f k) ≤ f (k + 1) then zam f k else k + 1
theorem zam_ok (f : Nat → Nat) : ∀ k, zam f k ≤ k ∧ (∀ b, b ≤ k → f (zam f k) ≤ f b) ∧ (∀ b, b < zam f k → f (zam f k) < f b)
  | 0 => ⟨Nat.le_refl 0, fun b hb => by rw [show b = 0 by omega]; exact Nat.le_refl _, fun b hb => by rw [zam] at hb; omega⟩
  | k + 1 => by
    obtain ⟨h1, h2, h3⟩ := zam_ok f k
    rw [zam]
    by_cases h : f (zam f k) ≤ f (k + 1)
    · rw [if_pos h]
      refine ⟨by omega, fun b hb => ?_, h3⟩
      by_cases e : b = k + 1
      · rw [e]; exact h
      · exact h2 b (by omega)
    · rw [if_neg h]
      refine ⟨by omega, fun b hb => ?_, fun b hb => ?_⟩
      · by_cases e : b = k + 1
        · rw [e]; exact Nat.le_refl _
        · have := h2 b (by omega); omega
      · have := h2 b (by omega); omega
theorem zam_add {f g : Nat → Nat} {d : Nat} (h : ∀ b, b < 9 → g b = f b + d) : ∀ k, k < 9 → zam g k = zam f k
  | 0, _ => rfl
  | k + 1, hk => by
    have := (zam_ok f k).1
    rw [zam, zam, zam_add h k (by omega), h _ (by omega), h _ hk]
    by_cases e : f (zam f k) ≤ f (k + 1)
    · rw [if_pos e, if_pos (by omega)]
    · rw [if_neg e, if_neg (by omega)]
def zmn (g : Nat → Nat) : Nat → Nat
  | 0 => 100000
  | k + 1 => if zmn g k ≤ g k then zmn g k else g k
theorem zmn_ok (g : Nat → Nat) : ∀ k, (∀ b, b < k → zmn g k ≤ g b) ∧ (zmn g k = 100000 ∨ ∃ b, b < k ∧ zmn g k = g b) ∧ zmn g k ≤ 100000
  | 0 => ⟨fun b hb => by omega, Or.inl rfl, Nat.le_refl _⟩
  | k + 1 => by
    obtain ⟨h1, h2, h3⟩ := zmn_ok g k
    rw [zmn]
    by_cases h : zmn g k ≤ g k
    · rw [if_pos h]
      refine ⟨fun b hb => ?_, ?_, h3⟩
      · by_cases e : b = k
        · rw [e]; exact h
        · exact h1 b (by omega)
      · rcases h2 with h2 | ⟨b, hb, e⟩
        · exact Or.inl h2
        · exact Or.inr ⟨b, by omega, e⟩
    · rw [if_neg h]
      refine ⟨fun b hb => ?_, Or.inr ⟨k, by omega, rfl⟩, by omega⟩
      by_cases e : b = k
      · rw [e]; exact Nat.le_refl _
      · have := h1 b (by omega); omega
theorem zmn_eq {g : Nat → Nat} {m k : Nat} (h1 : ∀ b, b < k → m ≤ g b) (h2 : ∃ b, b < k ∧ g b = m) (h3 : m ≤ 100000) : zmn g k = m := by
  obtain ⟨a1, a2, a3⟩ := zmn_ok g k
  obtain ⟨b, hb, e⟩ := h2
  have h4 := a1 b hb
  rcases a2 with a2 | ⟨b', hb', e'⟩
  · omega
  · have := h1 b' hb'
    omega
def zTl (F : Nat → Nat → Nat → Nat) (n f : Nat) : Nat → Nat → Nat
  | 0, a => if a = f then 0 else 10000
  | r + 1, a => zmn (fun b => F (n - (r + 1)) a b + zTl F n f r b) 9
theorem zTl_le (F : Nat → Nat → Nat → Nat) (n f : Nat) : ∀ r a, zTl F n f r a ≤ 100000
  | 0, a => by rw [zTl]; split <;> omega
  | r + 1, a => by rw [zTl]; exact (zmn_ok _ 9).2.2
/-! the class -/
theorem s_most {M N : zM} {ns n c x : Nat} (v : zSh M ns n c) (hx : x < n) (h : zPol M N (zPs M ns n c) (zQs M ns n c) (zLs M ns n c)) : ∀ (i nn w : Nat), w + i = 8 → i < nn → p_X5_mostVoted_4 (52 + x) 9 N nn (nI (zam (zco M ns n c x) w)) (nI (w + 1)) = some (nI (zam (zco M ns n c x) 8)) := by
  have hn := v.2.2.2.2.1
  intro i
  induction i with
  | zero =>
    intro nn w e1 e2
    obtain ⟨m, rfl⟩ := zfuel e2
    rw [p_X5_mostVoted_4, if_pos (by rw [show (9 : Int32) = nI 9 from rfl, zLe (by omega) (by omega)]; omega), show w = 8 by omega]
  | succ i ih =>
    intro nn w e1 e2
    obtain ⟨m, rfl⟩ := zfuel e2
    have hz := (zam_ok (zco M ns n c x) w).1
    have q1 := zix (m := w + 1) (n := 9) (by omega) (by omega)
    have q2 := zix (m := zam (zco M ns n c x) w) (n := 9) (by omega) (by omega)
    have hp := zPs_le v x
    have hpq := zPs_eq (w := w + 1) v hx
    have hpr := zPs_eq (w := zam (zco M ns n c x) w) v hx
    rw [p_X5_mostVoted_4, if_neg (by rw [show (9 : Int32) = nI 9 from rfl, zLe (by omega) (by omega)]; omega)]
    simp only [q1, q2, if_false]
    rw [zcl' (by omega), zcl' (by omega), h.2.2.2 x (w + 1) (by omega) (by omega), h.2.2.2 x _ (by omega) (by omega), nI_1]
    simp only [zLe (show zQs M ns n c x (w + 1) < 2 ^ 31 by omega) (show zQs M ns n c x (zam (zco M ns n c x) w) < 2 ^ 31 by omega)]
    have hi := ih m (w + 1) (by omega) (by omega)
    rw [zam] at hi
    by_cases e : zco M ns n c x (zam (zco M ns n c x) w) ≤ zco M ns n c x (w + 1)
    · rw [if_pos e] at hi
      rw [if_pos (by omega)]
      exact hi
    · rw [if_neg e] at hi
      rw [if_neg (by omega)]
      exact hi
/-- the ground that is chosen -/
def zga (M : zM) (ns n c x : Nat) : Nat := zam (zco M ns n c x) 8
theorem zga_le (M : zM) (ns n c x : Nat) : zga M ns n c x < 9 := by
  have := (zam_ok (zco M ns n c x) 8).1
  rw [zga]
  omega
theorem zPol_69 {M N : zM} {P : Nat → Nat} {Q : Nat → Nat → Nat} {L j : Nat} {x : Int32} (h : zPol M N P Q L) : zPol M (zset N 69 j x) P Q L := by
  obtain ⟨a, b, c, d⟩ := h
  exact ⟨a.set (by simp [zscr]), by rw [zs_ne (by omega)]; exact b, fun y hy => by rw [zs_ne (by omega)]; exact c y hy, fun y w hy hw => by rw [zs_ne (by omega)]; exact d y w hy hw⟩
theorem s_choose6 {M : zM} {ns n c : Nat} (v : zSh M ns n c) : ∀ (i nn x : Nat) (N : zM), x + i = n → i < nn → zPol M N (zPs M ns n c) (zQs M ns n c) (zLs M ns n c) → p_X5_chooseGround_6 nn (nI x) N = some (zfil N 69 x n (fun y => nI (zga M ns n c y))) := by
  obtain ⟨v4, v6, h1, h0, h2, h3, b1, b2, b3, b4, b5, b6⟩ := id v
  intro i
  induction i with
  | zero =>
    intro nn x N e1 e2 h
    obtain ⟨m, rfl⟩ := zfuel e2
    rw [p_X5_chooseGround_6, h.1 6 5 rfl, b4, if_pos (by rw [zLe (by omega) (by omega)]; omega), zfil_nil (by omega)]
  | succ i ih =>
    intro nn x N e1 e2 h
    obtain ⟨m, rfl⟩ := zfuel e2
    have q1 := zix (m := x) (n := 16) (by omega) (by omega)
    have hm : p_X5_mostVoted (52 + x) 9 N = some (nI (zga M ns n c x)) := by
      have := s_most v (show x < n by omega) h 8 5000 0 (by omega) (by omega)
      rw [zam, show nI 0 = (0 : Int32) from rfl, show nI (0 + 1) = (1 : Int32) from rfl] at this
      rw [p_X5_mostVoted, this, zga]
    rw [p_X5_chooseGround_6, h.1 6 5 rfl, b4, if_neg (by rw [zLe (by omega) (by omega)]; omega)]
    simp only [q1, if_false]
    rw [zcl' (by omega), hm, Option.bind_some, nI_1, ih m (x + 1) _ (by omega) (by omega) (zPol_69 h), zfil_step (g := fun y => nI (zga M ns n c y)) (by omega)]
theorem s_choose {M : zM} {ns n c : Nat} (v : zSh M ns n c) : ∃ N, p_X5_chooseGround M = some N ∧ zsame M N ∧ ∀ x, x < n → N 69 x = nI (zga M ns n c x) := by
  obtain ⟨N, a1, a2⟩ := s_poll v
  have h := s_choose6 v n 5000 0 N (by omega) (by have := v.2.2.2.2.1; omega) a2
  rw [show nI 0 = (0 : Int32) from rfl] at h
  refine ⟨_, by rw [p_X5_chooseGround, a1, Option.bind_some, h], a2.1.fil (fun b => by simp [zscr]), fun x hx => by rw [zfil_in (by omega)]⟩
/-! the reference's table -/
theorem m_ft66 {M N : zM} {n : Nat} {k47 k53 : Int32 → zM → Option (Int32 × zM)} {x1 : Int32} {F : Nat → Nat → Nat → Nat} {T : Nat → Nat} {k a : Nat} (hn : n ≤ 16) (hk : k < n) (ha : a < 9) (hF : ∀ k a b, F k a b < 1000) (hTl : ∀ b, T b ≤ 100000) (h : zOff M N n F) (hT : ∀ b, b < 9 → N 92 (9 * (k + 1) + b) = nI (T b)) : ∀ (i nn b : Nat), b + i = 9 → i < nn → p_X9_findTable_66 k47 k53 x1 (nI k) (nI a) N nn (nI (zmn (fun b => F k a b + T b) b)) (nI b) = k53 (nI (a + 1)) (zset N 92 (9 * k + a) (nI (zmn (fun b => F k a b + T b) 9))) := by
  intro i
  induction i with
  | zero =>
    intro nn b e1 e2
    obtain ⟨w, rfl⟩ := zfuel e2
    have q1 := zix (m := 9 * k + a) (n := 153) (by omega) (by omega)
    rw [p_X9_findTable_66, if_pos (by rw [show (9 : Int32) = nI 9 from rfl, zLe (by omega) (by omega)]; omega), z9]
    simp only [q1, if_false]
    rw [zcl' (by omega), nI_1, show b = 9 by omega]
  | succ i ih =>
    intro nn b e1 e2
    obtain ⟨w, rfl⟩ := zfuel e2
    have q1 := zix (m := 81 * k + (9 * a + b)) (n := 1296) (by omega) (by omega)
    have q2 := zix (m := 9 * (k + 1) + b) (n := 153) (by omega) (by omega)
    have g1 := hF k a b
    have g2 := hTl b
    have g3 := (zmn_ok (fun b => F k a b + T b) b).2.2
    rw [p_X9_findTable_66, if_neg (by rw [show (9 : Int32) = nI 9 from rfl, zLe (by omega) (by omega)]; omega), z819, nI_1, nI_1, z9]
    simp only [q1, q2, if_false]
    rw [zcl' (by omega), zcl' (by omega), h.2 k a b hk ha (by omega), hT b (by omega), nI_add]
    simp only [zLe (show zmn (fun b => F k a b + T b) b < 2 ^ 31 by omega) (show F k a b + T b < 2 ^ 31 by omega)]
    have hi := ih w (b + 1) (by omega) (by omega)
    rw [zmn] at hi
    by_cases e : zmn (fun b => F k a b + T b) b ≤ F k a b + T b
    · rw [if_pos e] at hi
      rw [if_pos e]
      exact hi
    · rw [if_neg e] at hi
      rw [if_neg e]
      exact hi
theorem m_ft53 {M : zM} {n : Nat} {k47 : Int32 → zM → Option (Int32 × zM)} {x1 : Int32} {F : Nat → Nat → Nat → Nat} {T : Nat → Nat} {k : Nat} (hn : n ≤ 16) (hk : k < n) (hF : ∀ k a b, F k a b < 1000) (hTl : ∀ b, T b ≤ 100000) : ∀ (i nn a : Nat) (N : zM), a + i = 9 → i < nn → zOff M N n F → (∀ b, b < 9 → N 92 (9 * (k + 1) + b) = nI (T b)) → p_X9_findTable_53 k47 x1 (nI k) nn (nI a) N = k47 (nI k + (-1)) (zfil N 92 (9 * k + a) (9 * k + 9) (fun y => nI (zmn (fun t => F k (y - 9 * k) t + T t) 9))) := by
  intro i
  induction i with
  | zero =>
    intro nn a N e1 e2 h hT
    obtain ⟨w, rfl⟩ := zfuel e2
    rw [p_X9_findTable_53, if_pos (by rw [show (9 : Int32) = nI 9 from rfl, zLe (by omega) (by omega)]; omega), zfil_nil (by omega)]
  | succ i ih =>
    intro nn a N e1 e2 h hT
    obtain ⟨w, rfl⟩ := zfuel e2
    have h66 := m_ft66 (k47 := k47) (k53 := p_X9_findTable_53 k47 x1 (nI k) w) (x1 := x1) hn hk (show a < 9 by omega) hF hTl h hT 9 5000 0 (by omega) (by omega)
    rw [zmn, show nI 100000 = (100000 : Int32) from rfl, show nI 0 = (0 : Int32) from rfl] at h66
    rw [p_X9_findTable_53, if_neg (by rw [show (9 : Int32) = nI 9 from rfl, zLe (by omega) (by omega)]; omega), h66, ih w (a + 1) _ (by omega) (by omega) (zOff_92 h) (fun b hb => by rw [zs_nj (by omega)]; exact hT b hb)]
    have hst := zfil_step (M := N) (row := 92) (lo := 9 * k + a) (hi := 9 * k + 9) (g := fun y => nI (zmn (fun t => F k (y - 9 * k) t + T t) 9)) (by omega)
    rw [← hst, show 9 * k + a - 9 * k = a by omega]
    simp only [Nat.add_assoc]
theorem m_ft47 {M : zM} {n : Nat} {F : Nat → Nat → Nat → Nat} {f : Nat} (hn : n ≤ 16) (hf : f < 9) (hF : ∀ k a b, F k a b < 1000) : ∀ (r nn : Nat) (N : zM), r ≤ n → r < nn → zTab M N n F (zTl F n f) r → ∃ N', p_X9_findTable_47 (nI f) nn (nI r - 1) N = some (nI (zTl F n f n f), N') ∧ zTab M N' n F (zTl F n f) 0 := by
  intro r
  induction r with
  | zero =>
    intro nn N e1 e2 h
    obtain ⟨w, rfl⟩ := zfuel e2
    have q1 := zix (m := f) (n := 153) (by omega) (by omega)
    refine ⟨N, ?_, h⟩
    have := h.2 0 f (by omega) (by omega) hf
    rw [Nat.mul_zero, Nat.zero_add, Nat.sub_zero] at this
    rw [p_X9_findTable_47, if_pos (by decide)]
    simp only [q1, if_false]
    rw [zcl' (by omega), this]
  | succ r ih =>
    intro nn N e1 e2 h
    obtain ⟨w, rfl⟩ := zfuel e2
    have h53 := m_ft53 (k47 := p_X9_findTable_47 (nI f) w) (x1 := nI f) (F := F) (T := zTl F n f (n - (r + 1))) (k := r) hn (by omega) hF (zTl_le F n f _) 9 5000 0 N (by omega) (by omega) h.1 (fun b hb => h.2 (r + 1) b (by omega) (by omega) hb)
    rw [show nI 0 = (0 : Int32) from rfl] at h53
    obtain ⟨N', w1, w2⟩ := ih w (zfil N 92 (9 * r + 0) (9 * r + 9) (fun y => nI (zmn (fun t => F r (y - 9 * r) t + zTl F n f (n - (r + 1)) t) 9))) (by omega) (by omega) ⟨zOff_f92 h.1, fun k a hk hr ha => by
      by_cases e : k = r
      · subst e
        rw [zfil_in (by omega), show 9 * k + a - 9 * k = a by omega]
        have e3 : n - k = n - (k + 1) + 1 := by omega
        rw [e3, zTl, ← e3, show n - (n - k) = k by omega]
      · rw [zfil_out (by omega)]
        exact h.2 k a hk (by omega) ha⟩
    refine ⟨N', ?_, w2⟩
    have hneg : ¬ (nI r < 0) := nI_pos (by omega)
    rw [p_X9_findTable_47, show (1 : Int32) = nI 1 from rfl, pk_sub (by omega), show r + 1 - 1 = r by omega, if_neg hneg, h53, ← w1, Int32.sub_eq_add_neg]
theorem m_ft2 {M : zM} {ns n c : Nat} {F : Nat → Nat → Nat → Nat} {f : Nat} (v : zSh M ns n c) (hf : f < 9) : ∀ (i nn b : Nat) (N : zM), b + i = 9 → i < nn → zOff M N n F → p_X9_findTable_2 (nI f) nn (nI b) N = p_X9_findTable_47 (nI f) 5000 (nI n - 1) (zfil N 92 (9 * n + b) (9 * n + 9) (fun y => if y - 9 * n = f then 0 else 10000)) := by
  obtain ⟨v4, v6, h1, h0, h2, h3, b1, b2, b3, b4, b5, b6⟩ := id v
  intro i
  induction i with
  | zero =>
    intro nn b N e1 e2 h
    obtain ⟨w, rfl⟩ := zfuel e2
    rw [p_X9_findTable_2, if_pos (by rw [show (9 : Int32) = nI 9 from rfl, zLe (by omega) (by omega)]; omega), h.1 9 19 (by simp [zscr]), b3, zfil_nil (by omega)]
  | succ i ih =>
    intro nn b N e1 e2 h
    obtain ⟨w, rfl⟩ := zfuel e2
    have q1 := zix (m := 9 * n + b) (n := 153) (by omega) (by omega)
    have hst := zfil_step (M := N) (row := 92) (lo := 9 * n + b) (hi := 9 * n + 9) (g := fun y => if y - 9 * n = f then (0 : Int32) else 10000) (by omega)
    rw [show 9 * n + b - 9 * n = b by omega] at hst
    rw [p_X9_findTable_2, if_neg (by rw [show (9 : Int32) = nI 9 from rfl, zLe (by omega) (by omega)]; omega), h.1 9 19 (by simp [zscr]), b3, z9]
    simp only [q1, if_false, zEqn (show b < 2 ^ 31 by omega) (show f < 2 ^ 31 by omega)]
    rw [zcl' (by omega), nI_1, ← hst]
    by_cases e : b = f
    · rw [if_pos e, if_pos e]
      exact ih w (b + 1) _ (by omega) (by omega) (zOff_92 h)
    · rw [if_neg e, if_neg e]
      exact ih w (b + 1) _ (by omega) (by omega) (zOff_92 h)
theorem m_table {M N : zM} {ns n c : Nat} {F : Nat → Nat → Nat → Nat} {f : Nat} (v : zSh M ns n c) (hf : f < 9) (hF : ∀ k a b, F k a b < 1000) (h : zOff M N n F) : ∃ N', p_X9_findTable (nI f) N = some (nI (zTl F n f n f), N') ∧ zTab M N' n F (zTl F n f) 0 := by
  have hn := v.2.2.2.2.1
  have h2 := m_ft2 v hf 9 5000 0 N (by omega) (by omega) h
  rw [show nI 0 = (0 : Int32) from rfl] at h2
  obtain ⟨N', w1, w2⟩ := m_ft47 (F := F) (f := f) hn hf hF n 5000 (zfil N 92 (9 * n + 0) (9 * n + 9) (fun y => if y - 9 * n = f then 0 else 10000)) (by omega) (by omega) ⟨zOff_f92 h, fun k a hk hr ha => by
    have e : k = n := by omega
    subst e
    rw [zfil_in (by omega), show 9 * k + a - 9 * k = a by omega, Nat.sub_self, zTl]
    split <;> rfl⟩
  exact ⟨N', by rw [p_X9_findTable, h2, w1], w2⟩
