/-! ===== the memory that a new object of each begins with ===== -/
abbrev zz0 : Nat → Int32 := fun _ => 0
def zM0 : zM := fun a b =>
  if a = 20 ∨ a = 21 ∨ a = 77 ∨ a = 78 then (if b = 0 then 511 else 0)
  else if a = 1 ∨ a = 9 then (if b = 4 then 1 else 0)
  else if 26 ≤ a ∧ a < 29 then (if b < 8 then nI b else 0)
  else if 30 ≤ a ∧ a < 33 then (if b < 9 then nI (b / 3) else 0)
  else if a = 82 then (if b < 24 then nI (b % 8) else 0)
  else if a = 83 then (if b < 27 then nI (b % 9 / 3) else 0)
  else if a = 37 ∨ a = 86 then (if b < 5 then 1 else 0)
  else if 39 ≤ a ∧ a < 44 then (if b = 0 then 9 else 0)
  else if a = 87 then (if b < 20 ∧ b % 4 = 0 then 9 else 0)
  else if a = 72 ∨ a = 96 then (if b < 6 then 1 else 0)
  else 0
theorem zrow_id {M : zM} {i : Nat} {f : Nat → Int32} (h : M i = f) : zrow M i f = M := by
  funext a
  rw [zrow]
  by_cases e : a = i
  · rw [if_pos e, e, h]
  · rw [if_neg e]
theorem zrows_id {M : zM} {b N : Nat} (h : ∀ a, b ≤ a → a < b + N → M a = fun _ => 0) : zrows M b N = M := by
  funext a
  rw [zrows]
  by_cases e : b ≤ a ∧ a < b + N
  · rw [if_pos e, h a e.1 e.2]
  · rw [if_neg e]
theorem zM0_z {a : Nat} (h : ¬ (a = 20 ∨ a = 21 ∨ a = 77 ∨ a = 78 ∨ a = 1 ∨ a = 9 ∨ (26 ≤ a ∧ a < 29) ∨ (30 ≤ a ∧ a < 33) ∨ a = 82 ∨ a = 83 ∨ a = 37 ∨ a = 86 ∨ (39 ≤ a ∧ a < 44) ∨ a = 87 ∨ a = 72 ∨ a = 96)) : zM0 a = fun _ => 0 := by
  funext b
  rw [zM0, if_neg (by omega), if_neg (by omega), if_neg (by omega), if_neg (by omega), if_neg (by omega), if_neg (by omega), if_neg (by omega), if_neg (by omega), if_neg (by omega), if_neg (by omega)]
theorem zM0_37 {a : Nat} (b : Nat) (h : a = 37 ∨ a = 86) : zM0 a b = if b < 5 then 1 else 0 := by
  rw [zM0, if_neg (show ¬ (a = 20 ∨ a = 21 ∨ a = 77 ∨ a = 78) by omega), if_neg (show ¬ (a = 1 ∨ a = 9) by omega), if_neg (show ¬ (26 ≤ a ∧ a < 29) by omega), if_neg (show ¬ (30 ≤ a ∧ a < 33) by omega), if_neg (show ¬ a = 82 by omega), if_neg (show ¬ a = 83 by omega), if_pos h]
theorem zM0_39 {a : Nat} (b : Nat) (h : 39 ≤ a ∧ a < 44) : zM0 a b = if b = 0 then 9 else 0 := by
  rw [zM0, if_neg (show ¬ (a = 20 ∨ a = 21 ∨ a = 77 ∨ a = 78) by omega), if_neg (show ¬ (a = 1 ∨ a = 9) by omega), if_neg (show ¬ (26 ≤ a ∧ a < 29) by omega), if_neg (show ¬ (30 ≤ a ∧ a < 33) by omega), if_neg (show ¬ a = 82 by omega), if_neg (show ¬ a = 83 by omega), if_neg (show ¬ (a = 37 ∨ a = 86) by omega), if_pos h]
theorem zM0_87 (b : Nat) : zM0 87 b = if b < 20 ∧ b % 4 = 0 then 9 else 0 := rfl
theorem zM0_72 {a : Nat} (b : Nat) (h : a = 72 ∨ a = 96) : zM0 a b = if b < 6 then 1 else 0 := by
  rw [zM0, if_neg (show ¬ (a = 20 ∨ a = 21 ∨ a = 77 ∨ a = 78) by omega), if_neg (show ¬ (a = 1 ∨ a = 9) by omega), if_neg (show ¬ (26 ≤ a ∧ a < 29) by omega), if_neg (show ¬ (30 ≤ a ∧ a < 33) by omega), if_neg (show ¬ a = 82 by omega), if_neg (show ¬ a = 83 by omega), if_neg (show ¬ (a = 37 ∨ a = 86) by omega), if_neg (show ¬ (39 ≤ a ∧ a < 44) by omega), if_neg (show ¬ a = 87 by omega), if_pos h]
theorem zM0_82 (b : Nat) : zM0 82 b = if b < 24 then nI (b % 8) else 0 := rfl
theorem zM0_83 (b : Nat) : zM0 83 b = if b < 27 then nI (b % 9 / 3) else 0 := rfl
theorem zM0_26 {a : Nat} (b : Nat) (h : 26 ≤ a ∧ a < 29) : zM0 a b = if b < 8 then nI b else 0 := by
  rw [zM0, if_neg (show ¬ (a = 20 ∨ a = 21 ∨ a = 77 ∨ a = 78) by omega), if_neg (show ¬ (a = 1 ∨ a = 9) by omega), if_pos h]
theorem zM0_30 {a : Nat} (b : Nat) (h : 30 ≤ a ∧ a < 33) : zM0 a b = if b < 9 then nI (b / 3) else 0 := by
  rw [zM0, if_neg (show ¬ (a = 20 ∨ a = 21 ∨ a = 77 ∨ a = 78) by omega), if_neg (show ¬ (a = 1 ∨ a = 9) by omega), if_neg (show ¬ (26 ≤ a ∧ a < 29) by omega), if_pos h]
theorem zM0_20 {a : Nat} (b : Nat) (h : a = 20 ∨ a = 21 ∨ a = 77 ∨ a = 78) : zM0 a b = if b = 0 then 511 else 0 := by rw [zM0, if_pos h]
theorem zrow_0 {i : Nat} (h : ¬ (i = 20 ∨ i = 21 ∨ i = 77 ∨ i = 78 ∨ i = 1 ∨ i = 9 ∨ (26 ≤ i ∧ i < 29) ∨ (30 ≤ i ∧ i < 33) ∨ i = 82 ∨ i = 83 ∨ i = 37 ∨ i = 86 ∨ (39 ≤ i ∧ i < 44) ∨ i = 87 ∨ i = 72 ∨ i = 96)) : zrow zM0 i (fun _ => 0) = zM0 := zrow_id (zM0_z h)
theorem zrow_cm {M : zM} {i j : Nat} {f g : Nat → Int32} (h : i ≠ j) : zrow (zrow M i f) j g = zrow (zrow M j g) i f := by
  funext a
  simp only [zrow]
  by_cases e1 : a = j
  · have e2 : ¬ a = i := fun e2 => h (e2.symm.trans e1)
    simp [e1, Ne.symm h]
  · simp [e1]
theorem zrows_0 {b N : Nat} (h : ∀ a, b ≤ a → a < b + N → ¬ (a = 20 ∨ a = 21 ∨ a = 77 ∨ a = 78 ∨ a = 1 ∨ a = 9 ∨ (26 ≤ a ∧ a < 29) ∨ (30 ≤ a ∧ a < 33) ∨ a = 82 ∨ a = 83 ∨ a = 37 ∨ a = 86 ∨ (39 ≤ a ∧ a < 44) ∨ a = 87 ∨ a = 72 ∨ a = 96)) : zrows zM0 b N = zM0 := zrows_id (fun a h1 h2 => zM0_z (h a h1 h2))
/-! rows that are made, and stay as they are -/
theorem zm_X0 : zrow zM0 74 (fun _ => 0) = zM0 := zrow_0 (by omega)
theorem zm_X1 : zrow zM0 44 (fun _ => 0) = zM0 := zrow_0 (by omega)
theorem zm_X7 : zrow (zrow (zrow zM0 22 (fun _ => 0)) 23 (fun _ => 0)) 24 (fun _ => 0) = zM0 := by rw [zrow_0 (by omega), zrow_0 (by omega), zrow_0 (by omega)]
theorem zm_X5 : zrow (zrow (zrows (zrows (zrow (zrow zM0 45 (fun _ => 0)) 46 (fun _ => 0)) 48 3) 52 16) 68 (fun _ => 0)) 69 (fun _ => 0) = zM0 := by rw [zrow_0 (by omega), zrow_0 (by omega), zrows_0 (fun a h1 h2 => by omega), zrows_0 (fun a h1 h2 => by omega), zrow_0 (by omega), zrow_0 (by omega)]
/-! rows that are filled behind -/
theorem t_X2 : p_X2_init (zrow (zrow (zrows (zrow zM0 10 (fun _ => 0)) 12 8) 20 (fun _ => 0)) 21 (fun _ => 0)) = some zM0 := by
  rw [zrow_0 (by omega), zrows_0 (fun a h1 h2 => by omega), p_X2_init]
  congr 1
  funext a b
  show zset _ 21 0 511 a b = _
  by_cases h1 : a = 21
  · subst h1
    by_cases h2 : b = 0
    · subst h2; rfl
    · rw [zs_nj h2]
      show zset _ 20 0 511 21 b = _
      rw [zs_ne (by omega), zrow, if_pos rfl, zM0, if_pos (by omega), if_neg h2]
  · rw [zs_ne h1]
    show zset _ 20 0 511 a b = _
    by_cases h3 : a = 20
    · subst h3
      by_cases h2 : b = 0
      · subst h2; rfl
      · rw [zs_nj h2, zrow, if_neg (by omega), zrow, if_pos rfl, zM0, if_pos (by omega), if_neg h2]
    · rw [zs_ne h3, zrow, if_neg h1, zrow, if_neg h3]
theorem t_X3 : p_X3_init (zrow (zrow (zrow (zrow zM0 70 (fun _ => 0)) 71 (fun _ => 0)) 72 (fun _ => 0)) 73 (fun _ => 0)) = some zM0 := by
  rw [zrow_0 (by omega), zrow_0 (by omega), zrow_cm (by omega), zrow_0 (i := 73) (by omega), p_X3_init, j_fillA (by omega), Option.bind_some]
  congr 1
  funext a b
  rw [zfil]
  by_cases h1 : a = 72
  · subst h1
    by_cases h2 : b < 6
    · rw [if_pos (by omega), zM0, if_neg (by omega), if_neg (by omega), if_neg (by omega), if_neg (by omega), if_neg (by omega), if_neg (by omega), if_neg (by omega), if_neg (by omega), if_neg (by omega), if_pos (by omega), if_pos h2]
    · rw [if_neg (by omega), zrow, if_pos rfl, zM0, if_neg (by omega), if_neg (by omega), if_neg (by omega), if_neg (by omega), if_neg (by omega), if_neg (by omega), if_neg (by omega), if_neg (by omega), if_neg (by omega), if_pos (by omega), if_neg h2]
  · rw [if_neg (by omega), zrow, if_neg h1]
theorem k_X4 : ∀ (k nn i : Nat) (N : zM), i + k = 5 → k < nn → p_X4_init_23 nn (nI i) N = some (fun a b => if a = 37 ∧ i ≤ b ∧ b < 5 then 1 else if 39 + i ≤ a ∧ a < 44 ∧ b = 0 then 9 else N a b) := by
  intro k
  induction k with
  | zero =>
    intro nn i N h1 h2
    obtain ⟨m, rfl⟩ := zfuel h2
    rw [p_X4_init_23, show (5 : Int32) = nI 5 from rfl, if_pos (by rw [zLe (by omega) (by omega)]; omega)]
    congr 1
    funext a b
    rw [if_neg (by omega), if_neg (by omega)]
  | succ k ih =>
    intro nn i N h1 h2
    obtain ⟨m, rfl⟩ := zfuel h2
    have q1 := zix (m := i) (n := 5) (by omega) (by omega)
    rw [p_X4_init_23, if_neg (by rw [show (5 : Int32) = nI 5 from rfl, zLe (by omega) (by omega)]; omega)]
    simp only [q1, if_false]
    rw [zcl' (by omega), nI_1, ih m (i + 1) _ (by omega) (by omega), show ((0 : Int32)).toNatClampNeg = 0 from rfl]
    congr 1
    funext a b
    simp only [zset]
    repeat' split
    all_goals first | rfl | omega
theorem t_X4 : p_X4_init (zrows (zrow zM0 37 (fun _ => 0)) 39 5) = some zM0 := by
  have h := k_X4 5 5000 0 (zrows (zrow zM0 37 (fun _ => 0)) 39 5) (by omega) (by omega)
  rw [show nI 0 = (0 : Int32) from rfl] at h
  rw [p_X4_init, h]
  congr 1
  funext a b
  by_cases h1 : a = 37
  · subst h1
    rw [zM0_37 b (Or.inl rfl)]
    by_cases h2 : b < 5
    · rw [if_pos (show 37 = 37 ∧ 0 ≤ b ∧ b < 5 from ⟨rfl, Nat.zero_le _, h2⟩), if_pos h2]
    · rw [if_neg (show ¬ (37 = 37 ∧ 0 ≤ b ∧ b < 5) from fun q => h2 q.2.2), if_neg (show ¬ (39 + 0 ≤ 37 ∧ 37 < 44 ∧ b = 0) by omega), if_neg h2, zrows, if_neg (show ¬ (39 ≤ 37 ∧ 37 < 39 + 5) by omega), zrow, if_pos rfl]
  · by_cases h3 : 39 ≤ a ∧ a < 44
    · rw [zM0_39 b h3, if_neg (show ¬ (a = 37 ∧ 0 ≤ b ∧ b < 5) by omega)]
      by_cases h2 : b = 0
      · rw [if_pos (show 39 + 0 ≤ a ∧ a < 44 ∧ b = 0 by omega), if_pos h2]
      · rw [if_neg (show ¬ (39 + 0 ≤ a ∧ a < 44 ∧ b = 0) by omega), if_neg h2, zrows, if_pos (show 39 ≤ a ∧ a < 39 + 5 by omega)]
    · rw [if_neg (show ¬ (a = 37 ∧ 0 ≤ b ∧ b < 5) by omega), if_neg (show ¬ (39 + 0 ≤ a ∧ a < 44 ∧ b = 0) by omega), zrows, if_neg (show ¬ (39 ≤ a ∧ a < 39 + 5) by omega), zrow, if_neg h1]
theorem k_X6a {k65 : Int32 → zM → Option zM} {r : Nat} (hr : r < 3) : ∀ (k nn i : Nat) (N : zM), i + k = 9 → k < nn → p_X6_init_95 k65 (nI r) nn (nI i) N = k65 (nI (r + 1)) (zfil N (30 + r) i 9 (fun b => nI (b / 3))) := by
  have q1 := zix (m := r) (n := 3) hr (by omega)
  intro k
  induction k with
  | zero =>
    intro nn i N h1 h2
    obtain ⟨m, rfl⟩ := zfuel h2
    rw [p_X6_init_95, show (9 : Int32) = nI 9 from rfl, if_pos (by rw [zLe (by omega) (by omega)]; omega), zfil_nil (by omega), nI_1]
  | succ k ih =>
    intro nn i N h1 h2
    obtain ⟨m, rfl⟩ := zfuel h2
    have q2 := zix (m := i) (n := 9) (by omega) (by omega)
    rw [p_X6_init_95, if_neg (by rw [show (9 : Int32) = nI 9 from rfl, zLe (by omega) (by omega)]; omega)]
    simp only [q1, q2, if_false]
    rw [zcl' (by omega), zcl' (by omega), nI_1, show (3 : Int32) = nI 3 from rfl, pk_div (by omega) (by omega) (by omega), ih m (i + 1) _ (by omega) (by omega), zfil_step (g := fun b => nI (b / 3)) (by omega)]
theorem k_X6b {k65 : Int32 → zM → Option zM} {r : Nat} (hr : r < 3) : ∀ (k nn i : Nat) (N : zM), i + k = 8 → k < nn → p_X6_init_72 k65 (nI r) nn (nI i) N = k65 (nI (r + 1)) (zfil (zfil N (26 + r) i 8 nI) (30 + r) 0 9 (fun b => nI (b / 3))) := by
  have q1 := zix (m := r) (n := 3) hr (by omega)
  intro k
  induction k with
  | zero =>
    intro nn i N h1 h2
    obtain ⟨m, rfl⟩ := zfuel h2
    have h := k_X6a (k65 := k65) hr 9 5000 0 N (by omega) (by omega)
    rw [show nI 0 = (0 : Int32) from rfl] at h
    rw [p_X6_init_72, show (8 : Int32) = nI 8 from rfl, if_pos (by rw [zLe (by omega) (by omega)]; omega), zfil_nil (row := 26 + r) (by omega), h]
  | succ k ih =>
    intro nn i N h1 h2
    obtain ⟨m, rfl⟩ := zfuel h2
    have q2 := zix (m := i) (n := 8) (by omega) (by omega)
    rw [p_X6_init_72, if_neg (by rw [show (8 : Int32) = nI 8 from rfl, zLe (by omega) (by omega)]; omega)]
    simp only [q1, q2, if_false]
    rw [zcl' (by omega), zcl' (by omega), nI_1, ih m (i + 1) _ (by omega) (by omega), zfil_step (g := nI) (by omega)]
theorem k_X6 : ∀ (k nn r : Nat) (N : zM), r + k = 3 → k < nn → p_X6_init_65 nn (nI r) N = some (fun a b => if 26 + r ≤ a ∧ a < 29 ∧ b < 8 then nI b else if 30 + r ≤ a ∧ a < 33 ∧ b < 9 then nI (b / 3) else N a b) := by
  intro k
  induction k with
  | zero =>
    intro nn r N h1 h2
    obtain ⟨m, rfl⟩ := zfuel h2
    rw [p_X6_init_65, show (3 : Int32) = nI 3 from rfl, if_pos (by rw [zLe (by omega) (by omega)]; omega)]
    congr 1
    funext a b
    rw [if_neg (by omega), if_neg (by omega)]
  | succ k ih =>
    intro nn r N h1 h2
    obtain ⟨m, rfl⟩ := zfuel h2
    have h := k_X6b (k65 := p_X6_init_65 m) (r := r) (by omega) 8 5000 0 N (by omega) (by omega)
    rw [show nI 0 = (0 : Int32) from rfl] at h
    rw [p_X6_init_65, if_neg (by rw [show (3 : Int32) = nI 3 from rfl, zLe (by omega) (by omega)]; omega), h, ih m (r + 1) _ (by omega) (by omega)]
    congr 1
    funext a b
    simp only [zfil]
    repeat' split
    all_goals first | rfl | omega
theorem t_X6 : p_X6_init (zrow (zrow (zrow (zrow (zrows (zrows zM0 26 3) 30 3) 33 (fun _ => 0)) 34 (fun _ => 0)) 35 (fun _ => 0)) 36 (fun _ => 0)) = some zM0 := by
  have e : zrow (zrow (zrow (zrow (zrows (zrows zM0 26 3) 30 3) 33 (fun _ => 0)) 34 (fun _ => 0)) 35 (fun _ => 0)) 36 (fun _ => 0) = zrows (zrows zM0 26 3) 30 3 := by
    have g : ∀ i, 33 ≤ i → i < 37 → zrows (zrows zM0 26 3) 30 3 i = fun _ => 0 := fun i h1 h2 => by rw [zrows, if_neg (by omega), zrows, if_neg (by omega), zM0_z (by omega)]
    rw [zrow_id (g 33 (by omega) (by omega)), zrow_id (g 34 (by omega) (by omega)), zrow_id (g 35 (by omega) (by omega)), zrow_id (g 36 (by omega) (by omega))]
  have h := k_X6 3 5000 0 (zrows (zrows zM0 26 3) 30 3) (by omega) (by omega)
  rw [show nI 0 = (0 : Int32) from rfl] at h
  rw [e, p_X6_init, h]
  refine congrArg some ?_
  funext a b
  by_cases h1 : 26 ≤ a ∧ a < 29
  · rw [zM0_26 b h1]
    by_cases h2 : b < 8
    · rw [if_pos (show 26 + 0 ≤ a ∧ a < 29 ∧ b < 8 by omega), if_pos h2]
    · rw [if_neg (show ¬ (26 + 0 ≤ a ∧ a < 29 ∧ b < 8) by omega), if_neg (show ¬ (30 + 0 ≤ a ∧ a < 33 ∧ b < 9) by omega), if_neg h2, zrows, if_neg (show ¬ (30 ≤ a ∧ a < 30 + 3) by omega), zrows, if_pos (show 26 ≤ a ∧ a < 26 + 3 by omega)]
  · by_cases h3 : 30 ≤ a ∧ a < 33
    · rw [zM0_30 b h3, if_neg (show ¬ (26 + 0 ≤ a ∧ a < 29 ∧ b < 8) by omega)]
      by_cases h2 : b < 9
      · rw [if_pos (show 30 + 0 ≤ a ∧ a < 33 ∧ b < 9 by omega), if_pos h2]
      · rw [if_neg (show ¬ (30 + 0 ≤ a ∧ a < 33 ∧ b < 9) by omega), if_neg h2, zrows, if_pos (show 30 ≤ a ∧ a < 30 + 3 by omega)]
    · rw [if_neg (show ¬ (26 + 0 ≤ a ∧ a < 29 ∧ b < 8) by omega), if_neg (show ¬ (30 + 0 ≤ a ∧ a < 33 ∧ b < 9) by omega), zrows, if_neg (show ¬ (30 ≤ a ∧ a < 30 + 3) by omega), zrows, if_neg (show ¬ (26 ≤ a ∧ a < 26 + 3) by omega)]
theorem k_X9d : ∀ (k nn i : Nat) (N : zM), i + k = 6 → k < nn → p_X9_init_326 nn (nI i) N = some (zfil N 96 i 6 (fun _ => 1)) := by
  intro k
  induction k with
  | zero =>
    intro nn i N h1 h2
    obtain ⟨m, rfl⟩ := zfuel h2
    rw [p_X9_init_326, show (6 : Int32) = nI 6 from rfl, if_pos (by rw [zLe (by omega) (by omega)]; omega), zfil_nil (by omega)]
  | succ k ih =>
    intro nn i N h1 h2
    obtain ⟨m, rfl⟩ := zfuel h2
    have q2 := zix (m := i) (n := 6) (by omega) (by omega)
    rw [p_X9_init_326, if_neg (by rw [show (6 : Int32) = nI 6 from rfl, zLe (by omega) (by omega)]; omega)]
    simp only [q2, if_false]
    rw [zcl' (by omega), nI_1, ih m (i + 1) _ (by omega) (by omega), zfil_step (g := fun _ => (1 : Int32)) (by omega)]
def zKf (i : Nat) (N : zM) : zM := fun a b => if a = 86 ∧ i ≤ b ∧ b < 5 then 1 else if a = 87 ∧ 4 * i ≤ b ∧ b < 20 ∧ b % 4 = 0 then 9 else N a b
theorem k_X9c : ∀ (k nn i : Nat) (N : zM), i + k = 5 → k < nn → p_X9_init_296 nn (nI i) N = some (zfil (zKf i N) 96 0 6 (fun _ => 1)) := by
  intro k
  induction k with
  | zero =>
    intro nn i N h1 h2
    obtain ⟨m, rfl⟩ := zfuel h2
    have h := k_X9d 6 5000 0 N (by omega) (by omega)
    rw [show nI 0 = (0 : Int32) from rfl] at h
    have e : zKf i N = N := by
      funext a b
      rw [zKf, if_neg (by omega), if_neg (by omega)]
    rw [p_X9_init_296, show (5 : Int32) = nI 5 from rfl, if_pos (by rw [zLe (by omega) (by omega)]; omega), h, e]
  | succ k ih =>
    intro nn i N h1 h2
    obtain ⟨m, rfl⟩ := zfuel h2
    have q1 := zix (m := i) (n := 5) (by omega) (by omega)
    have q2 := zix (m := 4 * i) (n := 20) (by omega) (by omega)
    rw [p_X9_init_296, if_neg (by rw [show (5 : Int32) = nI 5 from rfl, zLe (by omega) (by omega)]; omega), show (4 : Int32) * nI i = nI (4 * i) from by rw [show (4 : Int32) = nI 4 from rfl, pk_mul]]
    simp only [q1, q2, if_false]
    rw [zcl' (by omega), zcl' (by omega), nI_1, ih m (i + 1) _ (by omega) (by omega)]
    congr 2
    funext a b
    simp only [zKf, zset]
    repeat' split
    all_goals first | rfl | omega
def zFf (r x : Nat) (N : zM) : zM := fun a b => if a = 83 ∧ 9 * r + x ≤ b ∧ b < 9 * r + 9 then nI ((b - 9 * r) / 3) else if a = 82 ∧ (b = 8 * r ∨ (8 * r + x ≤ b ∧ b < 8 * r + 8)) then nI (b - 8 * r) else N a b
theorem k_X9b {k223 : Int32 → zM → Option zM} {r : Nat} (hr : r < 3) : ∀ (k nn x : Nat) (N : zM), x + k = 8 → k + 1 < nn → p_X9_init_230 k223 (nI r) nn (nI x) N = k223 (nI (r + 1)) (zFf r x N) := by
  have g8 : (8 : Int32) * nI r = nI (8 * r) := by rw [show (8 : Int32) = nI 8 from rfl, pk_mul]
  intro k
  induction k with
  | zero =>
    intro nn x N h1 h2
    obtain ⟨m, rfl⟩ : ∃ m, nn = m + 1 + 1 := ⟨nn - 2, by omega⟩
    have hx : x = 8 := by omega
    subst hx
    have q1 := zix (m := 8 * r + 0) (n := 24) (by omega) (by omega)
    have q2 := zix (m := 9 * r + 8) (n := 27) (by omega) (by omega)
    rw [p_X9_init_230, if_neg (by decide), if_pos (by decide), p_X9_init_255, if_pos (by decide), p_X9_init_267, g8, show nI (8 * r) + (0 : Int32) = nI (8 * r + 0) from nI_add (8 * r) 0, z9]
    simp only [q1, q2, if_false]
    rw [zcl' (by omega), zcl' (by omega), nI_1, p_X9_init_230, if_pos (by decide), nI_1, show (3 : Int32) = nI 3 from rfl, pk_div (by omega) (by omega) (by omega)]
    congr 1
    funext a b
    simp only [zFf, zset]
    repeat' split
    all_goals first | rfl | omega | (rw [show b - 8 * r = 0 by omega]; rfl) | (congr 1; omega)
  | succ k ih =>
    intro nn x N h1 h2
    obtain ⟨m, rfl⟩ := zfuel (show k < nn by omega)
    have q1 := zix (m := 8 * r + x) (n := 24) (by omega) (by omega)
    have q2 := zix (m := 9 * r + x) (n := 27) (by omega) (by omega)
    have n9 : ¬ ((9 : Int32) ≤ nI x) := by rw [show (9 : Int32) = nI 9 from rfl, zLe (by omega) (by omega)]; omega
    have n8 : ¬ ((8 : Int32) ≤ nI x) := by rw [show (8 : Int32) = nI 8 from rfl, zLe (by omega) (by omega)]; omega
    rw [p_X9_init_230, if_neg n9, if_neg n8, p_X9_init_255, if_neg n8, p_X9_init_267, g8, nI_add, z9]
    simp only [q1, q2, if_false]
    rw [zcl' (by omega), zcl' (by omega), nI_1, show (3 : Int32) = nI 3 from rfl, pk_div (by omega) (by omega) (by omega), ih m (x + 1) _ (by omega) (by omega)]
    congr 1
    funext a b
    simp only [zFf, zset]
    repeat' split
    all_goals first | rfl | omega | (congr 1; omega)
def zGf (r : Nat) (N : zM) : zM := fun a b => if a = 83 ∧ 9 * r ≤ b ∧ b < 27 then nI (b % 9 / 3) else if a = 82 ∧ 8 * r ≤ b ∧ b < 24 then nI (b % 8) else N a b
theorem k_X9a : ∀ (k nn r : Nat) (N : zM), r + k = 3 → k < nn → p_X9_init_223 nn (nI r) N = some (zfil (zKf 0 (zGf r N)) 96 0 6 (fun _ => 1)) := by
  intro k
  induction k with
  | zero =>
    intro nn r N h1 h2
    obtain ⟨m, rfl⟩ := zfuel h2
    have h := k_X9c 5 5000 0 N (by omega) (by omega)
    rw [show nI 0 = (0 : Int32) from rfl] at h
    have e : zGf r N = N := by
      funext a b
      rw [zGf, if_neg (by omega), if_neg (by omega)]
    rw [p_X9_init_223, show (3 : Int32) = nI 3 from rfl, if_pos (by rw [zLe (by omega) (by omega)]; omega), h, e]
  | succ k ih =>
    intro nn r N h1 h2
    obtain ⟨m, rfl⟩ := zfuel h2
    have h := k_X9b (k223 := p_X9_init_223 m) (r := r) (by omega) 8 5000 0 N (by omega) (by omega)
    rw [show nI 0 = (0 : Int32) from rfl] at h
    rw [p_X9_init_223, if_neg (by rw [show (3 : Int32) = nI 3 from rfl, zLe (by omega) (by omega)]; omega), h, ih m (r + 1) _ (by omega) (by omega)]
    congr 3
    funext a b
    simp only [zGf, zFf]
    repeat' split
    all_goals first | rfl | omega | (congr 1; omega)
theorem t_X9 : p_X9_init (zrow (zrow (zrow (zrow (zrow (zrow (zrow (zrow (zrow (zrow (zrow (zrow (zrow (zrow (zrow (zrow (zrow (zrow (zrow (zrow (zrow (zrow (zrow (zrow zM0 75 (fun _ => 0)) 76 (fun _ => 0)) 77 (fun _ => 0)) 78 (fun _ => 0)) 79 (fun _ => 0)) 80 (fun _ => 0)) 81 (fun _ => 0)) 82 (fun _ => 0)) 83 (fun _ => 0)) 84 (fun _ => 0)) 85 (fun _ => 0)) 86 (fun _ => 0)) 87 (fun _ => 0)) 88 (fun _ => 0)) 89 (fun _ => 0)) 90 (fun _ => 0)) 91 (fun _ => 0)) 92 (fun _ => 0)) 93 (fun _ => 0)) 94 (fun _ => 0)) 95 (fun _ => 0)) 96 (fun _ => 0)) 97 (fun _ => 0)) 98 (fun _ => 0)) = some zM0 := by
  generalize hN : zrow (zrow (zrow (zrow (zrow (zrow (zrow (zrow (zrow (zrow (zrow (zrow (zrow (zrow (zrow (zrow (zrow (zrow (zrow (zrow (zrow (zrow (zrow (zrow zM0 75 (fun _ => 0)) 76 (fun _ => 0)) 77 (fun _ => 0)) 78 (fun _ => 0)) 79 (fun _ => 0)) 80 (fun _ => 0)) 81 (fun _ => 0)) 82 (fun _ => 0)) 83 (fun _ => 0)) 84 (fun _ => 0)) 85 (fun _ => 0)) 86 (fun _ => 0)) 87 (fun _ => 0)) 88 (fun _ => 0)) 89 (fun _ => 0)) 90 (fun _ => 0)) 91 (fun _ => 0)) 92 (fun _ => 0)) 93 (fun _ => 0)) 94 (fun _ => 0)) 95 (fun _ => 0)) 96 (fun _ => 0)) 97 (fun _ => 0)) 98 (fun _ => 0) = N
  have hz : ∀ a, 75 ≤ a → a < 99 → N a = fun _ => 0 := by
    intro a h1 h2
    rw [← hN]
    rcases (show a = 75 ∨ a = 76 ∨ a = 77 ∨ a = 78 ∨ a = 79 ∨ a = 80 ∨ a = 81 ∨ a = 82 ∨ a = 83 ∨ a = 84 ∨ a = 85 ∨ a = 86 ∨ a = 87 ∨ a = 88 ∨ a = 89 ∨ a = 90 ∨ a = 91 ∨ a = 92 ∨ a = 93 ∨ a = 94 ∨ a = 95 ∨ a = 96 ∨ a = 97 ∨ a = 98 by omega) with rfl | rfl | rfl | rfl | rfl | rfl | rfl | rfl | rfl | rfl | rfl | rfl | rfl | rfl | rfl | rfl | rfl | rfl | rfl | rfl | rfl | rfl | rfl | rfl <;> rfl
  have ho : ∀ a, ¬ (75 ≤ a ∧ a < 99) → N a = zM0 a := by
    intro a h
    have g : ∀ (M : zM) (i : Nat), 75 ≤ i → i < 99 → zrow M i (fun _ => 0) a = M a := fun M i h1 h2 => by rw [zrow, if_neg (by omega)]
    rw [← hN]
    iterate 24 rw [g _ _ (by omega) (by omega)]
  clear hN
  have h := k_X9a 3 5000 0 (zset (zset N 77 ((0 : Int32).toNatClampNeg) (511 : Int32)) 78 ((0 : Int32).toNatClampNeg) (511 : Int32)) (by omega) (by omega)
  rw [show nI 0 = (0 : Int32) from rfl] at h
  rw [p_X9_init, h]
  refine congrArg some ?_
  rw [show ((0 : Int32)).toNatClampNeg = 0 from rfl]
  funext a b
  by_cases hr : 75 ≤ a ∧ a < 99
  · have hzb := congrFun (hz a hr.1 hr.2) b
    by_cases h96 : a = 96
    · subst h96
      rw [zM0_72 b (Or.inr rfl)]
      by_cases h2 : b < 6
      · rw [zfil_in (by omega), if_pos h2]
      · rw [zfil_out (by omega), if_neg h2, zKf, if_neg (show ¬ (96 = 86 ∧ 0 ≤ b ∧ b < 5) by omega), if_neg (show ¬ (96 = 87 ∧ 4 * 0 ≤ b ∧ b < 20 ∧ b % 4 = 0) by omega), zGf, if_neg (show ¬ (96 = 83 ∧ 9 * 0 ≤ b ∧ b < 27) by omega), if_neg (show ¬ (96 = 82 ∧ 8 * 0 ≤ b ∧ b < 24) by omega), zs_ne (by omega), zs_ne (by omega), hzb]
    · rw [zfil_ne h96, zKf]
      by_cases h86 : a = 86
      · subst h86
        rw [zM0_37 b (Or.inr rfl)]
        by_cases h2 : b < 5
        · rw [if_pos (show 86 = 86 ∧ 0 ≤ b ∧ b < 5 from ⟨rfl, Nat.zero_le _, h2⟩), if_pos h2]
        · rw [if_neg (show ¬ (86 = 86 ∧ 0 ≤ b ∧ b < 5) from fun q => h2 q.2.2), if_neg (show ¬ (86 = 87 ∧ 4 * 0 ≤ b ∧ b < 20 ∧ b % 4 = 0) by omega), if_neg h2, zGf, if_neg (show ¬ (86 = 83 ∧ 9 * 0 ≤ b ∧ b < 27) by omega), if_neg (show ¬ (86 = 82 ∧ 8 * 0 ≤ b ∧ b < 24) by omega), zs_ne (by omega), zs_ne (by omega), hzb]
      · rw [if_neg (show ¬ (a = 86 ∧ 0 ≤ b ∧ b < 5) by omega)]
        by_cases h87 : a = 87
        · subst h87
          rw [zM0_87]
          by_cases h2 : b < 20 ∧ b % 4 = 0
          · rw [if_pos (show 87 = 87 ∧ 4 * 0 ≤ b ∧ b < 20 ∧ b % 4 = 0 by omega), if_pos h2]
          · rw [if_neg (show ¬ (87 = 87 ∧ 4 * 0 ≤ b ∧ b < 20 ∧ b % 4 = 0) by omega), if_neg h2, zGf, if_neg (show ¬ (87 = 83 ∧ 9 * 0 ≤ b ∧ b < 27) by omega), if_neg (show ¬ (87 = 82 ∧ 8 * 0 ≤ b ∧ b < 24) by omega), zs_ne (by omega), zs_ne (by omega), hzb]
        · rw [if_neg (show ¬ (a = 87 ∧ 4 * 0 ≤ b ∧ b < 20 ∧ b % 4 = 0) by omega), zGf]
          by_cases h83 : a = 83
          · subst h83
            rw [zM0_83]
            by_cases h2 : b < 27
            · rw [if_pos (show 83 = 83 ∧ 9 * 0 ≤ b ∧ b < 27 by omega), if_pos h2]
            · rw [if_neg (show ¬ (83 = 83 ∧ 9 * 0 ≤ b ∧ b < 27) by omega), if_neg h2, if_neg (show ¬ (83 = 82 ∧ 8 * 0 ≤ b ∧ b < 24) by omega), zs_ne (by omega), zs_ne (by omega), hzb]
          · rw [if_neg (show ¬ (a = 83 ∧ 9 * 0 ≤ b ∧ b < 27) by omega)]
            by_cases h82 : a = 82
            · subst h82
              rw [zM0_82]
              by_cases h2 : b < 24
              · rw [if_pos (show 82 = 82 ∧ 8 * 0 ≤ b ∧ b < 24 by omega), if_pos h2]
              · rw [if_neg (show ¬ (82 = 82 ∧ 8 * 0 ≤ b ∧ b < 24) by omega), if_neg h2, zs_ne (by omega), zs_ne (by omega), hzb]
            · rw [if_neg (show ¬ (a = 82 ∧ 8 * 0 ≤ b ∧ b < 24) by omega)]
              by_cases h78 : a = 78
              · subst h78
                rw [zM0_20 b (by omega), zs_eq, zs_ne (by omega), hzb]
              · rw [zs_ne h78]
                by_cases h77 : a = 77
                · subst h77
                  rw [zM0_20 b (by omega), zs_eq, hzb]
                · rw [zs_ne h77, hzb, congrFun (zM0_z (a := a) (by omega)) b]
  · have hob := congrFun (ho a hr) b
    rw [zfil_ne (by omega), zKf, if_neg (show ¬ (a = 86 ∧ 0 ≤ b ∧ b < 5) by omega), if_neg (show ¬ (a = 87 ∧ 4 * 0 ≤ b ∧ b < 20 ∧ b % 4 = 0) by omega), zGf, if_neg (show ¬ (a = 83 ∧ 9 * 0 ≤ b ∧ b < 27) by omega), if_neg (show ¬ (a = 82 ∧ 8 * 0 ≤ b ∧ b < 24) by omega), zs_ne (by omega), zs_ne (by omega), hob]
/-! ===== the contract of a making ===== -/
theorem zAO_al {s U : State} (hal : s.vm.Alike U.vm) (h : va_AOA .int s) : va_AOA .int U := by
  have h1 : (Cond.arrayOver (.array .int)).before #[] (s.setVm U.vm) = true := by rw [Cond.arrayOver_setVmC hal]; exact h
  show (Cond.arrayOver (.array .int)).before #[] U = true
  simp only [Cond.before, Cond.holds, Cond.value, State.vm_setVm] at h1 ⊢
  exact h1
def zCPre (D : va_G) (cI cG : ClassId) (ws : va_W) (sz : Nat) (U : State) : Prop := U.heap.size = sz ∧ va_P D vwCl ws U.heap ∧ va_K D vwCl [(cI, .int), (cG, .array .int)] U ∧ va_D (fun _ => True) ws ∧ (∀ w ∈ zNW, va_Nw w U) ∧ va_AOA .int U
def zcroom (lv mc ms : Nat) : Room := { frames := lv, cells := mc, slots := ms, locals := 33 * lv }
def zInit (Y : zY) (o : Nat) (e0 : va_E) (f : List Nat → List Nat) (nw ex : List Nat) (lv mc ms : Nat) : Prop :=
  ∀ (l : Launch) (D : va_G) (cI cG : ClassId) (ad : Nat → Nat) (ids : List Nat) (sz h0 : Nat), zcl ids → o ∉ ids → (∀ i ∈ nw, i ∉ ids) → (∀ j ∈ ex, j ∈ ids) →
    Met l Y.1 (zws Y) (zcroom lv mc ms) (va_Pc (.ref h0 :: ex.map (fun j => .ref (ad j))) (zCPre D cI cG ((h0, e0) :: zW cI cG ad ids zM0) sz))
      (va_Qv (fun ad' : Nat → Nat => (∀ i ∈ ids, ad' i = ad i) ∧ ad' o = h0 ∧ zcl (f ids)) (fun ad' t => va_P D vwCl (zW cI cG ad' (f ids) zM0) t.heap ∧ va_D (va_A ((h0, e0) :: zW cI cG ad ids zM0) sz) (zW cI cG ad' (f ids) zM0)) (va_A ((h0, e0) :: zW cI cG ad ids zM0) sz)) mc ms (va_A ((h0, e0) :: zW cI cG ad ids zM0) sz)
