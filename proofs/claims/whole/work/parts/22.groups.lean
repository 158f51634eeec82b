theorem zs_ne {M : zM} {i j a b : Nat} {x : Int32} (h : a ≠ i) : zset M i j x a b = M a b := by simp [zset, h]
theorem zs_nj {M : zM} {i j a b : Nat} {x : Int32} (h : b ≠ j) : zset M i j x a b = M a b := by simp [zset, h]
theorem zs_eq {M : zM} {i j b : Nat} {x : Int32} : zset M i j x i b = if b = j then x else M i b := by simp [zset]
theorem zs_self {M : zM} {i j : Nat} {x : Int32} : zset M i j x i j = x := by simp [zset]
def zAlike (a b : zM → Option (Int32 × zM)) (M : zM) : Prop := ∃ r M1 M2, a M = some (r, M1) ∧ b M1 = some (r, M2) ∧ zInv M2
def zdMov (a b : Nat) : Bool := a == 10 || a == 20 || a == 21 || a == 75 || a == 76 || a == 77 || a == 78 || (decide (12 ≤ a) && decide (a < 20)) || (a == 1 && b == 4) || (a == 9 && b == 4)
theorem zvMov_c {M M1 : zM} (h : ∀ a b, zdMov a b = true → M1 a b = M a b) (v : zvMov M) : zvMov M1 := by
  have e10 : M1 10 = M 10 := funext fun b => h 10 b (by simp [zdMov])
  have e20 : M1 20 = M 20 := funext fun b => h 20 b (by simp [zdMov])
  have e21 : M1 21 = M 21 := funext fun b => h 21 b (by simp [zdMov])
  have e75 : M1 75 = M 75 := funext fun b => h 75 b (by simp [zdMov])
  have e76 : M1 76 = M 76 := funext fun b => h 76 b (by simp [zdMov])
  have e77 : M1 77 = M 77 := funext fun b => h 77 b (by simp [zdMov])
  have e78 : M1 78 = M 78 := funext fun b => h 78 b (by simp [zdMov])
  have r12 : ∀ m, m < 8 → M1 (12 + m) = M (12 + m) := fun m hm => funext fun b => h (12 + m) b (by simp [zdMov]; omega)
  have s1_4 := h 1 4 rfl
  have s9_4 := h 9 4 rfl
  unfold zvMov at v ⊢
  rw [e10, e20, e21, e75, e76, e77, e78, s1_4, s9_4]
  exact ⟨v.1, fun m i hm hi => by rw [r12 m hm]; exact v.2.1 m i hm hi, v.2.2⟩
theorem zvMov_s {M : zM} {i j : Nat} {x : Int32} (hs : zdMov i j = false) (v : zvMov M) : zvMov (zset M i j x) := by
  refine zvMov_c (fun a b e => ?_) v
  have : ¬ (a = i ∧ b = j) := by
    rintro ⟨rfl, rfl⟩
    rw [hs] at e
    cases e
  rw [zset, if_neg this]
def zdTune (a b : Nat) : Bool := a == 22 || a == 23 || a == 24 || a == 79 || a == 80 || a == 81 || (a == 2 && b == 4) || (a == 9 && b == 5)
theorem zvTune_c {M M1 : zM} (h : ∀ a b, zdTune a b = true → M1 a b = M a b) (v : zvTune M) : zvTune M1 := by
  have e22 : M1 22 = M 22 := funext fun b => h 22 b (by simp [zdTune])
  have e23 : M1 23 = M 23 := funext fun b => h 23 b (by simp [zdTune])
  have e24 : M1 24 = M 24 := funext fun b => h 24 b (by simp [zdTune])
  have e79 : M1 79 = M 79 := funext fun b => h 79 b (by simp [zdTune])
  have e80 : M1 80 = M 80 := funext fun b => h 80 b (by simp [zdTune])
  have e81 : M1 81 = M 81 := funext fun b => h 81 b (by simp [zdTune])
  have s2_4 := h 2 4 rfl
  have s9_5 := h 9 5 rfl
  unfold zvTune at v ⊢
  rw [e22, e23, e24, e79, e80, e81, s2_4, s9_5]
  exact v
theorem zvTune_s {M : zM} {i j : Nat} {x : Int32} (hs : zdTune i j = false) (v : zvTune M) : zvTune (zset M i j x) := by
  refine zvTune_c (fun a b e => ?_) v
  have : ¬ (a = i ∧ b = j) := by
    rintro ⟨rfl, rfl⟩
    rw [hs] at e
    cases e
  rw [zset, if_neg this]
def zdSong (a b : Nat) : Bool := a == 33 || a == 82 || a == 83 || a == 84 || (decide (26 ≤ a) && decide (a < 29)) || (decide (30 ≤ a) && decide (a < 33)) || (a == 3 && b == 4) || (a == 9 && b == 11)
theorem zvSong_c {M M1 : zM} (h : ∀ a b, zdSong a b = true → M1 a b = M a b) (v : zvSong M) : zvSong M1 := by
  have e33 : M1 33 = M 33 := funext fun b => h 33 b (by simp [zdSong])
  have e82 : M1 82 = M 82 := funext fun b => h 82 b (by simp [zdSong])
  have e83 : M1 83 = M 83 := funext fun b => h 83 b (by simp [zdSong])
  have e84 : M1 84 = M 84 := funext fun b => h 84 b (by simp [zdSong])
  have r26 : ∀ m, m < 3 → M1 (26 + m) = M (26 + m) := fun m hm => funext fun b => h (26 + m) b (by simp [zdSong]; omega)
  have r30 : ∀ m, m < 3 → M1 (30 + m) = M (30 + m) := fun m hm => funext fun b => h (30 + m) b (by simp [zdSong]; omega)
  have s3_4 := h 3 4 rfl
  have s9_11 := h 9 11 rfl
  unfold zvSong at v ⊢
  rw [e33, e82, e83, e84, s3_4, s9_11]
  exact ⟨fun r m hr hm => by rw [r26 r hr]; exact v.1 r m hr hm, fun r m hr hm => by rw [r30 r hr]; exact v.2.1 r m hr hm, v.2.2⟩
theorem zvSong_s {M : zM} {i j : Nat} {x : Int32} (hs : zdSong i j = false) (v : zvSong M) : zvSong (zset M i j x) := by
  refine zvSong_c (fun a b e => ?_) v
  have : ¬ (a = i ∧ b = j) := by
    rintro ⟨rfl, rfl⟩
    rw [hs] at e
    cases e
  rw [zset, if_neg this]
def zdRules (a b : Nat) : Bool := a == 37 || a == 86 || a == 87 || (decide (39 ≤ a) && decide (a < 44))
theorem zvRules_c {M M1 : zM} (h : ∀ a b, zdRules a b = true → M1 a b = M a b) (v : zvRules M) : zvRules M1 := by
  have e37 : M1 37 = M 37 := funext fun b => h 37 b (by simp [zdRules])
  have e86 : M1 86 = M 86 := funext fun b => h 86 b (by simp [zdRules])
  have e87 : M1 87 = M 87 := funext fun b => h 87 b (by simp [zdRules])
  have r39 : ∀ m, m < 5 → M1 (39 + m) = M (39 + m) := fun m hm => funext fun b => h (39 + m) b (by simp [zdRules]; omega)
  unfold zvRules at v ⊢
  rw [e37, e86, e87]
  exact ⟨v.1, fun r m hr hm => by rw [r39 r hr]; exact v.2 r m hr hm⟩
theorem zvRules_s {M : zM} {i j : Nat} {x : Int32} (hs : zdRules i j = false) (v : zvRules M) : zvRules (zset M i j x) := by
  refine zvRules_c (fun a b e => ?_) v
  have : ¬ (a = i ∧ b = j) := by
    rintro ⟨rfl, rfl⟩
    rw [hs] at e
    cases e
  rw [zset, if_neg this]
def zdGround (a b : Nat) : Bool := a == 44 || a == 88 || (a == 5 && b == 2) || (a == 9 && b == 16)
theorem zvGround_c {M M1 : zM} (h : ∀ a b, zdGround a b = true → M1 a b = M a b) (v : zvGround M) : zvGround M1 := by
  have e44 : M1 44 = M 44 := funext fun b => h 44 b (by simp [zdGround])
  have e88 : M1 88 = M 88 := funext fun b => h 88 b (by simp [zdGround])
  have s5_2 := h 5 2 rfl
  have s9_16 := h 9 16 rfl
  unfold zvGround at v ⊢
  rw [e44, e88, s5_2, s9_16]
  exact v
theorem zvGround_s {M : zM} {i j : Nat} {x : Int32} (hs : zdGround i j = false) (v : zvGround M) : zvGround (zset M i j x) := by
  refine zvGround_c (fun a b e => ?_) v
  have : ¬ (a = i ∧ b = j) := by
    rintro ⟨rfl, rfl⟩
    rw [hs] at e
    cases e
  rw [zset, if_neg this]
def zdSheets (a b : Nat) : Bool := a == 45 || a == 46 || a == 86 || a == 89 || a == 90 || (decide (48 ≤ a) && decide (a < 51)) || (a == 6 && b == 4) || (a == 6 && b == 5) || (a == 6 && b == 6) || (a == 9 && b == 18) || (a == 9 && b == 19) || (a == 9 && b == 20)
theorem zvSheets_c {M M1 : zM} (h : ∀ a b, zdSheets a b = true → M1 a b = M a b) (v : zvSheets M) : zvSheets M1 := by
  have e45 : M1 45 = M 45 := funext fun b => h 45 b (by simp [zdSheets])
  have e46 : M1 46 = M 46 := funext fun b => h 46 b (by simp [zdSheets])
  have e86 : M1 86 = M 86 := funext fun b => h 86 b (by simp [zdSheets])
  have e89 : M1 89 = M 89 := funext fun b => h 89 b (by simp [zdSheets])
  have e90 : M1 90 = M 90 := funext fun b => h 90 b (by simp [zdSheets])
  have r48 : ∀ m, m < 3 → M1 (48 + m) = M (48 + m) := fun m hm => funext fun b => h (48 + m) b (by simp [zdSheets]; omega)
  have s6_4 := h 6 4 rfl
  have s6_5 := h 6 5 rfl
  have s6_6 := h 6 6 rfl
  have s9_18 := h 9 18 rfl
  have s9_19 := h 9 19 rfl
  have s9_20 := h 9 20 rfl
  unfold zvSheets at v ⊢
  rw [e45, e46, e86, e89, e90, s6_4, s6_5, s6_6, s9_18, s9_19, s9_20]
  exact ⟨v.1, v.2.1, v.2.2.1, v.2.2.2.1, v.2.2.2.2.1, fun r m hr hm => by rw [r48 r hr]; exact v.2.2.2.2.2.1 r m hr hm, v.2.2.2.2.2.2⟩
theorem zvSheets_s {M : zM} {i j : Nat} {x : Int32} (hs : zdSheets i j = false) (v : zvSheets M) : zvSheets (zset M i j x) := by
  refine zvSheets_c (fun a b e => ?_) v
  have : ¬ (a = i ∧ b = j) := by
    rintro ⟨rfl, rfl⟩
    rw [hs] at e
    cases e
  rw [zset, if_neg this]
def zdPipes (a b : Nat) : Bool := a == 70 || a == 71 || a == 72 || a == 73 || a == 74 || a == 94 || a == 95 || a == 96 || a == 97 || a == 98 || (a == 7 && b == 4) || (a == 9 && b == 30)
theorem zvPipes_c {M M1 : zM} (h : ∀ a b, zdPipes a b = true → M1 a b = M a b) (v : zvPipes M) : zvPipes M1 := by
  have e70 : M1 70 = M 70 := funext fun b => h 70 b (by simp [zdPipes])
  have e71 : M1 71 = M 71 := funext fun b => h 71 b (by simp [zdPipes])
  have e72 : M1 72 = M 72 := funext fun b => h 72 b (by simp [zdPipes])
  have e73 : M1 73 = M 73 := funext fun b => h 73 b (by simp [zdPipes])
  have e74 : M1 74 = M 74 := funext fun b => h 74 b (by simp [zdPipes])
  have e94 : M1 94 = M 94 := funext fun b => h 94 b (by simp [zdPipes])
  have e95 : M1 95 = M 95 := funext fun b => h 95 b (by simp [zdPipes])
  have e96 : M1 96 = M 96 := funext fun b => h 96 b (by simp [zdPipes])
  have e97 : M1 97 = M 97 := funext fun b => h 97 b (by simp [zdPipes])
  have e98 : M1 98 = M 98 := funext fun b => h 98 b (by simp [zdPipes])
  have s7_4 := h 7 4 rfl
  have s9_30 := h 9 30 rfl
  unfold zvPipes at v ⊢
  rw [e70, e71, e72, e73, e74, e94, e95, e96, e97, e98, s7_4, s9_30]
  exact v
theorem zvPipes_s {M : zM} {i j : Nat} {x : Int32} (hs : zdPipes i j = false) (v : zvPipes M) : zvPipes (zset M i j x) := by
  refine zvPipes_c (fun a b e => ?_) v
  have : ¬ (a = i ∧ b = j) := by
    rintro ⟨rfl, rfl⟩
    rw [hs] at e
    cases e
  rw [zset, if_neg this]
