def p_X8_within (x0 : Int32) (x1 : Int32) (x2 : Int32) : Option (Int32) :=
  if x0 < x1 then
    some (0 : Int32)
  else
    if x2 < x0 then
      some (0 : Int32)
    else
      some (1 : Int32)
set_option maxRecDepth 20000 in
set_option maxHeartbeats 4000000 in
theorem zc_X8_within (x0 : Int32) (x1 : Int32) (x2 : Int32) (M : zM) {r : Int32} (h : p_X8_within x0 x1 x2 = some r) : zS Y_X8_within 0 [some (zI x0), some (zI x1), some (zI x2)] [] M (some r, M) := by
  rw [p_X8_within] at h
  refine zS_iload_n dX8_within_0 rfl rfl ?_
  refine zS_iload_n dX8_within_1 rfl rfl ?_
  refine zS_icmp_lt (tgt := 14) dX8_within_2 (by decide) (fun c2 => ?_) (fun c2 => ?_)
  · rw [if_pos c2] at h
    refine zS_iconst (v := (0 : Int32)) dX8_within_14 (by decide) ?_
    cases h
    exact zS_ireturn dX8_within_15 rfl rfl
  · rw [if_neg c2] at h
    refine zS_iload_n dX8_within_5 rfl rfl ?_
    refine zS_iload_n dX8_within_6 rfl rfl ?_
    refine zS_icmp_gt (tgt := 14) dX8_within_7 (by decide) (fun c7 => ?_) (fun c7 => ?_)
    · rw [if_pos c7] at h
      refine zS_iconst (v := (0 : Int32)) dX8_within_14 (by decide) ?_
      cases h
      exact zS_ireturn dX8_within_15 rfl rfl
    · rw [if_neg c7] at h
      refine zS_iconst (v := (1 : Int32)) dX8_within_10 (by decide) ?_
      refine zS_goto (tgt := 15) dX8_within_11 (by decide) ?_
      cases h
      exact zS_ireturn dX8_within_15 rfl rfl
def p_X8_isMovement (x0 : Int32) : Option (Int32) :=
  (p_X8_within x0 (0 : Int32) (7 : Int32)).bind fun r4 =>
  if r4 = 0 ∨ r4 = 1 then
  some r4
  else none
set_option maxRecDepth 20000 in
set_option maxHeartbeats 4000000 in
theorem zc_X8_isMovement (x0 : Int32) (M : zM) {r : Int32} (h : p_X8_isMovement x0 = some r) : zS Y_X8_isMovement 0 [some (zI x0)] [] M (some r, M) := by
  rw [p_X8_isMovement] at h
  refine zS_iload_n dX8_isMovement_0 rfl rfl ?_
  refine zS_iconst (v := (0 : Int32)) dX8_isMovement_1 (by decide) ?_
  refine zS_bipush (v := (7 : Int32)) dX8_isMovement_2 (by decide) ?_
  obtain ⟨r4, h4, h⟩ := zbind h
  refine zS_callS (as := [zI x0, zI (0 : Int32), zI (7 : Int32)]) (st := []) (ls0 := [some (zI x0), some (zI (0 : Int32)), some (zI (7 : Int32))]) dX8_isMovement_4 okY_X8_within rfl rfl zw_0 zw_1 np_X8_within (by decide) (Nat.le_of_ble_eq_true rfl) rfl (Nat.le_of_ble_eq_true rfl) (And.intro rfl (And.intro rfl (And.intro rfl trivial))) (zc_X8_within x0 (0 : Int32) (7 : Int32) M h4) ?_
  by_cases z7 : r4 = 0 ∨ r4 = 1
  rotate_left
  · rw [if_neg z7] at h; cases h
  rw [if_pos z7] at h
  cases h
  exact zS_ireturn dX8_isMovement_7 rfl (zbool z7)
def p_X8_nibble (x0 : Int32) (x1 : Int32) : Option (Int32) :=
  some ((x0 >>> (((4 : Int32) * x1) &&& 31)) &&& (15 : Int32))
set_option maxRecDepth 20000 in
set_option maxHeartbeats 4000000 in
theorem zc_X8_nibble (x0 : Int32) (x1 : Int32) (M : zM) {r : Int32} (h : p_X8_nibble x0 x1 = some r) : zS Y_X8_nibble 0 [some (zI x0), some (zI x1)] [] M (some r, M) := by
  rw [p_X8_nibble] at h
  refine zS_iload_n dX8_nibble_0 rfl rfl ?_
  refine zS_iconst (v := (4 : Int32)) dX8_nibble_1 (by decide) ?_
  refine zS_iload_n dX8_nibble_2 rfl rfl ?_
  refine zS_imul dX8_nibble_3 ?_
  refine zS_ishr dX8_nibble_4 ?_
  refine zS_bipush (v := (15 : Int32)) dX8_nibble_5 (by decide) ?_
  refine zS_iand dX8_nibble_7 ?_
  cases h
  exact zS_ireturn dX8_nibble_8 rfl rfl
def p_X8_nibblesWithin_2 (x0 : Int32) (x1 : Int32) (x2 : Int32) : Nat → Int32 → Option (Int32)
  | 0, _ => none
  | nn + 1, x3 =>
  if x1 ≤ x3 then
    some (1 : Int32)
  else
    (p_X8_nibble x0 x3).bind fun r9 =>
    if r9 ≤ x2 then
      p_X8_nibblesWithin_2 x0 x1 x2 nn (x3 + (1 : Int32))
    else
      some (0 : Int32)
set_option maxRecDepth 20000 in
set_option maxHeartbeats 4000000 in
theorem zc_X8_nibblesWithin_2 (x0 : Int32) (x1 : Int32) (x2 : Int32) (M : zM) : ∀ (nn : Nat) (x3 : Int32) (r : Int32), p_X8_nibblesWithin_2 x0 x1 x2 nn x3 = some r → zS Y_X8_nibblesWithin 2 [some (zI x0), some (zI x1), some (zI x2), some (zI x3)] [] M (some r, M) := by
  intro nn
  induction nn with
  | zero => intro x3 r h; cases h
  | succ nn ih =>
  intro x3 r h
  rw [p_X8_nibblesWithin_2] at h
  refine zS_iload_n dX8_nibblesWithin_2 rfl rfl ?_
  refine zS_iload_n dX8_nibblesWithin_3 rfl rfl ?_
  refine zS_icmp_ge (tgt := 24) dX8_nibblesWithin_4 (by decide) (fun c4 => ?_) (fun c4 => ?_)
  · rw [if_pos c4] at h
    refine zS_iconst (v := (1 : Int32)) dX8_nibblesWithin_24 (by decide) ?_
    cases h
    exact zS_ireturn dX8_nibblesWithin_25 rfl rfl
  · rw [if_neg c4] at h
    refine zS_iload_n dX8_nibblesWithin_7 rfl rfl ?_
    refine zS_iload_n dX8_nibblesWithin_8 rfl rfl ?_
    obtain ⟨r9, h9, h⟩ := zbind h
    refine zS_callS (as := [zI x0, zI x3]) (st := []) (ls0 := [some (zI x0), some (zI x3)]) dX8_nibblesWithin_9 okY_X8_nibble rfl rfl zw_2 zw_3 np_X8_nibble (by decide) (Nat.le_of_ble_eq_true rfl) rfl (Nat.le_of_ble_eq_true rfl) (And.intro rfl (And.intro rfl trivial)) (zc_X8_nibble x0 x3 M h9) ?_
    refine zS_iload_n dX8_nibblesWithin_12 rfl rfl ?_
    refine zS_icmp_le (tgt := 18) dX8_nibblesWithin_13 (by decide) (fun c13 => ?_) (fun c13 => ?_)
    · rw [if_pos c13] at h
      refine zS_iinc (v := x3 + (1 : Int32)) (ls' := [some (zI x0), some (zI x1), some (zI x2), some (zI (x3 + (1 : Int32)))]) dX8_nibblesWithin_18 rfl rfl (by decide) rfl rfl ?_
      refine zS_goto (tgt := 2) dX8_nibblesWithin_21 (by decide) ?_
      exact zS_wk [some (zI x0), some (zI x1), some (zI x2), some (zI (x3 + (1 : Int32)))] (And.intro rfl (And.intro rfl (And.intro rfl (And.intro rfl trivial)))) (ih (x3 + (1 : Int32)) r h)
    · rw [if_neg c13] at h
      refine zS_iconst (v := (0 : Int32)) dX8_nibblesWithin_16 (by decide) ?_
      cases h
      exact zS_ireturn dX8_nibblesWithin_17 rfl rfl
def p_X8_nibblesWithin (x0 : Int32) (x1 : Int32) (x2 : Int32) : Option (Int32) :=
  p_X8_nibblesWithin_2 x0 x1 x2 5000 (0 : Int32)
set_option maxRecDepth 20000 in
set_option maxHeartbeats 4000000 in
theorem zc_X8_nibblesWithin (x0 : Int32) (x1 : Int32) (x2 : Int32) (M : zM) {r : Int32} (h : p_X8_nibblesWithin x0 x1 x2 = some r) : zS Y_X8_nibblesWithin 0 [some (zI x0), some (zI x1), some (zI x2), none] [] M (some r, M) := by
  rw [p_X8_nibblesWithin] at h
  refine zS_iconst (v := (0 : Int32)) dX8_nibblesWithin_0 (by decide) ?_
  refine zS_istore_n (ls' := [some (zI x0), some (zI x1), some (zI x2), some (zI (0 : Int32))]) dX8_nibblesWithin_1 rfl (by decide) rfl rfl ?_
  exact zS_wk [some (zI x0), some (zI x1), some (zI x2), some (zI (0 : Int32))] (And.intro rfl (And.intro rfl (And.intro rfl (And.intro rfl trivial)))) (zc_X8_nibblesWithin_2 x0 x1 x2 M 5000 (0 : Int32) r h)
def p_X8_replace (a0 : Nat) (n0 : Nat) (x1 : Int32) (x2 : Int32) (M : zM) : Option (Int32 × zM) :=
  if x1 < 0 ∨ n0 ≤ x1.toNatClampNeg then none else
  if x1 < 0 ∨ n0 ≤ x1.toNatClampNeg then none else
  some (M a0 x1.toNatClampNeg, zset M a0 x1.toNatClampNeg x2)
set_option maxRecDepth 20000 in
set_option maxHeartbeats 4000000 in
theorem zc_X8_replace (a0 : Nat) (n0 : Nat) (x1 : Int32) (x2 : Int32) (M : zM) {r : Int32 × zM} (h : p_X8_replace a0 n0 x1 x2 M = some r) : zS Y_X8_replace 0 [some (zA a0 n0), some (zI x1), some (zI x2), none] [] M (some r.1, r.2) := by
  rw [p_X8_replace] at h
  refine zS_aload_nA dX8_replace_0 rfl rfl ?_
  refine zS_iload_n dX8_replace_1 rfl rfl ?_
  by_cases b2 : x1 < 0 ∨ n0 ≤ x1.toNatClampNeg
  · rw [if_pos b2] at h; cases h
  rw [if_neg b2] at h
  refine zS_iald b2 dX8_replace_2 ?_
  refine zS_istore_n (ls' := [some (zA a0 n0), some (zI x1), some (zI x2), some (zI (M a0 x1.toNatClampNeg))]) dX8_replace_3 rfl (by decide) rfl rfl ?_
  refine zS_aload_nA dX8_replace_4 rfl rfl ?_
  refine zS_iload_n dX8_replace_5 rfl rfl ?_
  refine zS_iload_n dX8_replace_6 rfl rfl ?_
  by_cases b7 : x1 < 0 ∨ n0 ≤ x1.toNatClampNeg
  · rw [if_pos b7] at h; cases h
  rw [if_neg b7] at h
  refine zS_iast b7 dX8_replace_7 ?_
  refine zS_iload_n dX8_replace_8 rfl rfl ?_
  cases h
  exact zS_ireturn dX8_replace_9 rfl rfl
def p_X8_isNote (x0 : Int32) : Option (Int32) :=
  (p_X8_within x0 (0 : Int32) (8 : Int32)).bind fun r4 =>
  if r4 = 0 ∨ r4 = 1 then
  some r4
  else none
set_option maxRecDepth 20000 in
set_option maxHeartbeats 4000000 in
theorem zc_X8_isNote (x0 : Int32) (M : zM) {r : Int32} (h : p_X8_isNote x0 = some r) : zS Y_X8_isNote 0 [some (zI x0)] [] M (some r, M) := by
  rw [p_X8_isNote] at h
  refine zS_iload_n dX8_isNote_0 rfl rfl ?_
  refine zS_iconst (v := (0 : Int32)) dX8_isNote_1 (by decide) ?_
  refine zS_bipush (v := (8 : Int32)) dX8_isNote_2 (by decide) ?_
  obtain ⟨r4, h4, h⟩ := zbind h
  refine zS_callS (as := [zI x0, zI (0 : Int32), zI (8 : Int32)]) (st := []) (ls0 := [some (zI x0), some (zI (0 : Int32)), some (zI (8 : Int32))]) dX8_isNote_4 okY_X8_within rfl rfl zw_0 zw_1 np_X8_within (by decide) (Nat.le_of_ble_eq_true rfl) rfl (Nat.le_of_ble_eq_true rfl) (And.intro rfl (And.intro rfl (And.intro rfl trivial))) (zc_X8_within x0 (0 : Int32) (8 : Int32) M h4) ?_
  by_cases z7 : r4 = 0 ∨ r4 = 1
  rotate_left
  · rw [if_neg z7] at h; cases h
  rw [if_pos z7] at h
  cases h
  exact zS_ireturn dX8_isNote_7 rfl (zbool z7)
def p_X8_hasBit (x0 : Int32) (x1 : Int32) : Option (Int32) :=
  if ((x0 >>> (x1 &&& 31)) &&& (1 : Int32)) = (1 : Int32) then
    some (1 : Int32)
  else
    some (0 : Int32)
set_option maxRecDepth 20000 in
set_option maxHeartbeats 4000000 in
theorem zc_X8_hasBit (x0 : Int32) (x1 : Int32) (M : zM) {r : Int32} (h : p_X8_hasBit x0 x1 = some r) : zS Y_X8_hasBit 0 [some (zI x0), some (zI x1)] [] M (some r, M) := by
  rw [p_X8_hasBit] at h
  refine zS_iload_n dX8_hasBit_0 rfl rfl ?_
  refine zS_iload_n dX8_hasBit_1 rfl rfl ?_
  refine zS_ishr dX8_hasBit_2 ?_
  refine zS_iconst (v := (1 : Int32)) dX8_hasBit_3 (by decide) ?_
  refine zS_iand dX8_hasBit_4 ?_
  refine zS_iconst (v := (1 : Int32)) dX8_hasBit_5 (by decide) ?_
  refine zS_icmp_ne (tgt := 13) dX8_hasBit_6 (by decide) (fun c6 => ?_) (fun c6 => ?_)
  · rw [if_neg c6] at h
    refine zS_iconst (v := (0 : Int32)) dX8_hasBit_13 (by decide) ?_
    cases h
    exact zS_ireturn dX8_hasBit_14 rfl rfl
  · rw [if_pos c6] at h
    refine zS_iconst (v := (1 : Int32)) dX8_hasBit_9 (by decide) ?_
    refine zS_goto (tgt := 14) dX8_hasBit_10 (by decide) ?_
    cases h
    exact zS_ireturn dX8_hasBit_14 rfl rfl
def p_X8_isMovementOrLost (x0 : Int32) : Option (Int32) :=
  if x0 = (-1 : Int32) then
    some (1 : Int32)
  else
    (p_X8_isMovement x0).bind fun r6 =>
    if r6 = 0 then
      some (0 : Int32)
    else
      some (1 : Int32)
set_option maxRecDepth 20000 in
set_option maxHeartbeats 4000000 in
theorem zc_X8_isMovementOrLost (x0 : Int32) (M : zM) {r : Int32} (h : p_X8_isMovementOrLost x0 = some r) : zS Y_X8_isMovementOrLost 0 [some (zI x0)] [] M (some r, M) := by
  rw [p_X8_isMovementOrLost] at h
  refine zS_iload_n dX8_isMovementOrLost_0 rfl rfl ?_
  refine zS_iconst (v := (-1 : Int32)) dX8_isMovementOrLost_1 (by decide) ?_
  refine zS_icmp_eq (tgt := 12) dX8_isMovementOrLost_2 (by decide) (fun c2 => ?_) (fun c2 => ?_)
  · rw [if_pos c2] at h
    refine zS_iconst (v := (1 : Int32)) dX8_isMovementOrLost_12 (by decide) ?_
    refine zS_goto (tgt := 17) dX8_isMovementOrLost_13 (by decide) ?_
    cases h
    exact zS_ireturn dX8_isMovementOrLost_17 rfl rfl
  · rw [if_neg c2] at h
    refine zS_iload_n dX8_isMovementOrLost_5 rfl rfl ?_
    obtain ⟨r6, h6, h⟩ := zbind h
    refine zS_callS (as := [zI x0]) (st := []) (ls0 := [some (zI x0)]) dX8_isMovementOrLost_6 okY_X8_isMovement rfl rfl zw_6 zw_7 np_X8_isMovement (by decide) (Nat.le_of_ble_eq_true rfl) rfl (Nat.le_of_ble_eq_true rfl) (And.intro rfl trivial) (zc_X8_isMovement x0 M h6) ?_
    refine zS_if_eq (tgt := 16) dX8_isMovementOrLost_9 (by decide) (fun c9 => ?_) (fun c9 => ?_)
    · rw [if_pos c9] at h
      refine zS_iconst (v := (0 : Int32)) dX8_isMovementOrLost_16 (by decide) ?_
      cases h
      exact zS_ireturn dX8_isMovementOrLost_17 rfl rfl
    · rw [if_neg c9] at h
      refine zS_iconst (v := (1 : Int32)) dX8_isMovementOrLost_12 (by decide) ?_
      refine zS_goto (tgt := 17) dX8_isMovementOrLost_13 (by decide) ?_
      cases h
      exact zS_ireturn dX8_isMovementOrLost_17 rfl rfl
def p_X8_isRegion (x0 : Int32) : Option (Int32) :=
  (p_X8_within x0 (0 : Int32) (2 : Int32)).bind fun r3 =>
  if r3 = 0 ∨ r3 = 1 then
  some r3
  else none
set_option maxRecDepth 20000 in
set_option maxHeartbeats 4000000 in
theorem zc_X8_isRegion (x0 : Int32) (M : zM) {r : Int32} (h : p_X8_isRegion x0 = some r) : zS Y_X8_isRegion 0 [some (zI x0)] [] M (some r, M) := by
  rw [p_X8_isRegion] at h
  refine zS_iload_n dX8_isRegion_0 rfl rfl ?_
  refine zS_iconst (v := (0 : Int32)) dX8_isRegion_1 (by decide) ?_
  refine zS_iconst (v := (2 : Int32)) dX8_isRegion_2 (by decide) ?_
  obtain ⟨r3, h3, h⟩ := zbind h
  refine zS_callS (as := [zI x0, zI (0 : Int32), zI (2 : Int32)]) (st := []) (ls0 := [some (zI x0), some (zI (0 : Int32)), some (zI (2 : Int32))]) dX8_isRegion_3 okY_X8_within rfl rfl zw_0 zw_1 np_X8_within (by decide) (Nat.le_of_ble_eq_true rfl) rfl (Nat.le_of_ble_eq_true rfl) (And.intro rfl (And.intro rfl (And.intro rfl trivial))) (zc_X8_within x0 (0 : Int32) (2 : Int32) M h3) ?_
  by_cases z6 : r3 = 0 ∨ r3 = 1
  rotate_left
  · rw [if_neg z6] at h; cases h
  rw [if_pos z6] at h
  cases h
  exact zS_ireturn dX8_isRegion_6 rfl (zbool z6)
def p_X8_isRule (x0 : Int32) : Option (Int32) :=
  (p_X8_within x0 (0 : Int32) (4 : Int32)).bind fun r3 =>
  if r3 = 0 ∨ r3 = 1 then
  some r3
  else none
set_option maxRecDepth 20000 in
set_option maxHeartbeats 4000000 in
theorem zc_X8_isRule (x0 : Int32) (M : zM) {r : Int32} (h : p_X8_isRule x0 = some r) : zS Y_X8_isRule 0 [some (zI x0)] [] M (some r, M) := by
  rw [p_X8_isRule] at h
  refine zS_iload_n dX8_isRule_0 rfl rfl ?_
  refine zS_iconst (v := (0 : Int32)) dX8_isRule_1 (by decide) ?_
  refine zS_iconst (v := (4 : Int32)) dX8_isRule_2 (by decide) ?_
  obtain ⟨r3, h3, h⟩ := zbind h
  refine zS_callS (as := [zI x0, zI (0 : Int32), zI (4 : Int32)]) (st := []) (ls0 := [some (zI x0), some (zI (0 : Int32)), some (zI (4 : Int32))]) dX8_isRule_3 okY_X8_within rfl rfl zw_0 zw_1 np_X8_within (by decide) (Nat.le_of_ble_eq_true rfl) rfl (Nat.le_of_ble_eq_true rfl) (And.intro rfl (And.intro rfl (And.intro rfl trivial))) (zc_X8_within x0 (0 : Int32) (4 : Int32) M h3) ?_
  by_cases z6 : r3 = 0 ∨ r3 = 1
  rotate_left
  · rw [if_neg z6] at h; cases h
  rw [if_pos z6] at h
  cases h
  exact zS_ireturn dX8_isRule_6 rfl (zbool z6)
def p_X8_isPiper (x0 : Int32) : Option (Int32) :=
  (p_X8_within x0 (0 : Int32) (5 : Int32)).bind fun r3 =>
  if r3 = 0 ∨ r3 = 1 then
  some r3
  else none
set_option maxRecDepth 20000 in
set_option maxHeartbeats 4000000 in
theorem zc_X8_isPiper (x0 : Int32) (M : zM) {r : Int32} (h : p_X8_isPiper x0 = some r) : zS Y_X8_isPiper 0 [some (zI x0)] [] M (some r, M) := by
  rw [p_X8_isPiper] at h
  refine zS_iload_n dX8_isPiper_0 rfl rfl ?_
  refine zS_iconst (v := (0 : Int32)) dX8_isPiper_1 (by decide) ?_
  refine zS_iconst (v := (5 : Int32)) dX8_isPiper_2 (by decide) ?_
  obtain ⟨r3, h3, h⟩ := zbind h
  refine zS_callS (as := [zI x0, zI (0 : Int32), zI (5 : Int32)]) (st := []) (ls0 := [some (zI x0), some (zI (0 : Int32)), some (zI (5 : Int32))]) dX8_isPiper_3 okY_X8_within rfl rfl zw_0 zw_1 np_X8_within (by decide) (Nat.le_of_ble_eq_true rfl) rfl (Nat.le_of_ble_eq_true rfl) (And.intro rfl (And.intro rfl (And.intro rfl trivial))) (zc_X8_within x0 (0 : Int32) (5 : Int32) M h3) ?_
  by_cases z6 : r3 = 0 ∨ r3 = 1
  rotate_left
  · rw [if_neg z6] at h; cases h
  rw [if_pos z6] at h
  cases h
  exact zS_ireturn dX8_isPiper_6 rfl (zbool z6)
def p_X8_isMinute (x0 : Int32) : Option (Int32) :=
  (p_X8_within x0 (0 : Int32) (150 : Int32)).bind fun r5 =>
  if r5 = 0 ∨ r5 = 1 then
  some r5
  else none
set_option maxRecDepth 20000 in
set_option maxHeartbeats 4000000 in
theorem zc_X8_isMinute (x0 : Int32) (M : zM) {r : Int32} (h : p_X8_isMinute x0 = some r) : zS Y_X8_isMinute 0 [some (zI x0)] [] M (some r, M) := by
  rw [p_X8_isMinute] at h
  refine zS_iload_n dX8_isMinute_0 rfl rfl ?_
  refine zS_iconst (v := (0 : Int32)) dX8_isMinute_1 (by decide) ?_
  refine zS_sipush (v := (150 : Int32)) dX8_isMinute_2 (by decide) ?_
  obtain ⟨r5, h5, h⟩ := zbind h
  refine zS_callS (as := [zI x0, zI (0 : Int32), zI (150 : Int32)]) (st := []) (ls0 := [some (zI x0), some (zI (0 : Int32)), some (zI (150 : Int32))]) dX8_isMinute_5 okY_X8_within rfl rfl zw_0 zw_1 np_X8_within (by decide) (Nat.le_of_ble_eq_true rfl) rfl (Nat.le_of_ble_eq_true rfl) (And.intro rfl (And.intro rfl (And.intro rfl trivial))) (zc_X8_within x0 (0 : Int32) (150 : Int32) M h5) ?_
  by_cases z8 : r5 = 0 ∨ r5 = 1
  rotate_left
  · rw [if_neg z8] at h; cases h
  rw [if_pos z8] at h
  cases h
  exact zS_ireturn dX8_isMinute_8 rfl (zbool z8)
def p_X8_isBand (x0 : Int32) : Option (Int32) :=
  (p_X8_within x0 (1 : Int32) (63 : Int32)).bind fun r4 =>
  if r4 = 0 ∨ r4 = 1 then
  some r4
  else none
set_option maxRecDepth 20000 in
set_option maxHeartbeats 4000000 in
theorem zc_X8_isBand (x0 : Int32) (M : zM) {r : Int32} (h : p_X8_isBand x0 = some r) : zS Y_X8_isBand 0 [some (zI x0)] [] M (some r, M) := by
  rw [p_X8_isBand] at h
  refine zS_iload_n dX8_isBand_0 rfl rfl ?_
  refine zS_iconst (v := (1 : Int32)) dX8_isBand_1 (by decide) ?_
  refine zS_bipush (v := (63 : Int32)) dX8_isBand_2 (by decide) ?_
  obtain ⟨r4, h4, h⟩ := zbind h
  refine zS_callS (as := [zI x0, zI (1 : Int32), zI (63 : Int32)]) (st := []) (ls0 := [some (zI x0), some (zI (1 : Int32)), some (zI (63 : Int32))]) dX8_isBand_4 okY_X8_within rfl rfl zw_0 zw_1 np_X8_within (by decide) (Nat.le_of_ble_eq_true rfl) rfl (Nat.le_of_ble_eq_true rfl) (And.intro rfl (And.intro rfl (And.intro rfl trivial))) (zc_X8_within x0 (1 : Int32) (63 : Int32) M h4) ?_
  by_cases z7 : r4 = 0 ∨ r4 = 1
  rotate_left
  · rw [if_neg z7] at h; cases h
  rw [if_pos z7] at h
  cases h
  exact zS_ireturn dX8_isBand_7 rfl (zbool z7)
def p_X8_isPitch (x0 : Int32) : Option (Int32) :=
  (p_X8_within x0 (-999 : Int32) (999 : Int32)).bind fun r7 =>
  if r7 = 0 ∨ r7 = 1 then
  some r7
  else none
set_option maxRecDepth 20000 in
set_option maxHeartbeats 4000000 in
theorem zc_X8_isPitch (x0 : Int32) (M : zM) {r : Int32} (h : p_X8_isPitch x0 = some r) : zS Y_X8_isPitch 0 [some (zI x0)] [] M (some r, M) := by
  rw [p_X8_isPitch] at h
  refine zS_iload_n dX8_isPitch_0 rfl rfl ?_
  refine zS_sipush (v := (-999 : Int32)) dX8_isPitch_1 (by decide) ?_
  refine zS_sipush (v := (999 : Int32)) dX8_isPitch_4 (by decide) ?_
  obtain ⟨r7, h7, h⟩ := zbind h
  refine zS_callS (as := [zI x0, zI (-999 : Int32), zI (999 : Int32)]) (st := []) (ls0 := [some (zI x0), some (zI (-999 : Int32)), some (zI (999 : Int32))]) dX8_isPitch_7 okY_X8_within rfl rfl zw_0 zw_1 np_X8_within (by decide) (Nat.le_of_ble_eq_true rfl) rfl (Nat.le_of_ble_eq_true rfl) (And.intro rfl (And.intro rfl (And.intro rfl trivial))) (zc_X8_within x0 (-999 : Int32) (999 : Int32) M h7) ?_
  by_cases z10 : r7 = 0 ∨ r7 = 1
  rotate_left
  · rw [if_neg z10] at h; cases h
  rw [if_pos z10] at h
  cases h
  exact zS_ireturn dX8_isPitch_10 rfl (zbool z10)
