def p_X9_in (x0 : Int32) (x1 : Int32) (x2 : Int32) : Option (Int32) :=
  if x0 < x1 then
    some (0 : Int32)
  else
    if x2 < x0 then
      some (0 : Int32)
    else
      some (1 : Int32)
set_option maxRecDepth 20000 in
set_option maxHeartbeats 4000000 in
theorem zc_X9_in (x0 : Int32) (x1 : Int32) (x2 : Int32) (M : zM) {r : Int32} (h : p_X9_in x0 x1 x2 = some r) : zS Y_X9_in 0 [some (zI x0), some (zI x1), some (zI x2)] [] M (some r, M) := by
  rw [p_X9_in] at h
  refine zS_iload_n dX9_in_0 rfl rfl ?_
  refine zS_iload_n dX9_in_1 rfl rfl ?_
  refine zS_icmp_lt (tgt := 14) dX9_in_2 (by decide) (fun c2 => ?_) (fun c2 => ?_)
  · rw [if_pos c2] at h
    refine zS_iconst (v := (0 : Int32)) dX9_in_14 (by decide) ?_
    cases h
    exact zS_ireturn dX9_in_15 rfl rfl
  · rw [if_neg c2] at h
    refine zS_iload_n dX9_in_5 rfl rfl ?_
    refine zS_iload_n dX9_in_6 rfl rfl ?_
    refine zS_icmp_gt (tgt := 14) dX9_in_7 (by decide) (fun c7 => ?_) (fun c7 => ?_)
    · rw [if_pos c7] at h
      refine zS_iconst (v := (0 : Int32)) dX9_in_14 (by decide) ?_
      cases h
      exact zS_ireturn dX9_in_15 rfl rfl
    · rw [if_neg c7] at h
      refine zS_iconst (v := (1 : Int32)) dX9_in_10 (by decide) ?_
      refine zS_goto (tgt := 15) dX9_in_11 (by decide) ?_
      cases h
      exact zS_ireturn dX9_in_15 rfl rfl
def p_X9_isNote (x0 : Int32) : Option (Int32) :=
  (p_X9_in x0 (0 : Int32) (8 : Int32)).bind fun r4 =>
  if r4 = 0 ∨ r4 = 1 then
  some r4
  else none
set_option maxRecDepth 20000 in
set_option maxHeartbeats 4000000 in
theorem zc_X9_isNote (x0 : Int32) (M : zM) {r : Int32} (h : p_X9_isNote x0 = some r) : zS Y_X9_isNote 0 [some (zI x0)] [] M (some r, M) := by
  rw [p_X9_isNote] at h
  refine zS_iload_n dX9_isNote_0 rfl rfl ?_
  refine zS_iconst (v := (0 : Int32)) dX9_isNote_1 (by decide) ?_
  refine zS_bipush (v := (8 : Int32)) dX9_isNote_2 (by decide) ?_
  obtain ⟨r4, h4, h⟩ := zbind h
  refine zS_callS (as := [zI x0, zI (0 : Int32), zI (8 : Int32)]) (st := []) (ls0 := [some (zI x0), some (zI (0 : Int32)), some (zI (8 : Int32))]) dX9_isNote_4 okY_X9_in rfl rfl zw_310 zw_311 np_X9_in (by decide) (Nat.le_of_ble_eq_true rfl) rfl (Nat.le_of_ble_eq_true rfl) (And.intro rfl (And.intro rfl (And.intro rfl trivial))) (zc_X9_in x0 (0 : Int32) (8 : Int32) M h4) ?_
  by_cases z7 : r4 = 0 ∨ r4 = 1
  rotate_left
  · rw [if_neg z7] at h; cases h
  rw [if_pos z7] at h
  cases h
  exact zS_ireturn dX9_isNote_7 rfl (zbool z7)
def p_X9_isMovement (x0 : Int32) : Option (Int32) :=
  (p_X9_in x0 (0 : Int32) (7 : Int32)).bind fun r4 =>
  if r4 = 0 ∨ r4 = 1 then
  some r4
  else none
set_option maxRecDepth 20000 in
set_option maxHeartbeats 4000000 in
theorem zc_X9_isMovement (x0 : Int32) (M : zM) {r : Int32} (h : p_X9_isMovement x0 = some r) : zS Y_X9_isMovement 0 [some (zI x0)] [] M (some r, M) := by
  rw [p_X9_isMovement] at h
  refine zS_iload_n dX9_isMovement_0 rfl rfl ?_
  refine zS_iconst (v := (0 : Int32)) dX9_isMovement_1 (by decide) ?_
  refine zS_bipush (v := (7 : Int32)) dX9_isMovement_2 (by decide) ?_
  obtain ⟨r4, h4, h⟩ := zbind h
  refine zS_callS (as := [zI x0, zI (0 : Int32), zI (7 : Int32)]) (st := []) (ls0 := [some (zI x0), some (zI (0 : Int32)), some (zI (7 : Int32))]) dX9_isMovement_4 okY_X9_in rfl rfl zw_310 zw_311 np_X9_in (by decide) (Nat.le_of_ble_eq_true rfl) rfl (Nat.le_of_ble_eq_true rfl) (And.intro rfl (And.intro rfl (And.intro rfl trivial))) (zc_X9_in x0 (0 : Int32) (7 : Int32) M h4) ?_
  by_cases z7 : r4 = 0 ∨ r4 = 1
  rotate_left
  · rw [if_neg z7] at h; cases h
  rw [if_pos z7] at h
  cases h
  exact zS_ireturn dX9_isMovement_7 rfl (zbool z7)
def p_X9_isRegion (x0 : Int32) : Option (Int32) :=
  (p_X9_in x0 (0 : Int32) (2 : Int32)).bind fun r3 =>
  if r3 = 0 ∨ r3 = 1 then
  some r3
  else none
set_option maxRecDepth 20000 in
set_option maxHeartbeats 4000000 in
theorem zc_X9_isRegion (x0 : Int32) (M : zM) {r : Int32} (h : p_X9_isRegion x0 = some r) : zS Y_X9_isRegion 0 [some (zI x0)] [] M (some r, M) := by
  rw [p_X9_isRegion] at h
  refine zS_iload_n dX9_isRegion_0 rfl rfl ?_
  refine zS_iconst (v := (0 : Int32)) dX9_isRegion_1 (by decide) ?_
  refine zS_iconst (v := (2 : Int32)) dX9_isRegion_2 (by decide) ?_
  obtain ⟨r3, h3, h⟩ := zbind h
  refine zS_callS (as := [zI x0, zI (0 : Int32), zI (2 : Int32)]) (st := []) (ls0 := [some (zI x0), some (zI (0 : Int32)), some (zI (2 : Int32))]) dX9_isRegion_3 okY_X9_in rfl rfl zw_310 zw_311 np_X9_in (by decide) (Nat.le_of_ble_eq_true rfl) rfl (Nat.le_of_ble_eq_true rfl) (And.intro rfl (And.intro rfl (And.intro rfl trivial))) (zc_X9_in x0 (0 : Int32) (2 : Int32) M h3) ?_
  by_cases z6 : r3 = 0 ∨ r3 = 1
  rotate_left
  · rw [if_neg z6] at h; cases h
  rw [if_pos z6] at h
  cases h
  exact zS_ireturn dX9_isRegion_6 rfl (zbool z6)
def p_X9_isRule (x0 : Int32) : Option (Int32) :=
  (p_X9_in x0 (0 : Int32) (4 : Int32)).bind fun r3 =>
  if r3 = 0 ∨ r3 = 1 then
  some r3
  else none
set_option maxRecDepth 20000 in
set_option maxHeartbeats 4000000 in
theorem zc_X9_isRule (x0 : Int32) (M : zM) {r : Int32} (h : p_X9_isRule x0 = some r) : zS Y_X9_isRule 0 [some (zI x0)] [] M (some r, M) := by
  rw [p_X9_isRule] at h
  refine zS_iload_n dX9_isRule_0 rfl rfl ?_
  refine zS_iconst (v := (0 : Int32)) dX9_isRule_1 (by decide) ?_
  refine zS_iconst (v := (4 : Int32)) dX9_isRule_2 (by decide) ?_
  obtain ⟨r3, h3, h⟩ := zbind h
  refine zS_callS (as := [zI x0, zI (0 : Int32), zI (4 : Int32)]) (st := []) (ls0 := [some (zI x0), some (zI (0 : Int32)), some (zI (4 : Int32))]) dX9_isRule_3 okY_X9_in rfl rfl zw_310 zw_311 np_X9_in (by decide) (Nat.le_of_ble_eq_true rfl) rfl (Nat.le_of_ble_eq_true rfl) (And.intro rfl (And.intro rfl (And.intro rfl trivial))) (zc_X9_in x0 (0 : Int32) (4 : Int32) M h3) ?_
  by_cases z6 : r3 = 0 ∨ r3 = 1
  rotate_left
  · rw [if_neg z6] at h; cases h
  rw [if_pos z6] at h
  cases h
  exact zS_ireturn dX9_isRule_6 rfl (zbool z6)
def p_X9_isPiper (x0 : Int32) : Option (Int32) :=
  (p_X9_in x0 (0 : Int32) (5 : Int32)).bind fun r3 =>
  if r3 = 0 ∨ r3 = 1 then
  some r3
  else none
set_option maxRecDepth 20000 in
set_option maxHeartbeats 4000000 in
theorem zc_X9_isPiper (x0 : Int32) (M : zM) {r : Int32} (h : p_X9_isPiper x0 = some r) : zS Y_X9_isPiper 0 [some (zI x0)] [] M (some r, M) := by
  rw [p_X9_isPiper] at h
  refine zS_iload_n dX9_isPiper_0 rfl rfl ?_
  refine zS_iconst (v := (0 : Int32)) dX9_isPiper_1 (by decide) ?_
  refine zS_iconst (v := (5 : Int32)) dX9_isPiper_2 (by decide) ?_
  obtain ⟨r3, h3, h⟩ := zbind h
  refine zS_callS (as := [zI x0, zI (0 : Int32), zI (5 : Int32)]) (st := []) (ls0 := [some (zI x0), some (zI (0 : Int32)), some (zI (5 : Int32))]) dX9_isPiper_3 okY_X9_in rfl rfl zw_310 zw_311 np_X9_in (by decide) (Nat.le_of_ble_eq_true rfl) rfl (Nat.le_of_ble_eq_true rfl) (And.intro rfl (And.intro rfl (And.intro rfl trivial))) (zc_X9_in x0 (0 : Int32) (5 : Int32) M h3) ?_
  by_cases z6 : r3 = 0 ∨ r3 = 1
  rotate_left
  · rw [if_neg z6] at h; cases h
  rw [if_pos z6] at h
  cases h
  exact zS_ireturn dX9_isPiper_6 rfl (zbool z6)
def p_X9_plus (x0 : Int32) (x1 : Int32) : Option (Int32) :=
  if (x0 + x1) ≤ (1000001 : Int32) then
    some (x0 + x1)
  else
    some (1000001 : Int32)
set_option maxRecDepth 20000 in
set_option maxHeartbeats 4000000 in
theorem zc_X9_plus (x0 : Int32) (x1 : Int32) (M : zM) {r : Int32} (h : p_X9_plus x0 x1 = some r) : zS Y_X9_plus 0 [some (zI x0), some (zI x1)] [] M (some r, M) := by
  rw [p_X9_plus] at h
  refine zS_iload_n dX9_plus_0 rfl rfl ?_
  refine zS_iload_n dX9_plus_1 rfl rfl ?_
  refine zS_iadd dX9_plus_2 ?_
  refine zS_ldc (v := (1000001 : Int32)) dX9_plus_3 zw_312 ?_
  refine zS_icmp_le (tgt := 13) dX9_plus_5 (by decide) (fun c5 => ?_) (fun c5 => ?_)
  · rw [if_pos c5] at h
    refine zS_iload_n dX9_plus_13 rfl rfl ?_
    refine zS_iload_n dX9_plus_14 rfl rfl ?_
    refine zS_iadd dX9_plus_15 ?_
    cases h
    exact zS_ireturn dX9_plus_16 rfl rfl
  · rw [if_neg c5] at h
    refine zS_ldc (v := (1000001 : Int32)) dX9_plus_8 zw_312 ?_
    refine zS_goto (tgt := 16) dX9_plus_10 (by decide) ?_
    cases h
    exact zS_ireturn dX9_plus_16 rfl rfl
def p_X9_movement_65 (x1 : Int32) (x2 : Int32) (x3 : Int32) : Nat → Int32 → zM → Option (Int32 × zM)
  | 0, _, _ => none
  | nn + 1, x4, M =>
  if x2 ≤ x4 then
    some ((1 : Int32), M)
  else
    if ((4 : Int32) * x1) + x4 < 0 ∨ 32 ≤ (((4 : Int32) * x1) + x4).toNatClampNeg then none else
    p_X9_movement_65 x1 x2 x3 nn (x4 + (1 : Int32)) (zset M 76 ((((4 : Int32) * x1) + x4).toNatClampNeg) ((x3 >>> (((4 : Int32) * x4) &&& 31)) &&& (15 : Int32)))
set_option maxRecDepth 20000 in
set_option maxHeartbeats 4000000 in
theorem zc_X9_movement_65 (x1 : Int32) (x2 : Int32) (x3 : Int32) : ∀ (nn : Nat) (x4 : Int32) (M : zM) (r : Int32 × zM), p_X9_movement_65 x1 x2 x3 nn x4 M = some r → zS Y_X9_movement 65 [some (zO 9), some (zI x1), some (zI x2), some (zI x3), some (zI x4)] [] M (some r.1, r.2) := by
  intro nn
  induction nn with
  | zero => intro x4 M r h; cases h
  | succ nn ih =>
  intro x4 M r h
  rw [p_X9_movement_65] at h
  refine zS_iload dX9_movement_65 rfl ?_
  refine zS_iload_n dX9_movement_67 rfl rfl ?_
  refine zS_icmp_ge (tgt := 97) dX9_movement_68 (by decide) (fun c68 => ?_) (fun c68 => ?_)
  · rw [if_pos c68] at h
    refine zS_iconst (v := (1 : Int32)) dX9_movement_97 (by decide) ?_
    cases h
    exact zS_ireturn dX9_movement_98 rfl rfl
  · rw [if_neg c68] at h
    refine zS_aload_nO dX9_movement_71 rfl rfl ?_
    refine gf_9_1 dX9_movement_72 zw_313 ?_
    refine zS_iconst (v := (4 : Int32)) dX9_movement_75 (by decide) ?_
    refine zS_iload_n dX9_movement_76 rfl rfl ?_
    refine zS_imul dX9_movement_77 ?_
    refine zS_iload dX9_movement_78 rfl ?_
    refine zS_iadd dX9_movement_80 ?_
    refine zS_iload_n dX9_movement_81 rfl rfl ?_
    refine zS_iconst (v := (4 : Int32)) dX9_movement_82 (by decide) ?_
    refine zS_iload dX9_movement_83 rfl ?_
    refine zS_imul dX9_movement_85 ?_
    refine zS_ishr dX9_movement_86 ?_
    refine zS_bipush (v := (15 : Int32)) dX9_movement_87 (by decide) ?_
    refine zS_iand dX9_movement_89 ?_
    by_cases b90 : ((4 : Int32) * x1) + x4 < 0 ∨ 32 ≤ (((4 : Int32) * x1) + x4).toNatClampNeg
    · rw [if_pos b90] at h; cases h
    rw [if_neg b90] at h
    refine zS_iast b90 dX9_movement_90 ?_
    refine zS_iinc (v := x4 + (1 : Int32)) (ls' := [some (zO 9), some (zI x1), some (zI x2), some (zI x3), some (zI (x4 + (1 : Int32)))]) dX9_movement_91 rfl rfl (by decide) rfl rfl ?_
    refine zS_goto (tgt := 65) dX9_movement_94 (by decide) ?_
    exact zS_wk [some (zO 9), some (zI x1), some (zI x2), some (zI x3), some (zI (x4 + (1 : Int32)))] (And.intro rfl (And.intro rfl (And.intro rfl (And.intro rfl (And.intro rfl trivial))))) (ih (x4 + (1 : Int32)) (zset M 76 ((((4 : Int32) * x1) + x4).toNatClampNeg) ((x3 >>> (((4 : Int32) * x4) &&& 31)) &&& (15 : Int32))) r h)
def p_X9_movement_25 (x1 : Int32) (x2 : Int32) (x3 : Int32) (M : zM) : Nat → Int32 → Option (Int32 × zM)
  | 0, _ => none
  | nn + 1, x4 =>
  if x2 ≤ x4 then
    if x1 < 0 ∨ 8 ≤ x1.toNatClampNeg then none else
    p_X9_movement_65 x1 x2 x3 5000 (0 : Int32) (zset M 75 x1.toNatClampNeg x2)
  else
    (p_X9_isNote ((x3 >>> (((4 : Int32) * x4) &&& 31)) &&& (15 : Int32))).bind fun r40 =>
    if r40 = 0 then
      some ((-3 : Int32), M)
    else
      p_X9_movement_25 x1 x2 x3 M nn (x4 + (1 : Int32))
set_option maxRecDepth 20000 in
set_option maxHeartbeats 4000000 in
theorem zc_X9_movement_25 (x1 : Int32) (x2 : Int32) (x3 : Int32) (M : zM) : ∀ (nn : Nat) (x4 : Int32) (r : Int32 × zM), p_X9_movement_25 x1 x2 x3 M nn x4 = some r → zS Y_X9_movement 25 [some (zO 9), some (zI x1), some (zI x2), some (zI x3), some (zI x4)] [] M (some r.1, r.2) := by
  intro nn
  induction nn with
  | zero => intro x4 r h; cases h
  | succ nn ih =>
  intro x4 r h
  rw [p_X9_movement_25] at h
  refine zS_iload dX9_movement_25 rfl ?_
  refine zS_iload_n dX9_movement_27 rfl rfl ?_
  refine zS_icmp_ge (tgt := 55) dX9_movement_28 (by decide) (fun c28 => ?_) (fun c28 => ?_)
  · rw [if_pos c28] at h
    refine zS_aload_nO dX9_movement_55 rfl rfl ?_
    refine gf_9_0 dX9_movement_56 zw_314 ?_
    refine zS_iload_n dX9_movement_59 rfl rfl ?_
    refine zS_iload_n dX9_movement_60 rfl rfl ?_
    by_cases b61 : x1 < 0 ∨ 8 ≤ x1.toNatClampNeg
    · rw [if_pos b61] at h; cases h
    rw [if_neg b61] at h
    refine zS_iast b61 dX9_movement_61 ?_
    refine zS_iconst (v := (0 : Int32)) dX9_movement_62 (by decide) ?_
    refine zS_istore (ls' := [some (zO 9), some (zI x1), some (zI x2), some (zI x3), some (zI (0 : Int32))]) dX9_movement_63 (by decide) rfl rfl ?_
    exact zS_wk [some (zO 9), some (zI x1), some (zI x2), some (zI x3), some (zI (0 : Int32))] (And.intro rfl (And.intro rfl (And.intro rfl (And.intro rfl (And.intro rfl trivial))))) (zc_X9_movement_65 x1 x2 x3 5000 (0 : Int32) (zset M 75 x1.toNatClampNeg x2) r h)
  · rw [if_neg c28] at h
    refine zS_iload_n dX9_movement_31 rfl rfl ?_
    refine zS_iconst (v := (4 : Int32)) dX9_movement_32 (by decide) ?_
    refine zS_iload dX9_movement_33 rfl ?_
    refine zS_imul dX9_movement_35 ?_
    refine zS_ishr dX9_movement_36 ?_
    refine zS_bipush (v := (15 : Int32)) dX9_movement_37 (by decide) ?_
    refine zS_iand dX9_movement_39 ?_
    obtain ⟨r40, h40, h⟩ := zbind h
    refine zS_callS (as := [zI ((x3 >>> (((4 : Int32) * x4) &&& 31)) &&& (15 : Int32))]) (st := []) (ls0 := [some (zI ((x3 >>> (((4 : Int32) * x4) &&& 31)) &&& (15 : Int32)))]) dX9_movement_40 okY_X9_isNote rfl rfl zw_315 zw_316 np_X9_isNote (by decide) (Nat.le_of_ble_eq_true rfl) rfl (Nat.le_of_ble_eq_true rfl) (And.intro rfl trivial) (zc_X9_isNote ((x3 >>> (((4 : Int32) * x4) &&& 31)) &&& (15 : Int32)) M h40) ?_
    refine zS_if_ne (tgt := 49) dX9_movement_43 (by decide) (fun c43 => ?_) (fun c43 => ?_)
    · rw [if_neg c43] at h
      refine zS_iinc (v := x4 + (1 : Int32)) (ls' := [some (zO 9), some (zI x1), some (zI x2), some (zI x3), some (zI (x4 + (1 : Int32)))]) dX9_movement_49 rfl rfl (by decide) rfl rfl ?_
      refine zS_goto (tgt := 25) dX9_movement_52 (by decide) ?_
      exact zS_wk [some (zO 9), some (zI x1), some (zI x2), some (zI x3), some (zI (x4 + (1 : Int32)))] (And.intro rfl (And.intro rfl (And.intro rfl (And.intro rfl (And.intro rfl trivial))))) (ih (x4 + (1 : Int32)) r h)
    · rw [if_pos c43] at h
      refine zS_bipush (v := (-3 : Int32)) dX9_movement_46 (by decide) ?_
      cases h
      exact zS_ireturn dX9_movement_48 rfl rfl
def p_X9_movement (x1 : Int32) (x2 : Int32) (x3 : Int32) (M : zM) : Option (Int32 × zM) :=
  (p_X9_isMovement x1).bind fun r1 =>
  if r1 = 0 then
    some ((-2 : Int32), M)
  else
    (p_X9_in x2 (0 : Int32) (4 : Int32)).bind fun r13 =>
    if r13 = 0 then
      some ((-3 : Int32), M)
    else
      p_X9_movement_25 x1 x2 x3 M 5000 (0 : Int32)
set_option maxRecDepth 20000 in
set_option maxHeartbeats 4000000 in
theorem zc_X9_movement (x1 : Int32) (x2 : Int32) (x3 : Int32) (M : zM) {r : Int32 × zM} (h : p_X9_movement x1 x2 x3 M = some r) : zS Y_X9_movement 0 [some (zO 9), some (zI x1), some (zI x2), some (zI x3), none] [] M (some r.1, r.2) := by
  rw [p_X9_movement] at h
  refine zS_iload_n dX9_movement_0 rfl rfl ?_
  obtain ⟨r1, h1, h⟩ := zbind h
  refine zS_callS (as := [zI x1]) (st := []) (ls0 := [some (zI x1)]) dX9_movement_1 okY_X9_isMovement rfl rfl zw_317 zw_318 np_X9_isMovement (by decide) (Nat.le_of_ble_eq_true rfl) rfl (Nat.le_of_ble_eq_true rfl) (And.intro rfl trivial) (zc_X9_isMovement x1 M h1) ?_
  refine zS_if_ne (tgt := 10) dX9_movement_4 (by decide) (fun c4 => ?_) (fun c4 => ?_)
  · rw [if_neg c4] at h
    refine zS_iload_n dX9_movement_10 rfl rfl ?_
    refine zS_iconst (v := (0 : Int32)) dX9_movement_11 (by decide) ?_
    refine zS_iconst (v := (4 : Int32)) dX9_movement_12 (by decide) ?_
    obtain ⟨r13, h13, h⟩ := zbind h
    refine zS_callS (as := [zI x2, zI (0 : Int32), zI (4 : Int32)]) (st := []) (ls0 := [some (zI x2), some (zI (0 : Int32)), some (zI (4 : Int32))]) dX9_movement_13 okY_X9_in rfl rfl zw_310 zw_311 np_X9_in (by decide) (Nat.le_of_ble_eq_true rfl) rfl (Nat.le_of_ble_eq_true rfl) (And.intro rfl (And.intro rfl (And.intro rfl trivial))) (zc_X9_in x2 (0 : Int32) (4 : Int32) M h13) ?_
    refine zS_if_ne (tgt := 22) dX9_movement_16 (by decide) (fun c16 => ?_) (fun c16 => ?_)
    · rw [if_neg c16] at h
      refine zS_iconst (v := (0 : Int32)) dX9_movement_22 (by decide) ?_
      refine zS_istore (ls' := [some (zO 9), some (zI x1), some (zI x2), some (zI x3), some (zI (0 : Int32))]) dX9_movement_23 (by decide) rfl rfl ?_
      exact zS_wk [some (zO 9), some (zI x1), some (zI x2), some (zI x3), some (zI (0 : Int32))] (And.intro rfl (And.intro rfl (And.intro rfl (And.intro rfl (And.intro rfl trivial))))) (zc_X9_movement_25 x1 x2 x3 M 5000 (0 : Int32) r h)
    · rw [if_pos c16] at h
      refine zS_bipush (v := (-3 : Int32)) dX9_movement_19 (by decide) ?_
      cases h
      exact zS_ireturn dX9_movement_21 rfl rfl
  · rw [if_pos c4] at h
    refine zS_bipush (v := (-2 : Int32)) dX9_movement_7 (by decide) ?_
    cases h
    exact zS_ireturn dX9_movement_9 rfl rfl
def p_X9_may_73 (x1 : Int32) (x2 : Int32) (x3 : Int32) (x4 : Int32) (t2 : Int32) (t1 : Int32) (b0 : Nat) (m0 : Nat) (M : zM) : Option (Int32 × zM) :=
  if t1 < 0 ∨ m0 ≤ t1.toNatClampNeg then none else
  if x2 = (1 : Int32) then
    if x1 < 0 ∨ 8 ≤ x1.toNatClampNeg then none else
    some (x4, zset (zset M b0 t1.toNatClampNeg t2) 78 x1.toNatClampNeg x3)
  else
    if x1 < 0 ∨ 8 ≤ x1.toNatClampNeg then none else
    if x1 < 0 ∨ 8 ≤ x1.toNatClampNeg then none else
    some (x4, zset (zset M b0 t1.toNatClampNeg t2) 78 x1.toNatClampNeg ((zset M b0 t1.toNatClampNeg t2) 78 x1.toNatClampNeg))
set_option maxRecDepth 20000 in
set_option maxHeartbeats 4000000 in
theorem zc_X9_may_73 (x1 : Int32) (x2 : Int32) (x3 : Int32) (x4 : Int32) (t2 : Int32) (t1 : Int32) (b0 : Nat) (m0 : Nat) (M : zM) {r : Int32 × zM} (h : p_X9_may_73 x1 x2 x3 x4 t2 t1 b0 m0 M = some r) : zS Y_X9_may 73 [some (zO 9), some (zI x1), some (zI x2), some (zI x3), some (zI x4)] [zI t2, zI t1, zA b0 m0] M (some r.1, r.2) := by
  rw [p_X9_may_73] at h
  by_cases b73 : t1 < 0 ∨ m0 ≤ t1.toNatClampNeg
  · rw [if_pos b73] at h; cases h
  rw [if_neg b73] at h
  refine zS_iast b73 dX9_may_73 ?_
  refine zS_aload_nO dX9_may_74 rfl rfl ?_
  refine gf_9_3 dX9_may_75 zw_319 ?_
  refine zS_iload_n dX9_may_78 rfl rfl ?_
  refine zS_iload_n dX9_may_79 rfl rfl ?_
  refine zS_iconst (v := (1 : Int32)) dX9_may_80 (by decide) ?_
  refine zS_icmp_ne (tgt := 88) dX9_may_81 (by decide) (fun c81 => ?_) (fun c81 => ?_)
  · rw [if_neg c81] at h
    refine zS_aload_nO dX9_may_88 rfl rfl ?_
    refine gf_9_3 dX9_may_89 zw_319 ?_
    refine zS_iload_n dX9_may_92 rfl rfl ?_
    by_cases b93 : x1 < 0 ∨ 8 ≤ x1.toNatClampNeg
    · rw [if_pos b93] at h; cases h
    rw [if_neg b93] at h
    refine zS_iald b93 dX9_may_93 ?_
    by_cases b94 : x1 < 0 ∨ 8 ≤ x1.toNatClampNeg
    · rw [if_pos b94] at h; cases h
    rw [if_neg b94] at h
    refine zS_iast b94 dX9_may_94 ?_
    refine zS_iload dX9_may_95 rfl ?_
    cases h
    exact zS_ireturn dX9_may_97 rfl rfl
  · rw [if_pos c81] at h
    refine zS_iload_n dX9_may_84 rfl rfl ?_
    refine zS_goto (tgt := 94) dX9_may_85 (by decide) ?_
    by_cases b94 : x1 < 0 ∨ 8 ≤ x1.toNatClampNeg
    · rw [if_pos b94] at h; cases h
    rw [if_neg b94] at h
    refine zS_iast b94 dX9_may_94 ?_
    refine zS_iload dX9_may_95 rfl ?_
    cases h
    exact zS_ireturn dX9_may_97 rfl rfl
def p_X9_may_52 (x1 : Int32) (x2 : Int32) (x3 : Int32) (t0 : Int32) (M : zM) : Option (Int32 × zM) :=
  if x2 = 0 then
    p_X9_may_73 x1 x2 x3 t0 x3 x1 77 8 M
  else
    if x1 < 0 ∨ 8 ≤ x1.toNatClampNeg then none else
    p_X9_may_73 x1 x2 x3 t0 (M 77 x1.toNatClampNeg) x1 77 8 M
set_option maxRecDepth 20000 in
set_option maxHeartbeats 4000000 in
theorem zc_X9_may_52 (x1 : Int32) (x2 : Int32) (x3 : Int32) (t0 : Int32) (M : zM) {r : Int32 × zM} (h : p_X9_may_52 x1 x2 x3 t0 M = some r) : zS Y_X9_may 52 [some (zO 9), some (zI x1), some (zI x2), some (zI x3), none] [zI t0] M (some r.1, r.2) := by
  rw [p_X9_may_52] at h
  refine zS_istore (ls' := [some (zO 9), some (zI x1), some (zI x2), some (zI x3), some (zI t0)]) dX9_may_52 (by decide) rfl rfl ?_
  refine zS_aload_nO dX9_may_54 rfl rfl ?_
  refine gf_9_2 dX9_may_55 zw_320 ?_
  refine zS_iload_n dX9_may_58 rfl rfl ?_
  refine zS_iload_n dX9_may_59 rfl rfl ?_
  refine zS_if_ne (tgt := 67) dX9_may_60 (by decide) (fun c60 => ?_) (fun c60 => ?_)
  · rw [if_neg c60] at h
    refine zS_aload_nO dX9_may_67 rfl rfl ?_
    refine gf_9_2 dX9_may_68 zw_320 ?_
    refine zS_iload_n dX9_may_71 rfl rfl ?_
    by_cases b72 : x1 < 0 ∨ 8 ≤ x1.toNatClampNeg
    · rw [if_pos b72] at h; cases h
    rw [if_neg b72] at h
    refine zS_iald b72 dX9_may_72 ?_
    exact zS_wk [some (zO 9), some (zI x1), some (zI x2), some (zI x3), some (zI t0)] (And.intro rfl (And.intro rfl (And.intro rfl (And.intro rfl (And.intro rfl trivial))))) (zc_X9_may_73 x1 x2 x3 t0 (M 77 x1.toNatClampNeg) x1 77 8 M h)
  · rw [if_pos c60] at h
    refine zS_iload_n dX9_may_63 rfl rfl ?_
    refine zS_goto (tgt := 73) dX9_may_64 (by decide) ?_
    exact zS_wk [some (zO 9), some (zI x1), some (zI x2), some (zI x3), some (zI t0)] (And.intro rfl (And.intro rfl (And.intro rfl (And.intro rfl (And.intro rfl trivial))))) (zc_X9_may_73 x1 x2 x3 t0 x3 x1 77 8 M h)
def p_X9_may (x1 : Int32) (x2 : Int32) (x3 : Int32) (M : zM) : Option (Int32 × zM) :=
  (p_X9_isMovement x1).bind fun r1 =>
  if r1 = 0 then
    some ((-2 : Int32), M)
  else
    (p_X9_in x2 (0 : Int32) (1 : Int32)).bind fun r13 =>
    if r13 = 0 then
      some ((-3 : Int32), M)
    else
      (p_X9_in x3 (0 : Int32) (511 : Int32)).bind fun r24 =>
      if r24 = 0 then
        some ((-3 : Int32), M)
      else
        if x2 = 0 then
          if x1 < 0 ∨ 8 ≤ x1.toNatClampNeg then none else
          p_X9_may_52 x1 x2 x3 (M 77 x1.toNatClampNeg) M
        else
          if x1 < 0 ∨ 8 ≤ x1.toNatClampNeg then none else
          p_X9_may_52 x1 x2 x3 (M 78 x1.toNatClampNeg) M
set_option maxRecDepth 20000 in
set_option maxHeartbeats 4000000 in
theorem zc_X9_may (x1 : Int32) (x2 : Int32) (x3 : Int32) (M : zM) {r : Int32 × zM} (h : p_X9_may x1 x2 x3 M = some r) : zS Y_X9_may 0 [some (zO 9), some (zI x1), some (zI x2), some (zI x3), none] [] M (some r.1, r.2) := by
  rw [p_X9_may] at h
  refine zS_iload_n dX9_may_0 rfl rfl ?_
  obtain ⟨r1, h1, h⟩ := zbind h
  refine zS_callS (as := [zI x1]) (st := []) (ls0 := [some (zI x1)]) dX9_may_1 okY_X9_isMovement rfl rfl zw_317 zw_318 np_X9_isMovement (by decide) (Nat.le_of_ble_eq_true rfl) rfl (Nat.le_of_ble_eq_true rfl) (And.intro rfl trivial) (zc_X9_isMovement x1 M h1) ?_
  refine zS_if_ne (tgt := 10) dX9_may_4 (by decide) (fun c4 => ?_) (fun c4 => ?_)
  · rw [if_neg c4] at h
    refine zS_iload_n dX9_may_10 rfl rfl ?_
    refine zS_iconst (v := (0 : Int32)) dX9_may_11 (by decide) ?_
    refine zS_iconst (v := (1 : Int32)) dX9_may_12 (by decide) ?_
    obtain ⟨r13, h13, h⟩ := zbind h
    refine zS_callS (as := [zI x2, zI (0 : Int32), zI (1 : Int32)]) (st := []) (ls0 := [some (zI x2), some (zI (0 : Int32)), some (zI (1 : Int32))]) dX9_may_13 okY_X9_in rfl rfl zw_310 zw_311 np_X9_in (by decide) (Nat.le_of_ble_eq_true rfl) rfl (Nat.le_of_ble_eq_true rfl) (And.intro rfl (And.intro rfl (And.intro rfl trivial))) (zc_X9_in x2 (0 : Int32) (1 : Int32) M h13) ?_
    refine zS_if_eq (tgt := 30) dX9_may_16 (by decide) (fun c16 => ?_) (fun c16 => ?_)
    · rw [if_pos c16] at h
      refine zS_bipush (v := (-3 : Int32)) dX9_may_30 (by decide) ?_
      cases h
      exact zS_ireturn dX9_may_32 rfl rfl
    · rw [if_neg c16] at h
      refine zS_iload_n dX9_may_19 rfl rfl ?_
      refine zS_iconst (v := (0 : Int32)) dX9_may_20 (by decide) ?_
      refine zS_sipush (v := (511 : Int32)) dX9_may_21 (by decide) ?_
      obtain ⟨r24, h24, h⟩ := zbind h
      refine zS_callS (as := [zI x3, zI (0 : Int32), zI (511 : Int32)]) (st := []) (ls0 := [some (zI x3), some (zI (0 : Int32)), some (zI (511 : Int32))]) dX9_may_24 okY_X9_in rfl rfl zw_310 zw_311 np_X9_in (by decide) (Nat.le_of_ble_eq_true rfl) rfl (Nat.le_of_ble_eq_true rfl) (And.intro rfl (And.intro rfl (And.intro rfl trivial))) (zc_X9_in x3 (0 : Int32) (511 : Int32) M h24) ?_
      refine zS_if_ne (tgt := 33) dX9_may_27 (by decide) (fun c27 => ?_) (fun c27 => ?_)
      · rw [if_neg c27] at h
        refine zS_iload_n dX9_may_33 rfl rfl ?_
        refine zS_if_ne (tgt := 46) dX9_may_34 (by decide) (fun c34 => ?_) (fun c34 => ?_)
        · rw [if_neg c34] at h
          refine zS_aload_nO dX9_may_46 rfl rfl ?_
          refine gf_9_3 dX9_may_47 zw_319 ?_
          refine zS_iload_n dX9_may_50 rfl rfl ?_
          by_cases b51 : x1 < 0 ∨ 8 ≤ x1.toNatClampNeg
          · rw [if_pos b51] at h; cases h
          rw [if_neg b51] at h
          refine zS_iald b51 dX9_may_51 ?_
          exact zS_wk [some (zO 9), some (zI x1), some (zI x2), some (zI x3), none] (And.intro rfl (And.intro rfl (And.intro rfl (And.intro rfl trivial)))) (zc_X9_may_52 x1 x2 x3 (M 78 x1.toNatClampNeg) M h)
        · rw [if_pos c34] at h
          refine zS_aload_nO dX9_may_37 rfl rfl ?_
          refine gf_9_2 dX9_may_38 zw_320 ?_
          refine zS_iload_n dX9_may_41 rfl rfl ?_
          by_cases b42 : x1 < 0 ∨ 8 ≤ x1.toNatClampNeg
          · rw [if_pos b42] at h; cases h
          rw [if_neg b42] at h
          refine zS_iald b42 dX9_may_42 ?_
          refine zS_goto (tgt := 52) dX9_may_43 (by decide) ?_
          exact zS_wk [some (zO 9), some (zI x1), some (zI x2), some (zI x3), none] (And.intro rfl (And.intro rfl (And.intro rfl (And.intro rfl trivial)))) (zc_X9_may_52 x1 x2 x3 (M 77 x1.toNatClampNeg) M h)
      · rw [if_pos c27] at h
        refine zS_bipush (v := (-3 : Int32)) dX9_may_30 (by decide) ?_
        cases h
        exact zS_ireturn dX9_may_32 rfl rfl
  · rw [if_pos c4] at h
    refine zS_bipush (v := (-2 : Int32)) dX9_may_7 (by decide) ?_
    cases h
    exact zS_ireturn dX9_may_9 rfl rfl
def p_X9_beat (x1 : Int32) (M : zM) : Option (Int32 × zM) :=
  (p_X9_in x1 (1 : Int32) (3 : Int32)).bind fun r3 =>
  if r3 = 0 then
    some ((-3 : Int32), M)
  else
    some (M 9 4, zset M 9 4 x1)
set_option maxRecDepth 20000 in
set_option maxHeartbeats 4000000 in
theorem zc_X9_beat (x1 : Int32) (M : zM) {r : Int32 × zM} (h : p_X9_beat x1 M = some r) : zS Y_X9_beat 0 [some (zO 9), some (zI x1), none] [] M (some r.1, r.2) := by
  rw [p_X9_beat] at h
  refine zS_iload_n dX9_beat_0 rfl rfl ?_
  refine zS_iconst (v := (1 : Int32)) dX9_beat_1 (by decide) ?_
  refine zS_iconst (v := (3 : Int32)) dX9_beat_2 (by decide) ?_
  obtain ⟨r3, h3, h⟩ := zbind h
  refine zS_callS (as := [zI x1, zI (1 : Int32), zI (3 : Int32)]) (st := []) (ls0 := [some (zI x1), some (zI (1 : Int32)), some (zI (3 : Int32))]) dX9_beat_3 okY_X9_in rfl rfl zw_310 zw_311 np_X9_in (by decide) (Nat.le_of_ble_eq_true rfl) rfl (Nat.le_of_ble_eq_true rfl) (And.intro rfl (And.intro rfl (And.intro rfl trivial))) (zc_X9_in x1 (1 : Int32) (3 : Int32) M h3) ?_
  refine zS_if_ne (tgt := 12) dX9_beat_6 (by decide) (fun c6 => ?_) (fun c6 => ?_)
  · rw [if_neg c6] at h
    refine zS_aload_nO dX9_beat_12 rfl rfl ?_
    refine gf_9_4 dX9_beat_13 zw_321 ?_
    refine zS_istore_n (ls' := [some (zO 9), some (zI x1), some (zI (M 9 4))]) dX9_beat_16 rfl (by decide) rfl rfl ?_
    refine zS_aload_nO dX9_beat_17 rfl rfl ?_
    refine zS_iload_n dX9_beat_18 rfl rfl ?_
    refine pf_9_4 dX9_beat_19 zw_321 ?_
    refine zS_iload_n dX9_beat_22 rfl rfl ?_
    cases h
    exact zS_ireturn dX9_beat_23 rfl rfl
  · rw [if_pos c6] at h
    refine zS_bipush (v := (-3 : Int32)) dX9_beat_9 (by decide) ?_
    cases h
    exact zS_ireturn dX9_beat_11 rfl rfl
def p_X9_fitsSo_38 (x1 : Int32) (x3 : Int32) (M : zM) : Nat → Int32 → Int32 → Option (Int32)
  | 0, _, _ => none
  | nn + 1, x4, x5 =>
  if x1 < 0 ∨ 8 ≤ x1.toNatClampNeg then none else
  if (M 75 x1.toNatClampNeg) ≤ x5 then
    if x4 = x3 then
      some (0 : Int32)
    else
      some (1 : Int32)
  else
    if ((4 : Int32) * x1) + x5 < 0 ∨ 32 ≤ (((4 : Int32) * x1) + x5).toNatClampNeg then none else
    if (M 76 (((4 : Int32) * x1) + x5).toNatClampNeg) = x4 then
      some (0 : Int32)
    else
      if ((4 : Int32) * x1) + x5 < 0 ∨ 32 ≤ (((4 : Int32) * x1) + x5).toNatClampNeg then none else
      p_X9_fitsSo_38 x1 x3 M nn (M 76 (((4 : Int32) * x1) + x5).toNatClampNeg) (x5 + (1 : Int32))
set_option maxRecDepth 20000 in
set_option maxHeartbeats 4000000 in
theorem zc_X9_fitsSo_38 (x1 : Int32) (x3 : Int32) (M : zM) : ∀ (nn : Nat) (x4 : Int32) (x5 : Int32) (r : Int32), p_X9_fitsSo_38 x1 x3 M nn x4 x5 = some r → zS Y_X9_fitsSo 38 [some (zO 9), some (zI x1), none, some (zI x3), some (zI x4), some (zI x5)] [] M (some r, M) := by
  intro nn
  induction nn with
  | zero => intro x4 x5 r h; cases h
  | succ nn ih =>
  intro x4 x5 r h
  rw [p_X9_fitsSo_38] at h
  refine zS_iload dX9_fitsSo_38 rfl ?_
  refine zS_aload_nO dX9_fitsSo_40 rfl rfl ?_
  refine gf_9_0 dX9_fitsSo_41 zw_314 ?_
  refine zS_iload_n dX9_fitsSo_44 rfl rfl ?_
  by_cases b45 : x1 < 0 ∨ 8 ≤ x1.toNatClampNeg
  · rw [if_pos b45] at h; cases h
  rw [if_neg b45] at h
  refine zS_iald b45 dX9_fitsSo_45 ?_
  refine zS_icmp_ge (tgt := 86) dX9_fitsSo_46 (by decide) (fun c46 => ?_) (fun c46 => ?_)
  · rw [if_pos c46] at h
    refine zS_iload dX9_fitsSo_86 rfl ?_
    refine zS_iload_n dX9_fitsSo_88 rfl rfl ?_
    refine zS_icmp_eq (tgt := 96) dX9_fitsSo_89 (by decide) (fun c89 => ?_) (fun c89 => ?_)
    · rw [if_pos c89] at h
      refine zS_iconst (v := (0 : Int32)) dX9_fitsSo_96 (by decide) ?_
      cases h
      exact zS_ireturn dX9_fitsSo_97 rfl rfl
    · rw [if_neg c89] at h
      refine zS_iconst (v := (1 : Int32)) dX9_fitsSo_92 (by decide) ?_
      refine zS_goto (tgt := 97) dX9_fitsSo_93 (by decide) ?_
      cases h
      exact zS_ireturn dX9_fitsSo_97 rfl rfl
  · rw [if_neg c46] at h
    refine zS_aload_nO dX9_fitsSo_49 rfl rfl ?_
    refine gf_9_1 dX9_fitsSo_50 zw_313 ?_
    refine zS_iconst (v := (4 : Int32)) dX9_fitsSo_53 (by decide) ?_
    refine zS_iload_n dX9_fitsSo_54 rfl rfl ?_
    refine zS_imul dX9_fitsSo_55 ?_
    refine zS_iload dX9_fitsSo_56 rfl ?_
    refine zS_iadd dX9_fitsSo_58 ?_
    by_cases b59 : ((4 : Int32) * x1) + x5 < 0 ∨ 32 ≤ (((4 : Int32) * x1) + x5).toNatClampNeg
    · rw [if_pos b59] at h; cases h
    rw [if_neg b59] at h
    refine zS_iald b59 dX9_fitsSo_59 ?_
    refine zS_iload dX9_fitsSo_60 rfl ?_
    refine zS_icmp_ne (tgt := 67) dX9_fitsSo_62 (by decide) (fun c62 => ?_) (fun c62 => ?_)
    · rw [if_neg c62] at h
      refine zS_aload_nO dX9_fitsSo_67 rfl rfl ?_
      refine gf_9_1 dX9_fitsSo_68 zw_313 ?_
      refine zS_iconst (v := (4 : Int32)) dX9_fitsSo_71 (by decide) ?_
      refine zS_iload_n dX9_fitsSo_72 rfl rfl ?_
      refine zS_imul dX9_fitsSo_73 ?_
      refine zS_iload dX9_fitsSo_74 rfl ?_
      refine zS_iadd dX9_fitsSo_76 ?_
      by_cases b77 : ((4 : Int32) * x1) + x5 < 0 ∨ 32 ≤ (((4 : Int32) * x1) + x5).toNatClampNeg
      · rw [if_pos b77] at h; cases h
      rw [if_neg b77] at h
      refine zS_iald b77 dX9_fitsSo_77 ?_
      refine zS_istore (ls' := [some (zO 9), some (zI x1), none, some (zI x3), some (zI (M 76 (((4 : Int32) * x1) + x5).toNatClampNeg)), some (zI x5)]) dX9_fitsSo_78 (by decide) rfl rfl ?_
      refine zS_iinc (v := x5 + (1 : Int32)) (ls' := [some (zO 9), some (zI x1), none, some (zI x3), some (zI (M 76 (((4 : Int32) * x1) + x5).toNatClampNeg)), some (zI (x5 + (1 : Int32)))]) dX9_fitsSo_80 rfl rfl (by decide) rfl rfl ?_
      refine zS_goto (tgt := 38) dX9_fitsSo_83 (by decide) ?_
      exact zS_wk [some (zO 9), some (zI x1), none, some (zI x3), some (zI (M 76 (((4 : Int32) * x1) + x5).toNatClampNeg)), some (zI (x5 + (1 : Int32)))] (And.intro rfl (And.intro rfl (And.intro rfl (And.intro rfl (And.intro rfl trivial))))) (ih (M 76 (((4 : Int32) * x1) + x5).toNatClampNeg) (x5 + (1 : Int32)) r h)
    · rw [if_pos c62] at h
      refine zS_iconst (v := (0 : Int32)) dX9_fitsSo_65 (by decide) ?_
      cases h
      exact zS_ireturn dX9_fitsSo_66 rfl rfl
def p_X9_fitsSo_17 (x1 : Int32) (x2 : Int32) (x3 : Int32) (M : zM) : Option (Int32) :=
  if x1 < 0 ∨ 8 ≤ x1.toNatClampNeg then none else
  if (((M 78 x1.toNatClampNeg) >>> (x3 &&& 31)) &&& (1 : Int32)) = 0 then
    some (0 : Int32)
  else
    p_X9_fitsSo_38 x1 x3 M 5000 x2 (0 : Int32)
set_option maxRecDepth 20000 in
set_option maxHeartbeats 4000000 in
theorem zc_X9_fitsSo_17 (x1 : Int32) (x2 : Int32) (x3 : Int32) (M : zM) {r : Int32} (h : p_X9_fitsSo_17 x1 x2 x3 M = some r) : zS Y_X9_fitsSo 17 [some (zO 9), some (zI x1), some (zI x2), some (zI x3), none, none] [] M (some r, M) := by
  rw [p_X9_fitsSo_17] at h
  refine zS_aload_nO dX9_fitsSo_17 rfl rfl ?_
  refine gf_9_3 dX9_fitsSo_18 zw_319 ?_
  refine zS_iload_n dX9_fitsSo_21 rfl rfl ?_
  by_cases b22 : x1 < 0 ∨ 8 ≤ x1.toNatClampNeg
  · rw [if_pos b22] at h; cases h
  rw [if_neg b22] at h
  refine zS_iald b22 dX9_fitsSo_22 ?_
  refine zS_iload_n dX9_fitsSo_23 rfl rfl ?_
  refine zS_ishr dX9_fitsSo_24 ?_
  refine zS_iconst (v := (1 : Int32)) dX9_fitsSo_25 (by decide) ?_
  refine zS_iand dX9_fitsSo_26 ?_
  refine zS_if_ne (tgt := 32) dX9_fitsSo_27 (by decide) (fun c27 => ?_) (fun c27 => ?_)
  · rw [if_neg c27] at h
    refine zS_iload_n dX9_fitsSo_32 rfl rfl ?_
    refine zS_istore (ls' := [some (zO 9), some (zI x1), some (zI x2), some (zI x3), some (zI x2), none]) dX9_fitsSo_33 (by decide) rfl rfl ?_
    refine zS_iconst (v := (0 : Int32)) dX9_fitsSo_35 (by decide) ?_
    refine zS_istore (ls' := [some (zO 9), some (zI x1), some (zI x2), some (zI x3), some (zI x2), some (zI (0 : Int32))]) dX9_fitsSo_36 (by decide) rfl rfl ?_
    exact zS_wk [some (zO 9), some (zI x1), none, some (zI x3), some (zI x2), some (zI (0 : Int32))] (And.intro rfl (And.intro rfl (And.intro rfl (And.intro rfl (And.intro rfl trivial))))) (zc_X9_fitsSo_38 x1 x3 M 5000 x2 (0 : Int32) r h)
  · rw [if_pos c27] at h
    refine zS_iconst (v := (0 : Int32)) dX9_fitsSo_30 (by decide) ?_
    cases h
    exact zS_ireturn dX9_fitsSo_31 rfl rfl
def p_X9_fitsSo (x1 : Int32) (x2 : Int32) (x3 : Int32) (M : zM) : Option (Int32) :=
  if x2 < 0 then
    p_X9_fitsSo_17 x1 x2 x3 M
  else
    if x1 < 0 ∨ 8 ≤ x1.toNatClampNeg then none else
    if (((M 77 x1.toNatClampNeg) >>> (x2 &&& 31)) &&& (1 : Int32)) = 0 then
      some (0 : Int32)
    else
      p_X9_fitsSo_17 x1 x2 x3 M
set_option maxRecDepth 20000 in
set_option maxHeartbeats 4000000 in
theorem zc_X9_fitsSo (x1 : Int32) (x2 : Int32) (x3 : Int32) (M : zM) {r : Int32} (h : p_X9_fitsSo x1 x2 x3 M = some r) : zS Y_X9_fitsSo 0 [some (zO 9), some (zI x1), some (zI x2), some (zI x3), none, none] [] M (some r, M) := by
  rw [p_X9_fitsSo] at h
  refine zS_iload_n dX9_fitsSo_0 rfl rfl ?_
  refine zS_if_lt (tgt := 17) dX9_fitsSo_1 (by decide) (fun c1 => ?_) (fun c1 => ?_)
  · rw [if_pos c1] at h
    exact zS_wk [some (zO 9), some (zI x1), some (zI x2), some (zI x3), none, none] (And.intro rfl (And.intro rfl (And.intro rfl (And.intro rfl trivial)))) (zc_X9_fitsSo_17 x1 x2 x3 M h)
  · rw [if_neg c1] at h
    refine zS_aload_nO dX9_fitsSo_4 rfl rfl ?_
    refine gf_9_2 dX9_fitsSo_5 zw_320 ?_
    refine zS_iload_n dX9_fitsSo_8 rfl rfl ?_
    by_cases b9 : x1 < 0 ∨ 8 ≤ x1.toNatClampNeg
    · rw [if_pos b9] at h; cases h
    rw [if_neg b9] at h
    refine zS_iald b9 dX9_fitsSo_9 ?_
    refine zS_iload_n dX9_fitsSo_10 rfl rfl ?_
    refine zS_ishr dX9_fitsSo_11 ?_
    refine zS_iconst (v := (1 : Int32)) dX9_fitsSo_12 (by decide) ?_
    refine zS_iand dX9_fitsSo_13 ?_
    refine zS_if_eq (tgt := 30) dX9_fitsSo_14 (by decide) (fun c14 => ?_) (fun c14 => ?_)
    · rw [if_pos c14] at h
      refine zS_iconst (v := (0 : Int32)) dX9_fitsSo_30 (by decide) ?_
      cases h
      exact zS_ireturn dX9_fitsSo_31 rfl rfl
    · rw [if_neg c14] at h
      exact zS_wk [some (zO 9), some (zI x1), some (zI x2), some (zI x3), none, none] (And.intro rfl (And.intro rfl (And.intro rfl (And.intro rfl trivial)))) (zc_X9_fitsSo_17 x1 x2 x3 M h)
def p_X9_fits (x1 : Int32) (x2 : Int32) (x3 : Int32) (M : zM) : Option (Int32) :=
  (p_X9_isMovement x1).bind fun r1 =>
  if r1 = 0 then
    some (-2 : Int32)
  else
    (p_X9_in x2 (-1 : Int32) (8 : Int32)).bind fun r11 =>
    if r11 = 0 then
      some (-2 : Int32)
    else
      (p_X9_isNote x3).bind fun r18 =>
      if r18 = 0 then
        some (-2 : Int32)
      else
        (p_X9_fitsSo x1 x2 x3 M).bind fun r31 =>
        if r31 = 0 then
          some (0 : Int32)
        else
          some (1 : Int32)
set_option maxRecDepth 20000 in
set_option maxHeartbeats 4000000 in
theorem zc_X9_fits (x1 : Int32) (x2 : Int32) (x3 : Int32) (M : zM) {r : Int32} (h : p_X9_fits x1 x2 x3 M = some r) : zS Y_X9_fits 0 [some (zO 9), some (zI x1), some (zI x2), some (zI x3)] [] M (some r, M) := by
  rw [p_X9_fits] at h
  refine zS_iload_n dX9_fits_0 rfl rfl ?_
  obtain ⟨r1, h1, h⟩ := zbind h
  refine zS_callS (as := [zI x1]) (st := []) (ls0 := [some (zI x1)]) dX9_fits_1 okY_X9_isMovement rfl rfl zw_317 zw_318 np_X9_isMovement (by decide) (Nat.le_of_ble_eq_true rfl) rfl (Nat.le_of_ble_eq_true rfl) (And.intro rfl trivial) (zc_X9_isMovement x1 M h1) ?_
  refine zS_if_eq (tgt := 24) dX9_fits_4 (by decide) (fun c4 => ?_) (fun c4 => ?_)
  · rw [if_pos c4] at h
    refine zS_bipush (v := (-2 : Int32)) dX9_fits_24 (by decide) ?_
    cases h
    exact zS_ireturn dX9_fits_26 rfl rfl
  · rw [if_neg c4] at h
    refine zS_iload_n dX9_fits_7 rfl rfl ?_
    refine zS_iconst (v := (-1 : Int32)) dX9_fits_8 (by decide) ?_
    refine zS_bipush (v := (8 : Int32)) dX9_fits_9 (by decide) ?_
    obtain ⟨r11, h11, h⟩ := zbind h
    refine zS_callS (as := [zI x2, zI (-1 : Int32), zI (8 : Int32)]) (st := []) (ls0 := [some (zI x2), some (zI (-1 : Int32)), some (zI (8 : Int32))]) dX9_fits_11 okY_X9_in rfl rfl zw_310 zw_311 np_X9_in (by decide) (Nat.le_of_ble_eq_true rfl) rfl (Nat.le_of_ble_eq_true rfl) (And.intro rfl (And.intro rfl (And.intro rfl trivial))) (zc_X9_in x2 (-1 : Int32) (8 : Int32) M h11) ?_
    refine zS_if_eq (tgt := 24) dX9_fits_14 (by decide) (fun c14 => ?_) (fun c14 => ?_)
    · rw [if_pos c14] at h
      refine zS_bipush (v := (-2 : Int32)) dX9_fits_24 (by decide) ?_
      cases h
      exact zS_ireturn dX9_fits_26 rfl rfl
    · rw [if_neg c14] at h
      refine zS_iload_n dX9_fits_17 rfl rfl ?_
      obtain ⟨r18, h18, h⟩ := zbind h
      refine zS_callS (as := [zI x3]) (st := []) (ls0 := [some (zI x3)]) dX9_fits_18 okY_X9_isNote rfl rfl zw_315 zw_316 np_X9_isNote (by decide) (Nat.le_of_ble_eq_true rfl) rfl (Nat.le_of_ble_eq_true rfl) (And.intro rfl trivial) (zc_X9_isNote x3 M h18) ?_
      refine zS_if_ne (tgt := 27) dX9_fits_21 (by decide) (fun c21 => ?_) (fun c21 => ?_)
      · rw [if_neg c21] at h
        refine zS_aload_nO dX9_fits_27 rfl rfl ?_
        refine zS_iload_n dX9_fits_28 rfl rfl ?_
        refine zS_iload_n dX9_fits_29 rfl rfl ?_
        refine zS_iload_n dX9_fits_30 rfl rfl ?_
        obtain ⟨r31, h31, h⟩ := zbind h
        refine zS_callV (as := [zI x1, zI x2, zI x3]) (st := []) (ls0 := [some (zO 9), some (zI x1), some (zI x2), some (zI x3), none, none]) dX9_fits_31 okY_X9_fitsSo rfl rfl lay_9 rfl zw_322 zw_323 zw_324 np_X9_fitsSo (by decide) (Nat.le_of_ble_eq_true rfl) rfl (Nat.le_of_ble_eq_true rfl) (And.intro rfl (And.intro rfl (And.intro rfl (And.intro rfl trivial)))) (zc_X9_fitsSo x1 x2 x3 M h31) ?_
        refine zS_if_eq (tgt := 41) dX9_fits_34 (by decide) (fun c34 => ?_) (fun c34 => ?_)
        · rw [if_pos c34] at h
          refine zS_iconst (v := (0 : Int32)) dX9_fits_41 (by decide) ?_
          cases h
          exact zS_ireturn dX9_fits_42 rfl rfl
        · rw [if_neg c34] at h
          refine zS_iconst (v := (1 : Int32)) dX9_fits_37 (by decide) ?_
          refine zS_goto (tgt := 42) dX9_fits_38 (by decide) ?_
          cases h
          exact zS_ireturn dX9_fits_42 rfl rfl
      · rw [if_pos c21] at h
        refine zS_bipush (v := (-2 : Int32)) dX9_fits_24 (by decide) ?_
        cases h
        exact zS_ireturn dX9_fits_26 rfl rfl
def p_X9_step (x1 : Int32) (x2 : Int32) (x3 : Int32) (M : zM) : Option (Int32 × zM) :=
  (p_X9_isNote x1).bind fun r1 =>
  if r1 = 0 then
    some ((-2 : Int32), M)
  else
    (p_X9_in x3 (-1 : Int32) (7 : Int32)).bind fun r11 =>
    if r11 = 0 then
      some ((-2 : Int32), M)
    else
      (p_X9_in x2 (1 : Int32) (9 : Int32)).bind fun r24 =>
      if r24 = 0 then
        some ((-3 : Int32), M)
      else
        if (M 9 5) = (24 : Int32) then
          some ((-5 : Int32), M)
        else
          if M 9 5 < 0 ∨ 24 ≤ (M 9 5).toNatClampNeg then none else
          if (zset M 79 ((M 9 5).toNatClampNeg) x1) 9 5 < 0 ∨ 24 ≤ ((zset M 79 ((M 9 5).toNatClampNeg) x1) 9 5).toNatClampNeg then none else
          if (zset (zset M 79 ((M 9 5).toNatClampNeg) x1) 80 (((zset M 79 ((M 9 5).toNatClampNeg) x1) 9 5).toNatClampNeg) x2) 9 5 < 0 ∨ 24 ≤ ((zset (zset M 79 ((M 9 5).toNatClampNeg) x1) 80 (((zset M 79 ((M 9 5).toNatClampNeg) x1) 9 5).toNatClampNeg) x2) 9 5).toNatClampNeg then none else
          some ((zset (zset (zset (zset M 79 ((M 9 5).toNatClampNeg) x1) 80 (((zset M 79 ((M 9 5).toNatClampNeg) x1) 9 5).toNatClampNeg) x2) 81 (((zset (zset M 79 ((M 9 5).toNatClampNeg) x1) 80 (((zset M 79 ((M 9 5).toNatClampNeg) x1) 9 5).toNatClampNeg) x2) 9 5).toNatClampNeg) x3) 9 5 (((zset (zset (zset M 79 ((M 9 5).toNatClampNeg) x1) 80 (((zset M 79 ((M 9 5).toNatClampNeg) x1) 9 5).toNatClampNeg) x2) 81 (((zset (zset M 79 ((M 9 5).toNatClampNeg) x1) 80 (((zset M 79 ((M 9 5).toNatClampNeg) x1) 9 5).toNatClampNeg) x2) 9 5).toNatClampNeg) x3) 9 5) + (1 : Int32))) 9 5, zset (zset (zset (zset M 79 ((M 9 5).toNatClampNeg) x1) 80 (((zset M 79 ((M 9 5).toNatClampNeg) x1) 9 5).toNatClampNeg) x2) 81 (((zset (zset M 79 ((M 9 5).toNatClampNeg) x1) 80 (((zset M 79 ((M 9 5).toNatClampNeg) x1) 9 5).toNatClampNeg) x2) 9 5).toNatClampNeg) x3) 9 5 (((zset (zset (zset M 79 ((M 9 5).toNatClampNeg) x1) 80 (((zset M 79 ((M 9 5).toNatClampNeg) x1) 9 5).toNatClampNeg) x2) 81 (((zset (zset M 79 ((M 9 5).toNatClampNeg) x1) 80 (((zset M 79 ((M 9 5).toNatClampNeg) x1) 9 5).toNatClampNeg) x2) 9 5).toNatClampNeg) x3) 9 5) + (1 : Int32)))
set_option maxRecDepth 20000 in
set_option maxHeartbeats 4000000 in
theorem zc_X9_step (x1 : Int32) (x2 : Int32) (x3 : Int32) (M : zM) {r : Int32 × zM} (h : p_X9_step x1 x2 x3 M = some r) : zS Y_X9_step 0 [some (zO 9), some (zI x1), some (zI x2), some (zI x3)] [] M (some r.1, r.2) := by
  rw [p_X9_step] at h
  refine zS_iload_n dX9_step_0 rfl rfl ?_
  obtain ⟨r1, h1, h⟩ := zbind h
  refine zS_callS (as := [zI x1]) (st := []) (ls0 := [some (zI x1)]) dX9_step_1 okY_X9_isNote rfl rfl zw_315 zw_316 np_X9_isNote (by decide) (Nat.le_of_ble_eq_true rfl) rfl (Nat.le_of_ble_eq_true rfl) (And.intro rfl trivial) (zc_X9_isNote x1 M h1) ?_
  refine zS_if_eq (tgt := 17) dX9_step_4 (by decide) (fun c4 => ?_) (fun c4 => ?_)
  · rw [if_pos c4] at h
    refine zS_bipush (v := (-2 : Int32)) dX9_step_17 (by decide) ?_
    cases h
    exact zS_ireturn dX9_step_19 rfl rfl
  · rw [if_neg c4] at h
    refine zS_iload_n dX9_step_7 rfl rfl ?_
    refine zS_iconst (v := (-1 : Int32)) dX9_step_8 (by decide) ?_
    refine zS_bipush (v := (7 : Int32)) dX9_step_9 (by decide) ?_
    obtain ⟨r11, h11, h⟩ := zbind h
    refine zS_callS (as := [zI x3, zI (-1 : Int32), zI (7 : Int32)]) (st := []) (ls0 := [some (zI x3), some (zI (-1 : Int32)), some (zI (7 : Int32))]) dX9_step_11 okY_X9_in rfl rfl zw_310 zw_311 np_X9_in (by decide) (Nat.le_of_ble_eq_true rfl) rfl (Nat.le_of_ble_eq_true rfl) (And.intro rfl (And.intro rfl (And.intro rfl trivial))) (zc_X9_in x3 (-1 : Int32) (7 : Int32) M h11) ?_
    refine zS_if_ne (tgt := 20) dX9_step_14 (by decide) (fun c14 => ?_) (fun c14 => ?_)
    · rw [if_neg c14] at h
      refine zS_iload_n dX9_step_20 rfl rfl ?_
      refine zS_iconst (v := (1 : Int32)) dX9_step_21 (by decide) ?_
      refine zS_bipush (v := (9 : Int32)) dX9_step_22 (by decide) ?_
      obtain ⟨r24, h24, h⟩ := zbind h
      refine zS_callS (as := [zI x2, zI (1 : Int32), zI (9 : Int32)]) (st := []) (ls0 := [some (zI x2), some (zI (1 : Int32)), some (zI (9 : Int32))]) dX9_step_24 okY_X9_in rfl rfl zw_310 zw_311 np_X9_in (by decide) (Nat.le_of_ble_eq_true rfl) rfl (Nat.le_of_ble_eq_true rfl) (And.intro rfl (And.intro rfl (And.intro rfl trivial))) (zc_X9_in x2 (1 : Int32) (9 : Int32) M h24) ?_
      refine zS_if_ne (tgt := 33) dX9_step_27 (by decide) (fun c27 => ?_) (fun c27 => ?_)
      · rw [if_neg c27] at h
        refine zS_aload_nO dX9_step_33 rfl rfl ?_
        refine gf_9_5 dX9_step_34 zw_325 ?_
        refine zS_bipush (v := (24 : Int32)) dX9_step_37 (by decide) ?_
        refine zS_icmp_ne (tgt := 45) dX9_step_39 (by decide) (fun c39 => ?_) (fun c39 => ?_)
        · rw [if_neg c39] at h
          refine zS_aload_nO dX9_step_45 rfl rfl ?_
          refine gf_9_6 dX9_step_46 zw_326 ?_
          refine zS_aload_nO dX9_step_49 rfl rfl ?_
          refine gf_9_5 dX9_step_50 zw_325 ?_
          refine zS_iload_n dX9_step_53 rfl rfl ?_
          by_cases b54 : M 9 5 < 0 ∨ 24 ≤ (M 9 5).toNatClampNeg
          · rw [if_pos b54] at h; cases h
          rw [if_neg b54] at h
          refine zS_iast b54 dX9_step_54 ?_
          refine zS_aload_nO dX9_step_55 rfl rfl ?_
          refine gf_9_7 dX9_step_56 zw_327 ?_
          refine zS_aload_nO dX9_step_59 rfl rfl ?_
          refine gf_9_5 dX9_step_60 zw_325 ?_
          refine zS_iload_n dX9_step_63 rfl rfl ?_
          by_cases b64 : (zset M 79 ((M 9 5).toNatClampNeg) x1) 9 5 < 0 ∨ 24 ≤ ((zset M 79 ((M 9 5).toNatClampNeg) x1) 9 5).toNatClampNeg
          · rw [if_pos b64] at h; cases h
          rw [if_neg b64] at h
          refine zS_iast b64 dX9_step_64 ?_
          refine zS_aload_nO dX9_step_65 rfl rfl ?_
          refine gf_9_8 dX9_step_66 zw_328 ?_
          refine zS_aload_nO dX9_step_69 rfl rfl ?_
          refine gf_9_5 dX9_step_70 zw_325 ?_
          refine zS_iload_n dX9_step_73 rfl rfl ?_
          by_cases b74 : (zset (zset M 79 ((M 9 5).toNatClampNeg) x1) 80 (((zset M 79 ((M 9 5).toNatClampNeg) x1) 9 5).toNatClampNeg) x2) 9 5 < 0 ∨ 24 ≤ ((zset (zset M 79 ((M 9 5).toNatClampNeg) x1) 80 (((zset M 79 ((M 9 5).toNatClampNeg) x1) 9 5).toNatClampNeg) x2) 9 5).toNatClampNeg
          · rw [if_pos b74] at h; cases h
          rw [if_neg b74] at h
          refine zS_iast b74 dX9_step_74 ?_
          refine zS_aload_nO dX9_step_75 rfl rfl ?_
          refine zS_dup dX9_step_76 rfl ?_
          refine gf_9_5 dX9_step_77 zw_325 ?_
          refine zS_iconst (v := (1 : Int32)) dX9_step_80 (by decide) ?_
          refine zS_iadd dX9_step_81 ?_
          refine pf_9_5 dX9_step_82 zw_325 ?_
          refine zS_aload_nO dX9_step_85 rfl rfl ?_
          refine gf_9_5 dX9_step_86 zw_325 ?_
          cases h
          exact zS_ireturn dX9_step_89 rfl rfl
        · rw [if_pos c39] at h
          refine zS_bipush (v := (-5 : Int32)) dX9_step_42 (by decide) ?_
          cases h
          exact zS_ireturn dX9_step_44 rfl rfl
      · rw [if_pos c27] at h
        refine zS_bipush (v := (-3 : Int32)) dX9_step_30 (by decide) ?_
        cases h
        exact zS_ireturn dX9_step_32 rfl rfl
    · rw [if_pos c14] at h
      refine zS_bipush (v := (-2 : Int32)) dX9_step_17 (by decide) ?_
      cases h
      exact zS_ireturn dX9_step_19 rfl rfl
def p_X9_put (x1 : Int32) (x2 : Int32) (M : zM) : Option (Int32 × zM) :=
  (p_X9_in x1 (0 : Int32) ((M 9 5) - (1 : Int32))).bind fun r8 =>
  if r8 = 0 then
    some ((-2 : Int32), M)
  else
    (p_X9_in x2 (-1 : Int32) (7 : Int32)).bind fun r18 =>
    if r18 = 0 then
      some ((-2 : Int32), M)
    else
      if x1 < 0 ∨ 24 ≤ x1.toNatClampNeg then none else
      if x1 < 0 ∨ 24 ≤ x1.toNatClampNeg then none else
      some (M 81 x1.toNatClampNeg, zset M 81 x1.toNatClampNeg x2)
set_option maxRecDepth 20000 in
set_option maxHeartbeats 4000000 in
theorem zc_X9_put (x1 : Int32) (x2 : Int32) (M : zM) {r : Int32 × zM} (h : p_X9_put x1 x2 M = some r) : zS Y_X9_put 0 [some (zO 9), some (zI x1), some (zI x2), none] [] M (some r.1, r.2) := by
  rw [p_X9_put] at h
  refine zS_iload_n dX9_put_0 rfl rfl ?_
  refine zS_iconst (v := (0 : Int32)) dX9_put_1 (by decide) ?_
  refine zS_aload_nO dX9_put_2 rfl rfl ?_
  refine gf_9_5 dX9_put_3 zw_325 ?_
  refine zS_iconst (v := (1 : Int32)) dX9_put_6 (by decide) ?_
  refine zS_isub dX9_put_7 ?_
  obtain ⟨r8, h8, h⟩ := zbind h
  refine zS_callS (as := [zI x1, zI (0 : Int32), zI ((M 9 5) - (1 : Int32))]) (st := []) (ls0 := [some (zI x1), some (zI (0 : Int32)), some (zI ((M 9 5) - (1 : Int32)))]) dX9_put_8 okY_X9_in rfl rfl zw_310 zw_311 np_X9_in (by decide) (Nat.le_of_ble_eq_true rfl) rfl (Nat.le_of_ble_eq_true rfl) (And.intro rfl (And.intro rfl (And.intro rfl trivial))) (zc_X9_in x1 (0 : Int32) ((M 9 5) - (1 : Int32)) M h8) ?_
  refine zS_if_eq (tgt := 24) dX9_put_11 (by decide) (fun c11 => ?_) (fun c11 => ?_)
  · rw [if_pos c11] at h
    refine zS_bipush (v := (-2 : Int32)) dX9_put_24 (by decide) ?_
    cases h
    exact zS_ireturn dX9_put_26 rfl rfl
  · rw [if_neg c11] at h
    refine zS_iload_n dX9_put_14 rfl rfl ?_
    refine zS_iconst (v := (-1 : Int32)) dX9_put_15 (by decide) ?_
    refine zS_bipush (v := (7 : Int32)) dX9_put_16 (by decide) ?_
    obtain ⟨r18, h18, h⟩ := zbind h
    refine zS_callS (as := [zI x2, zI (-1 : Int32), zI (7 : Int32)]) (st := []) (ls0 := [some (zI x2), some (zI (-1 : Int32)), some (zI (7 : Int32))]) dX9_put_18 okY_X9_in rfl rfl zw_310 zw_311 np_X9_in (by decide) (Nat.le_of_ble_eq_true rfl) rfl (Nat.le_of_ble_eq_true rfl) (And.intro rfl (And.intro rfl (And.intro rfl trivial))) (zc_X9_in x2 (-1 : Int32) (7 : Int32) M h18) ?_
    refine zS_if_ne (tgt := 27) dX9_put_21 (by decide) (fun c21 => ?_) (fun c21 => ?_)
    · rw [if_neg c21] at h
      refine zS_aload_nO dX9_put_27 rfl rfl ?_
      refine gf_9_8 dX9_put_28 zw_328 ?_
      refine zS_iload_n dX9_put_31 rfl rfl ?_
      by_cases b32 : x1 < 0 ∨ 24 ≤ x1.toNatClampNeg
      · rw [if_pos b32] at h; cases h
      rw [if_neg b32] at h
      refine zS_iald b32 dX9_put_32 ?_
      refine zS_istore_n (ls' := [some (zO 9), some (zI x1), some (zI x2), some (zI (M 81 x1.toNatClampNeg))]) dX9_put_33 rfl (by decide) rfl rfl ?_
      refine zS_aload_nO dX9_put_34 rfl rfl ?_
      refine gf_9_8 dX9_put_35 zw_328 ?_
      refine zS_iload_n dX9_put_38 rfl rfl ?_
      refine zS_iload_n dX9_put_39 rfl rfl ?_
      by_cases b40 : x1 < 0 ∨ 24 ≤ x1.toNatClampNeg
      · rw [if_pos b40] at h; cases h
      rw [if_neg b40] at h
      refine zS_iast b40 dX9_put_40 ?_
      refine zS_iload_n dX9_put_41 rfl rfl ?_
      cases h
      exact zS_ireturn dX9_put_42 rfl rfl
    · rw [if_pos c21] at h
      refine zS_bipush (v := (-2 : Int32)) dX9_put_24 (by decide) ?_
      cases h
      exact zS_ireturn dX9_put_26 rfl rfl
def p_X9_back (M : zM) : Option (Int32 × zM) :=
  if (M 9 5) = 0 then
    some ((-4 : Int32), M)
  else
    some ((zset M 9 5 ((M 9 5) - (1 : Int32))) 9 5, zset M 9 5 ((M 9 5) - (1 : Int32)))
set_option maxRecDepth 20000 in
set_option maxHeartbeats 4000000 in
theorem zc_X9_back (M : zM) {r : Int32 × zM} (h : p_X9_back M = some r) : zS Y_X9_back 0 [some (zO 9)] [] M (some r.1, r.2) := by
  rw [p_X9_back] at h
  refine zS_aload_nO dX9_back_0 rfl rfl ?_
  refine gf_9_5 dX9_back_1 zw_325 ?_
  refine zS_if_ne (tgt := 10) dX9_back_4 (by decide) (fun c4 => ?_) (fun c4 => ?_)
  · rw [if_neg c4] at h
    refine zS_aload_nO dX9_back_10 rfl rfl ?_
    refine zS_dup dX9_back_11 rfl ?_
    refine gf_9_5 dX9_back_12 zw_325 ?_
    refine zS_iconst (v := (1 : Int32)) dX9_back_15 (by decide) ?_
    refine zS_isub dX9_back_16 ?_
    refine pf_9_5 dX9_back_17 zw_325 ?_
    refine zS_aload_nO dX9_back_20 rfl rfl ?_
    refine gf_9_5 dX9_back_21 zw_325 ?_
    cases h
    exact zS_ireturn dX9_back_24 rfl rfl
  · rw [if_pos c4] at h
    refine zS_bipush (v := (-4 : Int32)) dX9_back_7 (by decide) ?_
    cases h
    exact zS_ireturn dX9_back_9 rfl rfl
def p_X9_holds_18 (x1 : Int32) (x2 : Int32) (t2 : Int32) (t1 : Int32) (M : zM) : Option (Int32) :=
  if x1 < 0 ∨ 24 ≤ x1.toNatClampNeg then none else
  (p_X9_fitsSo t1 t2 (M 79 x1.toNatClampNeg) M).bind fun r24 =>
  if r24 = 0 then
    some (0 : Int32)
  else
    if x1 < 0 ∨ 24 ≤ x1.toNatClampNeg then none else
    if x2 < 0 ∨ 8 ≤ x2.toNatClampNeg then none else
    if (M 80 x1.toNatClampNeg) ≤ ((M 9 4) * (M 75 x2.toNatClampNeg)) then
      some (0 : Int32)
    else
      some (1 : Int32)
set_option maxRecDepth 20000 in
set_option maxHeartbeats 4000000 in
theorem zc_X9_holds_18 (x1 : Int32) (x2 : Int32) (t2 : Int32) (t1 : Int32) (M : zM) {r : Int32} (h : p_X9_holds_18 x1 x2 t2 t1 M = some r) : zS Y_X9_holds 18 [some (zO 9), some (zI x1), some (zI x2)] [zI t2, zI t1, zO 9] M (some r, M) := by
  rw [p_X9_holds_18] at h
  refine zS_aload_nO dX9_holds_18 rfl rfl ?_
  refine gf_9_6 dX9_holds_19 zw_326 ?_
  refine zS_iload_n dX9_holds_22 rfl rfl ?_
  by_cases b23 : x1 < 0 ∨ 24 ≤ x1.toNatClampNeg
  · rw [if_pos b23] at h; cases h
  rw [if_neg b23] at h
  refine zS_iald b23 dX9_holds_23 ?_
  obtain ⟨r24, h24, h⟩ := zbind h
  refine zS_callV (as := [zI t1, zI t2, zI (M 79 x1.toNatClampNeg)]) (st := []) (ls0 := [some (zO 9), some (zI t1), some (zI t2), some (zI (M 79 x1.toNatClampNeg)), none, none]) dX9_holds_24 okY_X9_fitsSo rfl rfl lay_9 rfl zw_322 zw_323 zw_324 np_X9_fitsSo (by decide) (Nat.le_of_ble_eq_true rfl) rfl (Nat.le_of_ble_eq_true rfl) (And.intro rfl (And.intro rfl (And.intro rfl (And.intro rfl trivial)))) (zc_X9_fitsSo t1 t2 (M 79 x1.toNatClampNeg) M h24) ?_
  refine zS_if_eq (tgt := 54) dX9_holds_27 (by decide) (fun c27 => ?_) (fun c27 => ?_)
  · rw [if_pos c27] at h
    refine zS_iconst (v := (0 : Int32)) dX9_holds_54 (by decide) ?_
    cases h
    exact zS_ireturn dX9_holds_55 rfl rfl
  · rw [if_neg c27] at h
    refine zS_aload_nO dX9_holds_30 rfl rfl ?_
    refine gf_9_7 dX9_holds_31 zw_327 ?_
    refine zS_iload_n dX9_holds_34 rfl rfl ?_
    by_cases b35 : x1 < 0 ∨ 24 ≤ x1.toNatClampNeg
    · rw [if_pos b35] at h; cases h
    rw [if_neg b35] at h
    refine zS_iald b35 dX9_holds_35 ?_
    refine zS_aload_nO dX9_holds_36 rfl rfl ?_
    refine gf_9_4 dX9_holds_37 zw_321 ?_
    refine zS_aload_nO dX9_holds_40 rfl rfl ?_
    refine gf_9_0 dX9_holds_41 zw_314 ?_
    refine zS_iload_n dX9_holds_44 rfl rfl ?_
    by_cases b45 : x2 < 0 ∨ 8 ≤ x2.toNatClampNeg
    · rw [if_pos b45] at h; cases h
    rw [if_neg b45] at h
    refine zS_iald b45 dX9_holds_45 ?_
    refine zS_imul dX9_holds_46 ?_
    refine zS_icmp_le (tgt := 54) dX9_holds_47 (by decide) (fun c47 => ?_) (fun c47 => ?_)
    · rw [if_pos c47] at h
      refine zS_iconst (v := (0 : Int32)) dX9_holds_54 (by decide) ?_
      cases h
      exact zS_ireturn dX9_holds_55 rfl rfl
    · rw [if_neg c47] at h
      refine zS_iconst (v := (1 : Int32)) dX9_holds_50 (by decide) ?_
      refine zS_goto (tgt := 55) dX9_holds_51 (by decide) ?_
      cases h
      exact zS_ireturn dX9_holds_55 rfl rfl
def p_X9_holds (x1 : Int32) (x2 : Int32) (M : zM) : Option (Int32) :=
  if x1 = 0 then
    p_X9_holds_18 x1 x2 (-1 : Int32) x2 M
  else
    if x1 - (1 : Int32) < 0 ∨ 24 ≤ (x1 - (1 : Int32)).toNatClampNeg then none else
    p_X9_holds_18 x1 x2 (M 79 (x1 - (1 : Int32)).toNatClampNeg) x2 M
set_option maxRecDepth 20000 in
set_option maxHeartbeats 4000000 in
theorem zc_X9_holds (x1 : Int32) (x2 : Int32) (M : zM) {r : Int32} (h : p_X9_holds x1 x2 M = some r) : zS Y_X9_holds 0 [some (zO 9), some (zI x1), some (zI x2)] [] M (some r, M) := by
  rw [p_X9_holds] at h
  refine zS_aload_nO dX9_holds_0 rfl rfl ?_
  refine zS_iload_n dX9_holds_1 rfl rfl ?_
  refine zS_iload_n dX9_holds_2 rfl rfl ?_
  refine zS_if_ne (tgt := 10) dX9_holds_3 (by decide) (fun c3 => ?_) (fun c3 => ?_)
  · rw [if_neg c3] at h
    refine zS_aload_nO dX9_holds_10 rfl rfl ?_
    refine gf_9_6 dX9_holds_11 zw_326 ?_
    refine zS_iload_n dX9_holds_14 rfl rfl ?_
    refine zS_iconst (v := (1 : Int32)) dX9_holds_15 (by decide) ?_
    refine zS_isub dX9_holds_16 ?_
    by_cases b17 : x1 - (1 : Int32) < 0 ∨ 24 ≤ (x1 - (1 : Int32)).toNatClampNeg
    · rw [if_pos b17] at h; cases h
    rw [if_neg b17] at h
    refine zS_iald b17 dX9_holds_17 ?_
    exact zS_wk [some (zO 9), some (zI x1), some (zI x2)] (And.intro rfl (And.intro rfl (And.intro rfl trivial))) (zc_X9_holds_18 x1 x2 (M 79 (x1 - (1 : Int32)).toNatClampNeg) x2 M h)
  · rw [if_pos c3] at h
    refine zS_iconst (v := (-1 : Int32)) dX9_holds_6 (by decide) ?_
    refine zS_goto (tgt := 18) dX9_holds_7 (by decide) ?_
    exact zS_wk [some (zO 9), some (zI x1), some (zI x2)] (And.intro rfl (And.intro rfl (And.intro rfl trivial))) (zc_X9_holds_18 x1 x2 (-1 : Int32) x2 M h)
def p_X9_wrong_2 (M : zM) : Nat → Int32 → Option (Int32)
  | 0, _ => none
  | nn + 1, x1 =>
  if (M 9 5) ≤ x1 then
    some (-1 : Int32)
  else
    if x1 < 0 ∨ 24 ≤ x1.toNatClampNeg then none else
    if (M 81 x1.toNatClampNeg) = (-1 : Int32) then
      p_X9_wrong_2 M nn (x1 + (1 : Int32))
    else
      if x1 < 0 ∨ 24 ≤ x1.toNatClampNeg then none else
      (p_X9_holds x1 (M 81 x1.toNatClampNeg) M).bind fun r28 =>
      if r28 = 0 then
        some x1
      else
        p_X9_wrong_2 M nn (x1 + (1 : Int32))
set_option maxRecDepth 20000 in
set_option maxHeartbeats 4000000 in
theorem zc_X9_wrong_2 (M : zM) : ∀ (nn : Nat) (x1 : Int32) (r : Int32), p_X9_wrong_2 M nn x1 = some r → zS Y_X9_wrong 2 [some (zO 9), some (zI x1)] [] M (some r, M) := by
  intro nn
  induction nn with
  | zero => intro x1 r h; cases h
  | succ nn ih =>
  intro x1 r h
  rw [p_X9_wrong_2] at h
  refine zS_iload_n dX9_wrong_2 rfl rfl ?_
  refine zS_aload_nO dX9_wrong_3 rfl rfl ?_
  refine gf_9_5 dX9_wrong_4 zw_325 ?_
  refine zS_icmp_ge (tgt := 42) dX9_wrong_7 (by decide) (fun c7 => ?_) (fun c7 => ?_)
  · rw [if_pos c7] at h
    refine zS_iconst (v := (-1 : Int32)) dX9_wrong_42 (by decide) ?_
    cases h
    exact zS_ireturn dX9_wrong_43 rfl rfl
  · rw [if_neg c7] at h
    refine zS_aload_nO dX9_wrong_10 rfl rfl ?_
    refine gf_9_8 dX9_wrong_11 zw_328 ?_
    refine zS_iload_n dX9_wrong_14 rfl rfl ?_
    by_cases b15 : x1 < 0 ∨ 24 ≤ x1.toNatClampNeg
    · rw [if_pos b15] at h; cases h
    rw [if_neg b15] at h
    refine zS_iald b15 dX9_wrong_15 ?_
    refine zS_iconst (v := (-1 : Int32)) dX9_wrong_16 (by decide) ?_
    refine zS_icmp_eq (tgt := 36) dX9_wrong_17 (by decide) (fun c17 => ?_) (fun c17 => ?_)
    · rw [if_pos c17] at h
      refine zS_iinc (v := x1 + (1 : Int32)) (ls' := [some (zO 9), some (zI (x1 + (1 : Int32)))]) dX9_wrong_36 rfl rfl (by decide) rfl rfl ?_
      refine zS_goto (tgt := 2) dX9_wrong_39 (by decide) ?_
      exact zS_wk [some (zO 9), some (zI (x1 + (1 : Int32)))] (And.intro rfl (And.intro rfl trivial)) (ih (x1 + (1 : Int32)) r h)
    · rw [if_neg c17] at h
      refine zS_aload_nO dX9_wrong_20 rfl rfl ?_
      refine zS_iload_n dX9_wrong_21 rfl rfl ?_
      refine zS_aload_nO dX9_wrong_22 rfl rfl ?_
      refine gf_9_8 dX9_wrong_23 zw_328 ?_
      refine zS_iload_n dX9_wrong_26 rfl rfl ?_
      by_cases b27 : x1 < 0 ∨ 24 ≤ x1.toNatClampNeg
      · rw [if_pos b27] at h; cases h
      rw [if_neg b27] at h
      refine zS_iald b27 dX9_wrong_27 ?_
      obtain ⟨r28, h28, h⟩ := zbind h
      refine zS_callV (as := [zI x1, zI (M 81 x1.toNatClampNeg)]) (st := []) (ls0 := [some (zO 9), some (zI x1), some (zI (M 81 x1.toNatClampNeg))]) dX9_wrong_28 okY_X9_holds rfl rfl lay_9 rfl zw_329 zw_330 zw_331 np_X9_holds (by decide) (Nat.le_of_ble_eq_true rfl) rfl (Nat.le_of_ble_eq_true rfl) (And.intro rfl (And.intro rfl (And.intro rfl trivial))) (zc_X9_holds x1 (M 81 x1.toNatClampNeg) M h28) ?_
      refine zS_if_ne (tgt := 36) dX9_wrong_31 (by decide) (fun c31 => ?_) (fun c31 => ?_)
      · rw [if_neg c31] at h
        refine zS_iinc (v := x1 + (1 : Int32)) (ls' := [some (zO 9), some (zI (x1 + (1 : Int32)))]) dX9_wrong_36 rfl rfl (by decide) rfl rfl ?_
        refine zS_goto (tgt := 2) dX9_wrong_39 (by decide) ?_
        exact zS_wk [some (zO 9), some (zI (x1 + (1 : Int32)))] (And.intro rfl (And.intro rfl trivial)) (ih (x1 + (1 : Int32)) r h)
      · rw [if_pos c31] at h
        refine zS_iload_n dX9_wrong_34 rfl rfl ?_
        cases h
        exact zS_ireturn dX9_wrong_35 rfl rfl
def p_X9_wrong (M : zM) : Option (Int32) :=
  p_X9_wrong_2 M 5000 (0 : Int32)
set_option maxRecDepth 20000 in
set_option maxHeartbeats 4000000 in
theorem zc_X9_wrong (M : zM) {r : Int32} (h : p_X9_wrong M = some r) : zS Y_X9_wrong 0 [some (zO 9), none] [] M (some r, M) := by
  rw [p_X9_wrong] at h
  refine zS_iconst (v := (0 : Int32)) dX9_wrong_0 (by decide) ?_
  refine zS_istore_n (ls' := [some (zO 9), some (zI (0 : Int32))]) dX9_wrong_1 rfl (by decide) rfl rfl ?_
  exact zS_wk [some (zO 9), some (zI (0 : Int32))] (And.intro rfl (And.intro rfl trivial)) (zc_X9_wrong_2 M 5000 (0 : Int32) r h)
def p_X9_fillings_40 (k16 : Int64 → Int32 → Option (Int32)) (x1 : Int64) (x3 : Int32) (M : zM) : Nat → Int32 → Int32 → Option (Int32)
  | 0, _, _ => none
  | nn + 1, x4, x5 =>
  if (8 : Int32) ≤ x5 then
    if (lg_cmp (x1 * x4.toInt64) (1000001 : Int64)) ≤ 0 then
      k16 (x1 * x4.toInt64) (x3 + (1 : Int32))
    else
      k16 (1000001 : Int64) (x3 + (1 : Int32))
  else
    (p_X9_holds x3 x5 M).bind fun r53 =>
    if r53 = 0 then
      p_X9_fillings_40 k16 x1 x3 M nn (x4 + (0 : Int32)) (x5 + (1 : Int32))
    else
      p_X9_fillings_40 k16 x1 x3 M nn (x4 + (1 : Int32)) (x5 + (1 : Int32))
set_option maxRecDepth 20000 in
set_option maxHeartbeats 4000000 in
theorem zc_X9_fillings_40 {k16 : Int64 → Int32 → Option (Int32)} (x1 : Int64) (x3 : Int32) (M : zM) (hk16 : ∀ (x1 : Int64) (x3 : Int32) (r : Int32), k16 x1 x3 = some r → zS Y_X9_fillings 16 [some (zO 9), some (zL x1), none, some (zI x3), none, none] [] M (some r, M)) : ∀ (nn : Nat) (x4 : Int32) (x5 : Int32) (r : Int32), p_X9_fillings_40 k16 x1 x3 M nn x4 x5 = some r → zS Y_X9_fillings 40 [some (zO 9), some (zL x1), none, some (zI x3), some (zI x4), some (zI x5)] [] M (some r, M) := by
  intro nn
  induction nn with
  | zero => intro x4 x5 r h; cases h
  | succ nn ih =>
  intro x4 x5 r h
  rw [p_X9_fillings_40] at h
  refine zS_iload dX9_fillings_40 rfl ?_
  refine zS_bipush (v := (8 : Int32)) dX9_fillings_42 (by decide) ?_
  refine zS_icmp_ge (tgt := 73) dX9_fillings_44 (by decide) (fun c44 => ?_) (fun c44 => ?_)
  · rw [if_pos c44] at h
    refine zS_lload_n dX9_fillings_73 rfl rfl ?_
    refine zS_iload dX9_fillings_74 rfl ?_
    refine zS_i2l dX9_fillings_76 ?_
    refine zS_lmul dX9_fillings_77 ?_
    refine zS_lstore_n (ls' := [some (zO 9), some (zL (x1 * x4.toInt64)), none, some (zI x3), some (zI x4), some (zI x5)]) dX9_fillings_78 rfl (by decide) rfl rfl ?_
    refine zS_lload_n dX9_fillings_79 rfl rfl ?_
    refine zS_ldc2 (v := (1000001 : Int64)) dX9_fillings_80 zw_332 ?_
    refine zS_lcmp dX9_fillings_83 ?_
    refine zS_if_le (tgt := 93) dX9_fillings_84 (by decide) (fun c84 => ?_) (fun c84 => ?_)
    · rw [if_pos c84] at h
      refine zS_lload_n dX9_fillings_93 rfl rfl ?_
      refine zS_lstore_n (ls' := [some (zO 9), some (zL (x1 * x4.toInt64)), none, some (zI x3), some (zI x4), some (zI x5)]) dX9_fillings_94 rfl (by decide) rfl rfl ?_
      refine zS_iinc (v := x3 + (1 : Int32)) (ls' := [some (zO 9), some (zL (x1 * x4.toInt64)), none, some (zI (x3 + (1 : Int32))), some (zI x4), some (zI x5)]) dX9_fillings_95 rfl rfl (by decide) rfl rfl ?_
      refine zS_goto (tgt := 16) dX9_fillings_98 (by decide) ?_
      exact zS_wk [some (zO 9), some (zL (x1 * x4.toInt64)), none, some (zI (x3 + (1 : Int32))), none, none] (And.intro rfl (And.intro rfl (And.intro rfl trivial))) (hk16 (x1 * x4.toInt64) (x3 + (1 : Int32)) r h)
    · rw [if_neg c84] at h
      refine zS_ldc2 (v := (1000001 : Int64)) dX9_fillings_87 zw_332 ?_
      refine zS_goto (tgt := 94) dX9_fillings_90 (by decide) ?_
      refine zS_lstore_n (ls' := [some (zO 9), some (zL (1000001 : Int64)), none, some (zI x3), some (zI x4), some (zI x5)]) dX9_fillings_94 rfl (by decide) rfl rfl ?_
      refine zS_iinc (v := x3 + (1 : Int32)) (ls' := [some (zO 9), some (zL (1000001 : Int64)), none, some (zI (x3 + (1 : Int32))), some (zI x4), some (zI x5)]) dX9_fillings_95 rfl rfl (by decide) rfl rfl ?_
      refine zS_goto (tgt := 16) dX9_fillings_98 (by decide) ?_
      exact zS_wk [some (zO 9), some (zL (1000001 : Int64)), none, some (zI (x3 + (1 : Int32))), none, none] (And.intro rfl (And.intro rfl (And.intro rfl trivial))) (hk16 (1000001 : Int64) (x3 + (1 : Int32)) r h)
  · rw [if_neg c44] at h
    refine zS_iload dX9_fillings_47 rfl ?_
    refine zS_aload_nO dX9_fillings_49 rfl rfl ?_
    refine zS_iload_n dX9_fillings_50 rfl rfl ?_
    refine zS_iload dX9_fillings_51 rfl ?_
    obtain ⟨r53, h53, h⟩ := zbind h
    refine zS_callV (as := [zI x3, zI x5]) (st := [zI x4]) (ls0 := [some (zO 9), some (zI x3), some (zI x5)]) dX9_fillings_53 okY_X9_holds rfl rfl lay_9 rfl zw_329 zw_330 zw_331 np_X9_holds (by decide) (Nat.le_of_ble_eq_true rfl) rfl (Nat.le_of_ble_eq_true rfl) (And.intro rfl (And.intro rfl (And.intro rfl trivial))) (zc_X9_holds x3 x5 M h53) ?_
    refine zS_if_eq (tgt := 63) dX9_fillings_56 (by decide) (fun c56 => ?_) (fun c56 => ?_)
    · rw [if_pos c56] at h
      refine zS_iconst (v := (0 : Int32)) dX9_fillings_63 (by decide) ?_
      refine zS_iadd dX9_fillings_64 ?_
      refine zS_istore (ls' := [some (zO 9), some (zL x1), none, some (zI x3), some (zI (x4 + (0 : Int32))), some (zI x5)]) dX9_fillings_65 (by decide) rfl rfl ?_
      refine zS_iinc (v := x5 + (1 : Int32)) (ls' := [some (zO 9), some (zL x1), none, some (zI x3), some (zI (x4 + (0 : Int32))), some (zI (x5 + (1 : Int32)))]) dX9_fillings_67 rfl rfl (by decide) rfl rfl ?_
      refine zS_goto (tgt := 40) dX9_fillings_70 (by decide) ?_
      exact zS_wk [some (zO 9), some (zL x1), none, some (zI x3), some (zI (x4 + (0 : Int32))), some (zI (x5 + (1 : Int32)))] (And.intro rfl (And.intro rfl (And.intro rfl (And.intro rfl (And.intro rfl trivial))))) (ih (x4 + (0 : Int32)) (x5 + (1 : Int32)) r h)
    · rw [if_neg c56] at h
      refine zS_iconst (v := (1 : Int32)) dX9_fillings_59 (by decide) ?_
      refine zS_goto (tgt := 64) dX9_fillings_60 (by decide) ?_
      refine zS_iadd dX9_fillings_64 ?_
      refine zS_istore (ls' := [some (zO 9), some (zL x1), none, some (zI x3), some (zI (x4 + (1 : Int32))), some (zI x5)]) dX9_fillings_65 (by decide) rfl rfl ?_
      refine zS_iinc (v := x5 + (1 : Int32)) (ls' := [some (zO 9), some (zL x1), none, some (zI x3), some (zI (x4 + (1 : Int32))), some (zI (x5 + (1 : Int32)))]) dX9_fillings_67 rfl rfl (by decide) rfl rfl ?_
      refine zS_goto (tgt := 40) dX9_fillings_70 (by decide) ?_
      exact zS_wk [some (zO 9), some (zL x1), none, some (zI x3), some (zI (x4 + (1 : Int32))), some (zI (x5 + (1 : Int32)))] (And.intro rfl (And.intro rfl (And.intro rfl (And.intro rfl (And.intro rfl trivial))))) (ih (x4 + (1 : Int32)) (x5 + (1 : Int32)) r h)
def p_X9_fillings_16 (M : zM) : Nat → Int64 → Int32 → Option (Int32)
  | 0, _, _ => none
  | nn + 1, x1, x3 =>
  if (M 9 5) ≤ x3 then
    some x1.toInt32
  else
    if x3 < 0 ∨ 24 ≤ x3.toNatClampNeg then none else
    if (M 81 x3.toNatClampNeg) = (-1 : Int32) then
      p_X9_fillings_40 (p_X9_fillings_16 M nn) x1 x3 M 5000 (0 : Int32) (0 : Int32)
    else
      p_X9_fillings_16 M nn x1 (x3 + (1 : Int32))
set_option maxRecDepth 20000 in
set_option maxHeartbeats 4000000 in
theorem zc_X9_fillings_16 (M : zM) : ∀ (nn : Nat) (x1 : Int64) (x3 : Int32) (r : Int32), p_X9_fillings_16 M nn x1 x3 = some r → zS Y_X9_fillings 16 [some (zO 9), some (zL x1), none, some (zI x3), none, none] [] M (some r, M) := by
  intro nn
  induction nn with
  | zero => intro x1 x3 r h; cases h
  | succ nn ih =>
  intro x1 x3 r h
  rw [p_X9_fillings_16] at h
  refine zS_iload_n dX9_fillings_16 rfl rfl ?_
  refine zS_aload_nO dX9_fillings_17 rfl rfl ?_
  refine gf_9_5 dX9_fillings_18 zw_325 ?_
  refine zS_icmp_ge (tgt := 101) dX9_fillings_21 (by decide) (fun c21 => ?_) (fun c21 => ?_)
  · rw [if_pos c21] at h
    refine zS_lload_n dX9_fillings_101 rfl rfl ?_
    refine zS_l2i dX9_fillings_102 ?_
    cases h
    exact zS_ireturn dX9_fillings_103 rfl rfl
  · rw [if_neg c21] at h
    refine zS_aload_nO dX9_fillings_24 rfl rfl ?_
    refine gf_9_8 dX9_fillings_25 zw_328 ?_
    refine zS_iload_n dX9_fillings_28 rfl rfl ?_
    by_cases b29 : x3 < 0 ∨ 24 ≤ x3.toNatClampNeg
    · rw [if_pos b29] at h; cases h
    rw [if_neg b29] at h
    refine zS_iald b29 dX9_fillings_29 ?_
    refine zS_iconst (v := (-1 : Int32)) dX9_fillings_30 (by decide) ?_
    refine zS_icmp_ne (tgt := 95) dX9_fillings_31 (by decide) (fun c31 => ?_) (fun c31 => ?_)
    · rw [if_neg c31] at h
      refine zS_iinc (v := x3 + (1 : Int32)) (ls' := [some (zO 9), some (zL x1), none, some (zI (x3 + (1 : Int32))), none, none]) dX9_fillings_95 rfl rfl (by decide) rfl rfl ?_
      refine zS_goto (tgt := 16) dX9_fillings_98 (by decide) ?_
      exact zS_wk [some (zO 9), some (zL x1), none, some (zI (x3 + (1 : Int32))), none, none] (And.intro rfl (And.intro rfl (And.intro rfl trivial))) (ih x1 (x3 + (1 : Int32)) r h)
    · rw [if_pos c31] at h
      refine zS_iconst (v := (0 : Int32)) dX9_fillings_34 (by decide) ?_
      refine zS_istore (ls' := [some (zO 9), some (zL x1), none, some (zI x3), some (zI (0 : Int32)), none]) dX9_fillings_35 (by decide) rfl rfl ?_
      refine zS_iconst (v := (0 : Int32)) dX9_fillings_37 (by decide) ?_
      refine zS_istore (ls' := [some (zO 9), some (zL x1), none, some (zI x3), some (zI (0 : Int32)), some (zI (0 : Int32))]) dX9_fillings_38 (by decide) rfl rfl ?_
      exact zS_wk [some (zO 9), some (zL x1), none, some (zI x3), some (zI (0 : Int32)), some (zI (0 : Int32))] (And.intro rfl (And.intro rfl (And.intro rfl (And.intro rfl (And.intro rfl trivial))))) (zc_X9_fillings_40 x1 x3 M ih 5000 (0 : Int32) (0 : Int32) r h)
def p_X9_fillings (M : zM) : Option (Int32) :=
  (p_X9_wrong M).bind fun r1 =>
  if r1 = (-1 : Int32) then
    p_X9_fillings_16 M 5000 (1 : Int64) (0 : Int32)
  else
    p_X9_fillings_16 M 5000 (0 : Int64) (0 : Int32)
set_option maxRecDepth 20000 in
set_option maxHeartbeats 4000000 in
theorem zc_X9_fillings (M : zM) {r : Int32} (h : p_X9_fillings M = some r) : zS Y_X9_fillings 0 [some (zO 9), none, none, none, none, none] [] M (some r, M) := by
  rw [p_X9_fillings] at h
  refine zS_aload_nO dX9_fillings_0 rfl rfl ?_
  obtain ⟨r1, h1, h⟩ := zbind h
  refine zS_callV (as := []) (st := []) (ls0 := [some (zO 9), none]) dX9_fillings_1 okY_X9_wrong rfl rfl lay_9 rfl zw_333 zw_334 zw_335 np_X9_wrong (by decide) (Nat.le_of_ble_eq_true rfl) rfl (Nat.le_of_ble_eq_true rfl) (And.intro rfl trivial) (zc_X9_wrong M h1) ?_
  refine zS_iconst (v := (-1 : Int32)) dX9_fillings_4 (by decide) ?_
  refine zS_icmp_ne (tgt := 12) dX9_fillings_5 (by decide) (fun c5 => ?_) (fun c5 => ?_)
  · rw [if_neg c5] at h
    refine zS_lconst (v := (0 : Int64)) dX9_fillings_12 (by decide) ?_
    refine zS_lstore_n (ls' := [some (zO 9), some (zL (0 : Int64)), none, none, none, none]) dX9_fillings_13 rfl (by decide) rfl rfl ?_
    refine zS_iconst (v := (0 : Int32)) dX9_fillings_14 (by decide) ?_
    refine zS_istore_n (ls' := [some (zO 9), some (zL (0 : Int64)), none, some (zI (0 : Int32)), none, none]) dX9_fillings_15 rfl (by decide) rfl rfl ?_
    exact zS_wk [some (zO 9), some (zL (0 : Int64)), none, some (zI (0 : Int32)), none, none] (And.intro rfl (And.intro rfl (And.intro rfl trivial))) (zc_X9_fillings_16 M 5000 (0 : Int64) (0 : Int32) r h)
  · rw [if_pos c5] at h
    refine zS_lconst (v := (1 : Int64)) dX9_fillings_8 (by decide) ?_
    refine zS_goto (tgt := 13) dX9_fillings_9 (by decide) ?_
    refine zS_lstore_n (ls' := [some (zO 9), some (zL (1 : Int64)), none, none, none, none]) dX9_fillings_13 rfl (by decide) rfl rfl ?_
    refine zS_iconst (v := (0 : Int32)) dX9_fillings_14 (by decide) ?_
    refine zS_istore_n (ls' := [some (zO 9), some (zL (1 : Int64)), none, some (zI (0 : Int32)), none, none]) dX9_fillings_15 rfl (by decide) rfl rfl ?_
    exact zS_wk [some (zO 9), some (zL (1 : Int64)), none, some (zI (0 : Int32)), none, none] (And.intro rfl (And.intro rfl (And.intro rfl trivial))) (zc_X9_fillings_16 M 5000 (1 : Int64) (0 : Int32) r h)
def p_X9_quickestOf_21 (x1 : Int32) (M : zM) : Nat → Int32 → Int32 → Option (Int32)
  | 0, _, _ => none
  | nn + 1, x2, x3 =>
  if (8 : Int32) ≤ x3 then
    some x2
  else
    (p_X9_holds x1 x3 M).bind fun r30 =>
    if r30 = 0 then
      p_X9_quickestOf_21 x1 M nn x2 (x3 + (1 : Int32))
    else
      if x2 = (-1 : Int32) then
        p_X9_quickestOf_21 x1 M nn x3 (x3 + (1 : Int32))
      else
        if x3 < 0 ∨ 8 ≤ x3.toNatClampNeg then none else
        if x2 < 0 ∨ 8 ≤ x2.toNatClampNeg then none else
        if (M 75 x2.toNatClampNeg) ≤ (M 75 x3.toNatClampNeg) then
          p_X9_quickestOf_21 x1 M nn x2 (x3 + (1 : Int32))
        else
          p_X9_quickestOf_21 x1 M nn x3 (x3 + (1 : Int32))
set_option maxRecDepth 20000 in
set_option maxHeartbeats 4000000 in
theorem zc_X9_quickestOf_21 (x1 : Int32) (M : zM) : ∀ (nn : Nat) (x2 : Int32) (x3 : Int32) (r : Int32), p_X9_quickestOf_21 x1 M nn x2 x3 = some r → zS Y_X9_quickestOf 21 [some (zO 9), some (zI x1), some (zI x2), some (zI x3)] [] M (some r, M) := by
  intro nn
  induction nn with
  | zero => intro x2 x3 r h; cases h
  | succ nn ih =>
  intro x2 x3 r h
  rw [p_X9_quickestOf_21] at h
  refine zS_iload_n dX9_quickestOf_21 rfl rfl ?_
  refine zS_bipush (v := (8 : Int32)) dX9_quickestOf_22 (by decide) ?_
  refine zS_icmp_ge (tgt := 68) dX9_quickestOf_24 (by decide) (fun c24 => ?_) (fun c24 => ?_)
  · rw [if_pos c24] at h
    refine zS_iload_n dX9_quickestOf_68 rfl rfl ?_
    cases h
    exact zS_ireturn dX9_quickestOf_69 rfl rfl
  · rw [if_neg c24] at h
    refine zS_aload_nO dX9_quickestOf_27 rfl rfl ?_
    refine zS_iload_n dX9_quickestOf_28 rfl rfl ?_
    refine zS_iload_n dX9_quickestOf_29 rfl rfl ?_
    obtain ⟨r30, h30, h⟩ := zbind h
    refine zS_callV (as := [zI x1, zI x3]) (st := []) (ls0 := [some (zO 9), some (zI x1), some (zI x3)]) dX9_quickestOf_30 okY_X9_holds rfl rfl lay_9 rfl zw_329 zw_330 zw_331 np_X9_holds (by decide) (Nat.le_of_ble_eq_true rfl) rfl (Nat.le_of_ble_eq_true rfl) (And.intro rfl (And.intro rfl (And.intro rfl trivial))) (zc_X9_holds x1 x3 M h30) ?_
    refine zS_if_eq (tgt := 60) dX9_quickestOf_33 (by decide) (fun c33 => ?_) (fun c33 => ?_)
    · rw [if_pos c33] at h
      refine zS_iload_n dX9_quickestOf_60 rfl rfl ?_
      refine zS_istore_n (ls' := [some (zO 9), some (zI x1), some (zI x2), some (zI x3)]) dX9_quickestOf_61 rfl (by decide) rfl rfl ?_
      refine zS_iinc (v := x3 + (1 : Int32)) (ls' := [some (zO 9), some (zI x1), some (zI x2), some (zI (x3 + (1 : Int32)))]) dX9_quickestOf_62 rfl rfl (by decide) rfl rfl ?_
      refine zS_goto (tgt := 21) dX9_quickestOf_65 (by decide) ?_
      exact zS_wk [some (zO 9), some (zI x1), some (zI x2), some (zI (x3 + (1 : Int32)))] (And.intro rfl (And.intro rfl (And.intro rfl (And.intro rfl trivial)))) (ih x2 (x3 + (1 : Int32)) r h)
    · rw [if_neg c33] at h
      refine zS_iload_n dX9_quickestOf_36 rfl rfl ?_
      refine zS_iconst (v := (-1 : Int32)) dX9_quickestOf_37 (by decide) ?_
      refine zS_icmp_eq (tgt := 56) dX9_quickestOf_38 (by decide) (fun c38 => ?_) (fun c38 => ?_)
      · rw [if_pos c38] at h
        refine zS_iload_n dX9_quickestOf_56 rfl rfl ?_
        refine zS_goto (tgt := 61) dX9_quickestOf_57 (by decide) ?_
        refine zS_istore_n (ls' := [some (zO 9), some (zI x1), some (zI x3), some (zI x3)]) dX9_quickestOf_61 rfl (by decide) rfl rfl ?_
        refine zS_iinc (v := x3 + (1 : Int32)) (ls' := [some (zO 9), some (zI x1), some (zI x3), some (zI (x3 + (1 : Int32)))]) dX9_quickestOf_62 rfl rfl (by decide) rfl rfl ?_
        refine zS_goto (tgt := 21) dX9_quickestOf_65 (by decide) ?_
        exact zS_wk [some (zO 9), some (zI x1), some (zI x3), some (zI (x3 + (1 : Int32)))] (And.intro rfl (And.intro rfl (And.intro rfl (And.intro rfl trivial)))) (ih x3 (x3 + (1 : Int32)) r h)
      · rw [if_neg c38] at h
        refine zS_aload_nO dX9_quickestOf_41 rfl rfl ?_
        refine gf_9_0 dX9_quickestOf_42 zw_314 ?_
        refine zS_iload_n dX9_quickestOf_45 rfl rfl ?_
        by_cases b46 : x3 < 0 ∨ 8 ≤ x3.toNatClampNeg
        · rw [if_pos b46] at h; cases h
        rw [if_neg b46] at h
        refine zS_iald b46 dX9_quickestOf_46 ?_
        refine zS_aload_nO dX9_quickestOf_47 rfl rfl ?_
        refine gf_9_0 dX9_quickestOf_48 zw_314 ?_
        refine zS_iload_n dX9_quickestOf_51 rfl rfl ?_
        by_cases b52 : x2 < 0 ∨ 8 ≤ x2.toNatClampNeg
        · rw [if_pos b52] at h; cases h
        rw [if_neg b52] at h
        refine zS_iald b52 dX9_quickestOf_52 ?_
        refine zS_icmp_ge (tgt := 60) dX9_quickestOf_53 (by decide) (fun c53 => ?_) (fun c53 => ?_)
        · rw [if_pos c53] at h
          refine zS_iload_n dX9_quickestOf_60 rfl rfl ?_
          refine zS_istore_n (ls' := [some (zO 9), some (zI x1), some (zI x2), some (zI x3)]) dX9_quickestOf_61 rfl (by decide) rfl rfl ?_
          refine zS_iinc (v := x3 + (1 : Int32)) (ls' := [some (zO 9), some (zI x1), some (zI x2), some (zI (x3 + (1 : Int32)))]) dX9_quickestOf_62 rfl rfl (by decide) rfl rfl ?_
          refine zS_goto (tgt := 21) dX9_quickestOf_65 (by decide) ?_
          exact zS_wk [some (zO 9), some (zI x1), some (zI x2), some (zI (x3 + (1 : Int32)))] (And.intro rfl (And.intro rfl (And.intro rfl (And.intro rfl trivial)))) (ih x2 (x3 + (1 : Int32)) r h)
        · rw [if_neg c53] at h
          refine zS_iload_n dX9_quickestOf_56 rfl rfl ?_
          refine zS_goto (tgt := 61) dX9_quickestOf_57 (by decide) ?_
          refine zS_istore_n (ls' := [some (zO 9), some (zI x1), some (zI x3), some (zI x3)]) dX9_quickestOf_61 rfl (by decide) rfl rfl ?_
          refine zS_iinc (v := x3 + (1 : Int32)) (ls' := [some (zO 9), some (zI x1), some (zI x3), some (zI (x3 + (1 : Int32)))]) dX9_quickestOf_62 rfl rfl (by decide) rfl rfl ?_
          refine zS_goto (tgt := 21) dX9_quickestOf_65 (by decide) ?_
          exact zS_wk [some (zO 9), some (zI x1), some (zI x3), some (zI (x3 + (1 : Int32)))] (And.intro rfl (And.intro rfl (And.intro rfl (And.intro rfl trivial)))) (ih x3 (x3 + (1 : Int32)) r h)
def p_X9_quickestOf (x1 : Int32) (M : zM) : Option (Int32) :=
  if x1 < 0 ∨ 24 ≤ x1.toNatClampNeg then none else
  if (M 81 x1.toNatClampNeg) = (-1 : Int32) then
    p_X9_quickestOf_21 x1 M 5000 (-1 : Int32) (0 : Int32)
  else
    if x1 < 0 ∨ 24 ≤ x1.toNatClampNeg then none else
    some (M 81 x1.toNatClampNeg)
set_option maxRecDepth 20000 in
set_option maxHeartbeats 4000000 in
theorem zc_X9_quickestOf (x1 : Int32) (M : zM) {r : Int32} (h : p_X9_quickestOf x1 M = some r) : zS Y_X9_quickestOf 0 [some (zO 9), some (zI x1), none, none] [] M (some r, M) := by
  rw [p_X9_quickestOf] at h
  refine zS_aload_nO dX9_quickestOf_0 rfl rfl ?_
  refine gf_9_8 dX9_quickestOf_1 zw_328 ?_
  refine zS_iload_n dX9_quickestOf_4 rfl rfl ?_
  by_cases b5 : x1 < 0 ∨ 24 ≤ x1.toNatClampNeg
  · rw [if_pos b5] at h; cases h
  rw [if_neg b5] at h
  refine zS_iald b5 dX9_quickestOf_5 ?_
  refine zS_iconst (v := (-1 : Int32)) dX9_quickestOf_6 (by decide) ?_
  refine zS_icmp_eq (tgt := 17) dX9_quickestOf_7 (by decide) (fun c7 => ?_) (fun c7 => ?_)
  · rw [if_pos c7] at h
    refine zS_iconst (v := (-1 : Int32)) dX9_quickestOf_17 (by decide) ?_
    refine zS_istore_n (ls' := [some (zO 9), some (zI x1), some (zI (-1 : Int32)), none]) dX9_quickestOf_18 rfl (by decide) rfl rfl ?_
    refine zS_iconst (v := (0 : Int32)) dX9_quickestOf_19 (by decide) ?_
    refine zS_istore_n (ls' := [some (zO 9), some (zI x1), some (zI (-1 : Int32)), some (zI (0 : Int32))]) dX9_quickestOf_20 rfl (by decide) rfl rfl ?_
    exact zS_wk [some (zO 9), some (zI x1), some (zI (-1 : Int32)), some (zI (0 : Int32))] (And.intro rfl (And.intro rfl (And.intro rfl (And.intro rfl trivial)))) (zc_X9_quickestOf_21 x1 M 5000 (-1 : Int32) (0 : Int32) r h)
  · rw [if_neg c7] at h
    refine zS_aload_nO dX9_quickestOf_10 rfl rfl ?_
    refine gf_9_8 dX9_quickestOf_11 zw_328 ?_
    refine zS_iload_n dX9_quickestOf_14 rfl rfl ?_
    by_cases b15 : x1 < 0 ∨ 24 ≤ x1.toNatClampNeg
    · rw [if_pos b15] at h; cases h
    rw [if_neg b15] at h
    refine zS_iald b15 dX9_quickestOf_15 ?_
    cases h
    exact zS_ireturn dX9_quickestOf_16 rfl rfl
def p_X9_quickest (x1 : Int32) (M : zM) : Option (Int32) :=
  (p_X9_in x1 (0 : Int32) ((M 9 5) - (1 : Int32))).bind fun r8 =>
  if r8 = 0 then
    some (-2 : Int32)
  else
    (p_X9_fillings M).bind fun r18 =>
    if r18 = 0 then
      some (-1 : Int32)
    else
      (p_X9_quickestOf x1 M).bind fun r30 =>
      some r30
set_option maxRecDepth 20000 in
set_option maxHeartbeats 4000000 in
theorem zc_X9_quickest (x1 : Int32) (M : zM) {r : Int32} (h : p_X9_quickest x1 M = some r) : zS Y_X9_quickest 0 [some (zO 9), some (zI x1)] [] M (some r, M) := by
  rw [p_X9_quickest] at h
  refine zS_iload_n dX9_quickest_0 rfl rfl ?_
  refine zS_iconst (v := (0 : Int32)) dX9_quickest_1 (by decide) ?_
  refine zS_aload_nO dX9_quickest_2 rfl rfl ?_
  refine gf_9_5 dX9_quickest_3 zw_325 ?_
  refine zS_iconst (v := (1 : Int32)) dX9_quickest_6 (by decide) ?_
  refine zS_isub dX9_quickest_7 ?_
  obtain ⟨r8, h8, h⟩ := zbind h
  refine zS_callS (as := [zI x1, zI (0 : Int32), zI ((M 9 5) - (1 : Int32))]) (st := []) (ls0 := [some (zI x1), some (zI (0 : Int32)), some (zI ((M 9 5) - (1 : Int32)))]) dX9_quickest_8 okY_X9_in rfl rfl zw_310 zw_311 np_X9_in (by decide) (Nat.le_of_ble_eq_true rfl) rfl (Nat.le_of_ble_eq_true rfl) (And.intro rfl (And.intro rfl (And.intro rfl trivial))) (zc_X9_in x1 (0 : Int32) ((M 9 5) - (1 : Int32)) M h8) ?_
  refine zS_if_ne (tgt := 17) dX9_quickest_11 (by decide) (fun c11 => ?_) (fun c11 => ?_)
  · rw [if_neg c11] at h
    refine zS_aload_nO dX9_quickest_17 rfl rfl ?_
    obtain ⟨r18, h18, h⟩ := zbind h
    refine zS_callV (as := []) (st := []) (ls0 := [some (zO 9), none, none, none, none, none]) dX9_quickest_18 okY_X9_fillings rfl rfl lay_9 rfl zw_336 zw_337 zw_338 np_X9_fillings (by decide) (Nat.le_of_ble_eq_true rfl) rfl (Nat.le_of_ble_eq_true rfl) (And.intro rfl trivial) (zc_X9_fillings M h18) ?_
    refine zS_if_ne (tgt := 28) dX9_quickest_21 (by decide) (fun c21 => ?_) (fun c21 => ?_)
    · rw [if_neg c21] at h
      refine zS_aload_nO dX9_quickest_28 rfl rfl ?_
      refine zS_iload_n dX9_quickest_29 rfl rfl ?_
      obtain ⟨r30, h30, h⟩ := zbind h
      refine zS_callV (as := [zI x1]) (st := []) (ls0 := [some (zO 9), some (zI x1), none, none]) dX9_quickest_30 okY_X9_quickestOf rfl rfl lay_9 rfl zw_339 zw_340 zw_341 np_X9_quickestOf (by decide) (Nat.le_of_ble_eq_true rfl) rfl (Nat.le_of_ble_eq_true rfl) (And.intro rfl (And.intro rfl trivial)) (zc_X9_quickestOf x1 M h30) ?_
      cases h
      exact zS_ireturn dX9_quickest_33 rfl rfl
    · rw [if_pos c21] at h
      refine zS_iconst (v := (-1 : Int32)) dX9_quickest_24 (by decide) ?_
      refine zS_goto (tgt := 33) dX9_quickest_25 (by decide) ?_
      cases h
      exact zS_ireturn dX9_quickest_33 rfl rfl
  · rw [if_pos c11] at h
    refine zS_bipush (v := (-2 : Int32)) dX9_quickest_14 (by decide) ?_
    cases h
    exact zS_ireturn dX9_quickest_16 rfl rfl
def p_X9_graces_13 (M : zM) : Nat → Int32 → Int32 → Option (Int32)
  | 0, _, _ => none
  | nn + 1, x1, x2 =>
  if (M 9 5) ≤ x2 then
    some x1
  else
    (p_X9_quickestOf x2 M).bind fun r28 =>
    if r28 < 0 ∨ 8 ≤ r28.toNatClampNeg then none else
    p_X9_graces_13 M nn (x1 + (M 75 r28.toNatClampNeg)) (x2 + (1 : Int32))
set_option maxRecDepth 20000 in
set_option maxHeartbeats 4000000 in
theorem zc_X9_graces_13 (M : zM) : ∀ (nn : Nat) (x1 : Int32) (x2 : Int32) (r : Int32), p_X9_graces_13 M nn x1 x2 = some r → zS Y_X9_graces 13 [some (zO 9), some (zI x1), some (zI x2)] [] M (some r, M) := by
  intro nn
  induction nn with
  | zero => intro x1 x2 r h; cases h
  | succ nn ih =>
  intro x1 x2 r h
  rw [p_X9_graces_13] at h
  refine zS_iload_n dX9_graces_13 rfl rfl ?_
  refine zS_aload_nO dX9_graces_14 rfl rfl ?_
  refine gf_9_5 dX9_graces_15 zw_325 ?_
  refine zS_icmp_ge (tgt := 40) dX9_graces_18 (by decide) (fun c18 => ?_) (fun c18 => ?_)
  · rw [if_pos c18] at h
    refine zS_iload_n dX9_graces_40 rfl rfl ?_
    cases h
    exact zS_ireturn dX9_graces_41 rfl rfl
  · rw [if_neg c18] at h
    refine zS_iload_n dX9_graces_21 rfl rfl ?_
    refine zS_aload_nO dX9_graces_22 rfl rfl ?_
    refine gf_9_0 dX9_graces_23 zw_314 ?_
    refine zS_aload_nO dX9_graces_26 rfl rfl ?_
    refine zS_iload_n dX9_graces_27 rfl rfl ?_
    obtain ⟨r28, h28, h⟩ := zbind h
    refine zS_callV (as := [zI x2]) (st := [zA 75 8, zI x1]) (ls0 := [some (zO 9), some (zI x2), none, none]) dX9_graces_28 okY_X9_quickestOf rfl rfl lay_9 rfl zw_339 zw_340 zw_341 np_X9_quickestOf (by decide) (Nat.le_of_ble_eq_true rfl) rfl (Nat.le_of_ble_eq_true rfl) (And.intro rfl (And.intro rfl trivial)) (zc_X9_quickestOf x2 M h28) ?_
    by_cases b31 : r28 < 0 ∨ 8 ≤ r28.toNatClampNeg
    · rw [if_pos b31] at h; cases h
    rw [if_neg b31] at h
    refine zS_iald b31 dX9_graces_31 ?_
    refine zS_iadd dX9_graces_32 ?_
    refine zS_istore_n (ls' := [some (zO 9), some (zI (x1 + (M 75 r28.toNatClampNeg))), some (zI x2)]) dX9_graces_33 rfl (by decide) rfl rfl ?_
    refine zS_iinc (v := x2 + (1 : Int32)) (ls' := [some (zO 9), some (zI (x1 + (M 75 r28.toNatClampNeg))), some (zI (x2 + (1 : Int32)))]) dX9_graces_34 rfl rfl (by decide) rfl rfl ?_
    refine zS_goto (tgt := 13) dX9_graces_37 (by decide) ?_
    exact zS_wk [some (zO 9), some (zI (x1 + (M 75 r28.toNatClampNeg))), some (zI (x2 + (1 : Int32)))] (And.intro rfl (And.intro rfl (And.intro rfl trivial))) (ih (x1 + (M 75 r28.toNatClampNeg)) (x2 + (1 : Int32)) r h)
def p_X9_graces (M : zM) : Option (Int32) :=
  (p_X9_fillings M).bind fun r1 =>
  if r1 = 0 then
    some (-1 : Int32)
  else
    p_X9_graces_13 M 5000 (0 : Int32) (0 : Int32)
set_option maxRecDepth 20000 in
set_option maxHeartbeats 4000000 in
theorem zc_X9_graces (M : zM) {r : Int32} (h : p_X9_graces M = some r) : zS Y_X9_graces 0 [some (zO 9), none, none] [] M (some r, M) := by
  rw [p_X9_graces] at h
  refine zS_aload_nO dX9_graces_0 rfl rfl ?_
  obtain ⟨r1, h1, h⟩ := zbind h
  refine zS_callV (as := []) (st := []) (ls0 := [some (zO 9), none, none, none, none, none]) dX9_graces_1 okY_X9_fillings rfl rfl lay_9 rfl zw_336 zw_337 zw_338 np_X9_fillings (by decide) (Nat.le_of_ble_eq_true rfl) rfl (Nat.le_of_ble_eq_true rfl) (And.intro rfl trivial) (zc_X9_fillings M h1) ?_
  refine zS_if_ne (tgt := 9) dX9_graces_4 (by decide) (fun c4 => ?_) (fun c4 => ?_)
  · rw [if_neg c4] at h
    refine zS_iconst (v := (0 : Int32)) dX9_graces_9 (by decide) ?_
    refine zS_istore_n (ls' := [some (zO 9), some (zI (0 : Int32)), none]) dX9_graces_10 rfl (by decide) rfl rfl ?_
    refine zS_iconst (v := (0 : Int32)) dX9_graces_11 (by decide) ?_
    refine zS_istore_n (ls' := [some (zO 9), some (zI (0 : Int32)), some (zI (0 : Int32))]) dX9_graces_12 rfl (by decide) rfl rfl ?_
    exact zS_wk [some (zO 9), some (zI (0 : Int32)), some (zI (0 : Int32))] (And.intro rfl (And.intro rfl (And.intro rfl trivial))) (zc_X9_graces_13 M 5000 (0 : Int32) (0 : Int32) r h)
  · rw [if_pos c4] at h
    refine zS_iconst (v := (-1 : Int32)) dX9_graces_7 (by decide) ?_
    cases h
    exact zS_ireturn dX9_graces_8 rfl rfl
