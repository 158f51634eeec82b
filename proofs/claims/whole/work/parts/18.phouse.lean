def p_X8_movement (x1 : Int32) (x2 : Int32) (x3 : Int32) (M : zM) : Option (Int32 × zM) :=
  (p_X8_isMovement x1).bind fun r1 =>
  if r1 = 0 then
    some ((-2 : Int32), M)
  else
    (p_X8_within x2 (0 : Int32) (4 : Int32)).bind fun r13 =>
    if r13 = 0 then
      some ((-3 : Int32), M)
    else
      (p_X8_nibblesWithin x3 x2 (8 : Int32)).bind fun r23 =>
      if r23 = 0 then
        some ((-3 : Int32), M)
      else
        (p_X2_become x1 x2 x3 M).bind fun M39 =>
        some ((1 : Int32), M39)
set_option maxRecDepth 20000 in
set_option maxHeartbeats 4000000 in
theorem zc_X8_movement (x1 : Int32) (x2 : Int32) (x3 : Int32) (M : zM) {r : Int32 × zM} (h : p_X8_movement x1 x2 x3 M = some r) : zS Y_X8_movement 0 [some (zO 0), some (zI x1), some (zI x2), some (zI x3)] [] M (some r.1, r.2) := by
  rw [p_X8_movement] at h
  refine zS_iload_n dX8_movement_0 rfl rfl ?_
  obtain ⟨r1, h1, h⟩ := zbind h
  refine zS_callS (as := [zI x1]) (st := []) (ls0 := [some (zI x1)]) dX8_movement_1 okY_X8_isMovement rfl rfl zw_6 zw_7 np_X8_isMovement (by decide) (Nat.le_of_ble_eq_true rfl) rfl (Nat.le_of_ble_eq_true rfl) (And.intro rfl trivial) (zc_X8_isMovement x1 M h1) ?_
  refine zS_if_ne (tgt := 10) dX8_movement_4 (by decide) (fun c4 => ?_) (fun c4 => ?_)
  · rw [if_neg c4] at h
    refine zS_iload_n dX8_movement_10 rfl rfl ?_
    refine zS_iconst (v := (0 : Int32)) dX8_movement_11 (by decide) ?_
    refine zS_iconst (v := (4 : Int32)) dX8_movement_12 (by decide) ?_
    obtain ⟨r13, h13, h⟩ := zbind h
    refine zS_callS (as := [zI x2, zI (0 : Int32), zI (4 : Int32)]) (st := []) (ls0 := [some (zI x2), some (zI (0 : Int32)), some (zI (4 : Int32))]) dX8_movement_13 okY_X8_within rfl rfl zw_0 zw_1 np_X8_within (by decide) (Nat.le_of_ble_eq_true rfl) rfl (Nat.le_of_ble_eq_true rfl) (And.intro rfl (And.intro rfl (And.intro rfl trivial))) (zc_X8_within x2 (0 : Int32) (4 : Int32) M h13) ?_
    refine zS_if_eq (tgt := 29) dX8_movement_16 (by decide) (fun c16 => ?_) (fun c16 => ?_)
    · rw [if_pos c16] at h
      refine zS_bipush (v := (-3 : Int32)) dX8_movement_29 (by decide) ?_
      cases h
      exact zS_ireturn dX8_movement_31 rfl rfl
    · rw [if_neg c16] at h
      refine zS_iload_n dX8_movement_19 rfl rfl ?_
      refine zS_iload_n dX8_movement_20 rfl rfl ?_
      refine zS_bipush (v := (8 : Int32)) dX8_movement_21 (by decide) ?_
      obtain ⟨r23, h23, h⟩ := zbind h
      refine zS_callS (as := [zI x3, zI x2, zI (8 : Int32)]) (st := []) (ls0 := [some (zI x3), some (zI x2), some (zI (8 : Int32)), none]) dX8_movement_23 okY_X8_nibblesWithin rfl rfl zw_8 zw_9 np_X8_nibblesWithin (by decide) (Nat.le_of_ble_eq_true rfl) rfl (Nat.le_of_ble_eq_true rfl) (And.intro rfl (And.intro rfl (And.intro rfl trivial))) (zc_X8_nibblesWithin x3 x2 (8 : Int32) M h23) ?_
      refine zS_if_ne (tgt := 32) dX8_movement_26 (by decide) (fun c26 => ?_) (fun c26 => ?_)
      · rw [if_neg c26] at h
        refine zS_aload_nO dX8_movement_32 rfl rfl ?_
        refine gf_0_0 dX8_movement_33 zw_10 ?_
        refine zS_iload_n dX8_movement_36 rfl rfl ?_
        refine zS_iload_n dX8_movement_37 rfl rfl ?_
        refine zS_iload_n dX8_movement_38 rfl rfl ?_
        obtain ⟨M39, h39, h⟩ := zbind h
        refine zS_callVv (as := [zI x1, zI x2, zI x3]) (st := []) (ls0 := [some (zO 1), some (zI x1), some (zI x2), some (zI x3), none]) dX8_movement_39 okY_X2_become rfl rfl lay_1 rfl zw_11 zw_12 zw_13 np_X2_become (by decide) (Nat.le_of_ble_eq_true rfl) rfl (Nat.le_of_ble_eq_true rfl) (And.intro rfl (And.intro rfl (And.intro rfl (And.intro rfl trivial)))) (zc_X2_become x1 x2 x3 M h39) ?_
        refine zS_iconst (v := (1 : Int32)) dX8_movement_42 (by decide) ?_
        cases h
        exact zS_ireturn dX8_movement_43 rfl rfl
      · rw [if_pos c26] at h
        refine zS_bipush (v := (-3 : Int32)) dX8_movement_29 (by decide) ?_
        cases h
        exact zS_ireturn dX8_movement_31 rfl rfl
  · rw [if_pos c4] at h
    refine zS_bipush (v := (-2 : Int32)) dX8_movement_7 (by decide) ?_
    cases h
    exact zS_ireturn dX8_movement_9 rfl rfl
def p_X8_may (x1 : Int32) (x2 : Int32) (x3 : Int32) (M : zM) : Option (Int32 × zM) :=
  (p_X8_isMovement x1).bind fun r1 =>
  if r1 = 0 then
    some ((-2 : Int32), M)
  else
    (p_X8_within x2 (0 : Int32) (1 : Int32)).bind fun r13 =>
    if r13 = 0 then
      some ((-3 : Int32), M)
    else
      (p_X8_within x3 (0 : Int32) (511 : Int32)).bind fun r24 =>
      if r24 = 0 then
        some ((-3 : Int32), M)
      else
        if x2 = 0 then
          (p_X8_replace 20 8 x1 x3 M).bind fun q56 =>
          some (q56.1, q56.2)
        else
          (p_X8_replace 21 8 x1 x3 M).bind fun q56 =>
          some (q56.1, q56.2)
set_option maxRecDepth 20000 in
set_option maxHeartbeats 4000000 in
theorem zc_X8_may (x1 : Int32) (x2 : Int32) (x3 : Int32) (M : zM) {r : Int32 × zM} (h : p_X8_may x1 x2 x3 M = some r) : zS Y_X8_may 0 [some (zO 0), some (zI x1), some (zI x2), some (zI x3)] [] M (some r.1, r.2) := by
  rw [p_X8_may] at h
  refine zS_iload_n dX8_may_0 rfl rfl ?_
  obtain ⟨r1, h1, h⟩ := zbind h
  refine zS_callS (as := [zI x1]) (st := []) (ls0 := [some (zI x1)]) dX8_may_1 okY_X8_isMovement rfl rfl zw_6 zw_7 np_X8_isMovement (by decide) (Nat.le_of_ble_eq_true rfl) rfl (Nat.le_of_ble_eq_true rfl) (And.intro rfl trivial) (zc_X8_isMovement x1 M h1) ?_
  refine zS_if_ne (tgt := 10) dX8_may_4 (by decide) (fun c4 => ?_) (fun c4 => ?_)
  · rw [if_neg c4] at h
    refine zS_iload_n dX8_may_10 rfl rfl ?_
    refine zS_iconst (v := (0 : Int32)) dX8_may_11 (by decide) ?_
    refine zS_iconst (v := (1 : Int32)) dX8_may_12 (by decide) ?_
    obtain ⟨r13, h13, h⟩ := zbind h
    refine zS_callS (as := [zI x2, zI (0 : Int32), zI (1 : Int32)]) (st := []) (ls0 := [some (zI x2), some (zI (0 : Int32)), some (zI (1 : Int32))]) dX8_may_13 okY_X8_within rfl rfl zw_0 zw_1 np_X8_within (by decide) (Nat.le_of_ble_eq_true rfl) rfl (Nat.le_of_ble_eq_true rfl) (And.intro rfl (And.intro rfl (And.intro rfl trivial))) (zc_X8_within x2 (0 : Int32) (1 : Int32) M h13) ?_
    refine zS_if_eq (tgt := 30) dX8_may_16 (by decide) (fun c16 => ?_) (fun c16 => ?_)
    · rw [if_pos c16] at h
      refine zS_bipush (v := (-3 : Int32)) dX8_may_30 (by decide) ?_
      cases h
      exact zS_ireturn dX8_may_32 rfl rfl
    · rw [if_neg c16] at h
      refine zS_iload_n dX8_may_19 rfl rfl ?_
      refine zS_iconst (v := (0 : Int32)) dX8_may_20 (by decide) ?_
      refine zS_sipush (v := (511 : Int32)) dX8_may_21 (by decide) ?_
      obtain ⟨r24, h24, h⟩ := zbind h
      refine zS_callS (as := [zI x3, zI (0 : Int32), zI (511 : Int32)]) (st := []) (ls0 := [some (zI x3), some (zI (0 : Int32)), some (zI (511 : Int32))]) dX8_may_24 okY_X8_within rfl rfl zw_0 zw_1 np_X8_within (by decide) (Nat.le_of_ble_eq_true rfl) rfl (Nat.le_of_ble_eq_true rfl) (And.intro rfl (And.intro rfl (And.intro rfl trivial))) (zc_X8_within x3 (0 : Int32) (511 : Int32) M h24) ?_
      refine zS_if_ne (tgt := 33) dX8_may_27 (by decide) (fun c27 => ?_) (fun c27 => ?_)
      · rw [if_neg c27] at h
        refine zS_iload_n dX8_may_33 rfl rfl ?_
        refine zS_if_ne (tgt := 47) dX8_may_34 (by decide) (fun c34 => ?_) (fun c34 => ?_)
        · rw [if_neg c34] at h
          refine zS_aload_nO dX8_may_47 rfl rfl ?_
          refine gf_0_0 dX8_may_48 zw_10 ?_
          refine gf_1_3 dX8_may_51 zw_14 ?_
          refine zS_iload_n dX8_may_54 rfl rfl ?_
          refine zS_iload_n dX8_may_55 rfl rfl ?_
          obtain ⟨q56, h56, h⟩ := zbind h
          refine zS_callS (as := [zA 21 8, zI x1, zI x3]) (st := []) (ls0 := [some (zA 21 8), some (zI x1), some (zI x3), none]) dX8_may_56 okY_X8_replace rfl rfl zw_15 zw_16 np_X8_replace (by decide) (Nat.le_of_ble_eq_true rfl) rfl (Nat.le_of_ble_eq_true rfl) (And.intro rfl (And.intro rfl (And.intro rfl trivial))) (zc_X8_replace 21 8 x1 x3 M h56) ?_
          cases h
          exact zS_ireturn dX8_may_59 rfl rfl
        · rw [if_pos c34] at h
          refine zS_aload_nO dX8_may_37 rfl rfl ?_
          refine gf_0_0 dX8_may_38 zw_10 ?_
          refine gf_1_2 dX8_may_41 zw_17 ?_
          refine zS_goto (tgt := 54) dX8_may_44 (by decide) ?_
          refine zS_iload_n dX8_may_54 rfl rfl ?_
          refine zS_iload_n dX8_may_55 rfl rfl ?_
          obtain ⟨q56, h56, h⟩ := zbind h
          refine zS_callS (as := [zA 20 8, zI x1, zI x3]) (st := []) (ls0 := [some (zA 20 8), some (zI x1), some (zI x3), none]) dX8_may_56 okY_X8_replace rfl rfl zw_15 zw_16 np_X8_replace (by decide) (Nat.le_of_ble_eq_true rfl) rfl (Nat.le_of_ble_eq_true rfl) (And.intro rfl (And.intro rfl (And.intro rfl trivial))) (zc_X8_replace 20 8 x1 x3 M h56) ?_
          cases h
          exact zS_ireturn dX8_may_59 rfl rfl
      · rw [if_pos c27] at h
        refine zS_bipush (v := (-3 : Int32)) dX8_may_30 (by decide) ?_
        cases h
        exact zS_ireturn dX8_may_32 rfl rfl
  · rw [if_pos c4] at h
    refine zS_bipush (v := (-2 : Int32)) dX8_may_7 (by decide) ?_
    cases h
    exact zS_ireturn dX8_may_9 rfl rfl
def p_X8_beat (x1 : Int32) (M : zM) : Option (Int32 × zM) :=
  (p_X8_within x1 (1 : Int32) (3 : Int32)).bind fun r3 =>
  if r3 = 0 then
    some ((-3 : Int32), M)
  else
    some (M 1 4, zset M 1 4 x1)
set_option maxRecDepth 20000 in
set_option maxHeartbeats 4000000 in
theorem zc_X8_beat (x1 : Int32) (M : zM) {r : Int32 × zM} (h : p_X8_beat x1 M = some r) : zS Y_X8_beat 0 [some (zO 0), some (zI x1), none] [] M (some r.1, r.2) := by
  rw [p_X8_beat] at h
  refine zS_iload_n dX8_beat_0 rfl rfl ?_
  refine zS_iconst (v := (1 : Int32)) dX8_beat_1 (by decide) ?_
  refine zS_iconst (v := (3 : Int32)) dX8_beat_2 (by decide) ?_
  obtain ⟨r3, h3, h⟩ := zbind h
  refine zS_callS (as := [zI x1, zI (1 : Int32), zI (3 : Int32)]) (st := []) (ls0 := [some (zI x1), some (zI (1 : Int32)), some (zI (3 : Int32))]) dX8_beat_3 okY_X8_within rfl rfl zw_0 zw_1 np_X8_within (by decide) (Nat.le_of_ble_eq_true rfl) rfl (Nat.le_of_ble_eq_true rfl) (And.intro rfl (And.intro rfl (And.intro rfl trivial))) (zc_X8_within x1 (1 : Int32) (3 : Int32) M h3) ?_
  refine zS_if_ne (tgt := 12) dX8_beat_6 (by decide) (fun c6 => ?_) (fun c6 => ?_)
  · rw [if_neg c6] at h
    refine zS_aload_nO dX8_beat_12 rfl rfl ?_
    refine gf_0_0 dX8_beat_13 zw_10 ?_
    refine gf_1_4 dX8_beat_16 zw_18 ?_
    refine zS_istore_n (ls' := [some (zO 0), some (zI x1), some (zI (M 1 4))]) dX8_beat_19 rfl (by decide) rfl rfl ?_
    refine zS_aload_nO dX8_beat_20 rfl rfl ?_
    refine gf_0_0 dX8_beat_21 zw_10 ?_
    refine zS_iload_n dX8_beat_24 rfl rfl ?_
    refine pf_1_4 dX8_beat_25 zw_18 ?_
    refine zS_iload_n dX8_beat_28 rfl rfl ?_
    cases h
    exact zS_ireturn dX8_beat_29 rfl rfl
  · rw [if_pos c6] at h
    refine zS_bipush (v := (-3 : Int32)) dX8_beat_9 (by decide) ?_
    cases h
    exact zS_ireturn dX8_beat_11 rfl rfl
def p_X8_fits_29 (x1 : Int32) (x2 : Int32) (x3 : Int32) (M : zM) : Option (Int32) :=
  (p_X2_joins x1 x2 x3 M).bind fun r36 =>
  if r36 = 0 then
    some (0 : Int32)
  else
    some (1 : Int32)
set_option maxRecDepth 20000 in
set_option maxHeartbeats 4000000 in
theorem zc_X8_fits_29 (x1 : Int32) (x2 : Int32) (x3 : Int32) (M : zM) {r : Int32} (h : p_X8_fits_29 x1 x2 x3 M = some r) : zS Y_X8_fits 29 [some (zO 0), some (zI x1), some (zI x2), some (zI x3)] [] M (some r, M) := by
  rw [p_X8_fits_29] at h
  refine zS_aload_nO dX8_fits_29 rfl rfl ?_
  refine gf_0_0 dX8_fits_30 zw_10 ?_
  refine zS_iload_n dX8_fits_33 rfl rfl ?_
  refine zS_iload_n dX8_fits_34 rfl rfl ?_
  refine zS_iload_n dX8_fits_35 rfl rfl ?_
  obtain ⟨r36, h36, h⟩ := zbind h
  refine zS_callV (as := [zI x1, zI x2, zI x3]) (st := []) (ls0 := [some (zO 1), some (zI x1), some (zI x2), some (zI x3)]) dX8_fits_36 okY_X2_joins rfl rfl lay_1 rfl zw_28 zw_29 zw_30 np_X2_joins (by decide) (Nat.le_of_ble_eq_true rfl) rfl (Nat.le_of_ble_eq_true rfl) (And.intro rfl (And.intro rfl (And.intro rfl (And.intro rfl trivial)))) (zc_X2_joins x1 x2 x3 M h36) ?_
  refine zS_if_eq (tgt := 46) dX8_fits_39 (by decide) (fun c39 => ?_) (fun c39 => ?_)
  · rw [if_pos c39] at h
    refine zS_iconst (v := (0 : Int32)) dX8_fits_46 (by decide) ?_
    cases h
    exact zS_ireturn dX8_fits_47 rfl rfl
  · rw [if_neg c39] at h
    refine zS_iconst (v := (1 : Int32)) dX8_fits_42 (by decide) ?_
    refine zS_goto (tgt := 47) dX8_fits_43 (by decide) ?_
    cases h
    exact zS_ireturn dX8_fits_47 rfl rfl
def p_X8_fits (x1 : Int32) (x2 : Int32) (x3 : Int32) (M : zM) : Option (Int32) :=
  (p_X8_isMovement x1).bind fun r1 =>
  if r1 = 0 then
    some (-2 : Int32)
  else
    (p_X8_isNote x3).bind fun r8 =>
    if r8 = 0 then
      some (-2 : Int32)
    else
      if x2 = (-1 : Int32) then
        p_X8_fits_29 x1 x2 x3 M
      else
        (p_X8_isNote x2).bind fun r20 =>
        if r20 = 0 then
          some (-2 : Int32)
        else
          p_X8_fits_29 x1 x2 x3 M
set_option maxRecDepth 20000 in
set_option maxHeartbeats 4000000 in
theorem zc_X8_fits (x1 : Int32) (x2 : Int32) (x3 : Int32) (M : zM) {r : Int32} (h : p_X8_fits x1 x2 x3 M = some r) : zS Y_X8_fits 0 [some (zO 0), some (zI x1), some (zI x2), some (zI x3)] [] M (some r, M) := by
  rw [p_X8_fits] at h
  refine zS_iload_n dX8_fits_0 rfl rfl ?_
  obtain ⟨r1, h1, h⟩ := zbind h
  refine zS_callS (as := [zI x1]) (st := []) (ls0 := [some (zI x1)]) dX8_fits_1 okY_X8_isMovement rfl rfl zw_6 zw_7 np_X8_isMovement (by decide) (Nat.le_of_ble_eq_true rfl) rfl (Nat.le_of_ble_eq_true rfl) (And.intro rfl trivial) (zc_X8_isMovement x1 M h1) ?_
  refine zS_if_eq (tgt := 26) dX8_fits_4 (by decide) (fun c4 => ?_) (fun c4 => ?_)
  · rw [if_pos c4] at h
    refine zS_bipush (v := (-2 : Int32)) dX8_fits_26 (by decide) ?_
    cases h
    exact zS_ireturn dX8_fits_28 rfl rfl
  · rw [if_neg c4] at h
    refine zS_iload_n dX8_fits_7 rfl rfl ?_
    obtain ⟨r8, h8, h⟩ := zbind h
    refine zS_callS (as := [zI x3]) (st := []) (ls0 := [some (zI x3)]) dX8_fits_8 okY_X8_isNote rfl rfl zw_31 zw_32 np_X8_isNote (by decide) (Nat.le_of_ble_eq_true rfl) rfl (Nat.le_of_ble_eq_true rfl) (And.intro rfl trivial) (zc_X8_isNote x3 M h8) ?_
    refine zS_if_eq (tgt := 26) dX8_fits_11 (by decide) (fun c11 => ?_) (fun c11 => ?_)
    · rw [if_pos c11] at h
      refine zS_bipush (v := (-2 : Int32)) dX8_fits_26 (by decide) ?_
      cases h
      exact zS_ireturn dX8_fits_28 rfl rfl
    · rw [if_neg c11] at h
      refine zS_iload_n dX8_fits_14 rfl rfl ?_
      refine zS_iconst (v := (-1 : Int32)) dX8_fits_15 (by decide) ?_
      refine zS_icmp_eq (tgt := 29) dX8_fits_16 (by decide) (fun c16 => ?_) (fun c16 => ?_)
      · rw [if_pos c16] at h
        exact zS_wk [some (zO 0), some (zI x1), some (zI x2), some (zI x3)] (And.intro rfl (And.intro rfl (And.intro rfl (And.intro rfl trivial)))) (zc_X8_fits_29 x1 x2 x3 M h)
      · rw [if_neg c16] at h
        refine zS_iload_n dX8_fits_19 rfl rfl ?_
        obtain ⟨r20, h20, h⟩ := zbind h
        refine zS_callS (as := [zI x2]) (st := []) (ls0 := [some (zI x2)]) dX8_fits_20 okY_X8_isNote rfl rfl zw_31 zw_32 np_X8_isNote (by decide) (Nat.le_of_ble_eq_true rfl) rfl (Nat.le_of_ble_eq_true rfl) (And.intro rfl trivial) (zc_X8_isNote x2 M h20) ?_
        refine zS_if_ne (tgt := 29) dX8_fits_23 (by decide) (fun c23 => ?_) (fun c23 => ?_)
        · rw [if_neg c23] at h
          exact zS_wk [some (zO 0), some (zI x1), some (zI x2), some (zI x3)] (And.intro rfl (And.intro rfl (And.intro rfl (And.intro rfl trivial)))) (zc_X8_fits_29 x1 x2 x3 M h)
        · rw [if_pos c23] at h
          refine zS_bipush (v := (-2 : Int32)) dX8_fits_26 (by decide) ?_
          cases h
          exact zS_ireturn dX8_fits_28 rfl rfl
def p_X8_step (x1 : Int32) (x2 : Int32) (x3 : Int32) (M : zM) : Option (Int32 × zM) :=
  (p_X8_isNote x1).bind fun r1 =>
  if r1 = 0 then
    some ((-2 : Int32), M)
  else
    (p_X8_isMovementOrLost x3).bind fun r8 =>
    if r8 = 0 then
      some ((-2 : Int32), M)
    else
      (p_X8_within x2 (1 : Int32) (9 : Int32)).bind fun r21 =>
      if r21 = 0 then
        some ((-3 : Int32), M)
      else
        if (M 2 4) < (24 : Int32) then
          (p_X7_append x1 x2 x3 M).bind fun q52 =>
          some (q52.1, q52.2)
        else
          some ((-5 : Int32), M)
set_option maxRecDepth 20000 in
set_option maxHeartbeats 4000000 in
theorem zc_X8_step (x1 : Int32) (x2 : Int32) (x3 : Int32) (M : zM) {r : Int32 × zM} (h : p_X8_step x1 x2 x3 M = some r) : zS Y_X8_step 0 [some (zO 0), some (zI x1), some (zI x2), some (zI x3)] [] M (some r.1, r.2) := by
  rw [p_X8_step] at h
  refine zS_iload_n dX8_step_0 rfl rfl ?_
  obtain ⟨r1, h1, h⟩ := zbind h
  refine zS_callS (as := [zI x1]) (st := []) (ls0 := [some (zI x1)]) dX8_step_1 okY_X8_isNote rfl rfl zw_31 zw_32 np_X8_isNote (by decide) (Nat.le_of_ble_eq_true rfl) rfl (Nat.le_of_ble_eq_true rfl) (And.intro rfl trivial) (zc_X8_isNote x1 M h1) ?_
  refine zS_if_eq (tgt := 14) dX8_step_4 (by decide) (fun c4 => ?_) (fun c4 => ?_)
  · rw [if_pos c4] at h
    refine zS_bipush (v := (-2 : Int32)) dX8_step_14 (by decide) ?_
    cases h
    exact zS_ireturn dX8_step_16 rfl rfl
  · rw [if_neg c4] at h
    refine zS_iload_n dX8_step_7 rfl rfl ?_
    obtain ⟨r8, h8, h⟩ := zbind h
    refine zS_callS (as := [zI x3]) (st := []) (ls0 := [some (zI x3)]) dX8_step_8 okY_X8_isMovementOrLost rfl rfl zw_37 zw_38 np_X8_isMovementOrLost (by decide) (Nat.le_of_ble_eq_true rfl) rfl (Nat.le_of_ble_eq_true rfl) (And.intro rfl trivial) (zc_X8_isMovementOrLost x3 M h8) ?_
    refine zS_if_ne (tgt := 17) dX8_step_11 (by decide) (fun c11 => ?_) (fun c11 => ?_)
    · rw [if_neg c11] at h
      refine zS_iload_n dX8_step_17 rfl rfl ?_
      refine zS_iconst (v := (1 : Int32)) dX8_step_18 (by decide) ?_
      refine zS_bipush (v := (9 : Int32)) dX8_step_19 (by decide) ?_
      obtain ⟨r21, h21, h⟩ := zbind h
      refine zS_callS (as := [zI x2, zI (1 : Int32), zI (9 : Int32)]) (st := []) (ls0 := [some (zI x2), some (zI (1 : Int32)), some (zI (9 : Int32))]) dX8_step_21 okY_X8_within rfl rfl zw_0 zw_1 np_X8_within (by decide) (Nat.le_of_ble_eq_true rfl) rfl (Nat.le_of_ble_eq_true rfl) (And.intro rfl (And.intro rfl (And.intro rfl trivial))) (zc_X8_within x2 (1 : Int32) (9 : Int32) M h21) ?_
      refine zS_if_ne (tgt := 30) dX8_step_24 (by decide) (fun c24 => ?_) (fun c24 => ?_)
      · rw [if_neg c24] at h
        refine zS_aload_nO dX8_step_30 rfl rfl ?_
        refine gf_0_1 dX8_step_31 zw_39 ?_
        refine gf_2_4 dX8_step_34 zw_40 ?_
        refine zS_bipush (v := (24 : Int32)) dX8_step_37 (by decide) ?_
        refine zS_icmp_lt (tgt := 45) dX8_step_39 (by decide) (fun c39 => ?_) (fun c39 => ?_)
        · rw [if_pos c39] at h
          refine zS_aload_nO dX8_step_45 rfl rfl ?_
          refine gf_0_1 dX8_step_46 zw_39 ?_
          refine zS_iload_n dX8_step_49 rfl rfl ?_
          refine zS_iload_n dX8_step_50 rfl rfl ?_
          refine zS_iload_n dX8_step_51 rfl rfl ?_
          obtain ⟨q52, h52, h⟩ := zbind h
          refine zS_callV (as := [zI x1, zI x2, zI x3]) (st := []) (ls0 := [some (zO 2), some (zI x1), some (zI x2), some (zI x3)]) dX8_step_52 okY_X7_append rfl rfl lay_2 rfl zw_41 zw_42 zw_43 np_X7_append (by decide) (Nat.le_of_ble_eq_true rfl) rfl (Nat.le_of_ble_eq_true rfl) (And.intro rfl (And.intro rfl (And.intro rfl (And.intro rfl trivial)))) (zc_X7_append x1 x2 x3 M h52) ?_
          cases h
          exact zS_ireturn dX8_step_55 rfl rfl
        · rw [if_neg c39] at h
          refine zS_bipush (v := (-5 : Int32)) dX8_step_42 (by decide) ?_
          cases h
          exact zS_ireturn dX8_step_44 rfl rfl
      · rw [if_pos c24] at h
        refine zS_bipush (v := (-3 : Int32)) dX8_step_27 (by decide) ?_
        cases h
        exact zS_ireturn dX8_step_29 rfl rfl
    · rw [if_pos c11] at h
      refine zS_bipush (v := (-2 : Int32)) dX8_step_14 (by decide) ?_
      cases h
      exact zS_ireturn dX8_step_16 rfl rfl
def p_X8_isStep (x1 : Int32) (M : zM) : Option (Int32) :=
  (p_X8_within x1 (0 : Int32) ((M 2 4) - (1 : Int32))).bind fun r11 =>
  if r11 = 0 ∨ r11 = 1 then
  some r11
  else none
set_option maxRecDepth 20000 in
set_option maxHeartbeats 4000000 in
theorem zc_X8_isStep (x1 : Int32) (M : zM) {r : Int32} (h : p_X8_isStep x1 M = some r) : zS Y_X8_isStep 0 [some (zO 0), some (zI x1)] [] M (some r, M) := by
  rw [p_X8_isStep] at h
  refine zS_iload_n dX8_isStep_0 rfl rfl ?_
  refine zS_iconst (v := (0 : Int32)) dX8_isStep_1 (by decide) ?_
  refine zS_aload_nO dX8_isStep_2 rfl rfl ?_
  refine gf_0_1 dX8_isStep_3 zw_39 ?_
  refine gf_2_4 dX8_isStep_6 zw_40 ?_
  refine zS_iconst (v := (1 : Int32)) dX8_isStep_9 (by decide) ?_
  refine zS_isub dX8_isStep_10 ?_
  obtain ⟨r11, h11, h⟩ := zbind h
  refine zS_callS (as := [zI x1, zI (0 : Int32), zI ((M 2 4) - (1 : Int32))]) (st := []) (ls0 := [some (zI x1), some (zI (0 : Int32)), some (zI ((M 2 4) - (1 : Int32)))]) dX8_isStep_11 okY_X8_within rfl rfl zw_0 zw_1 np_X8_within (by decide) (Nat.le_of_ble_eq_true rfl) rfl (Nat.le_of_ble_eq_true rfl) (And.intro rfl (And.intro rfl (And.intro rfl trivial))) (zc_X8_within x1 (0 : Int32) ((M 2 4) - (1 : Int32)) M h11) ?_
  by_cases z14 : r11 = 0 ∨ r11 = 1
  rotate_left
  · rw [if_neg z14] at h; cases h
  rw [if_pos z14] at h
  cases h
  exact zS_ireturn dX8_isStep_14 rfl (zbool z14)
def p_X8_put (x1 : Int32) (x2 : Int32) (M : zM) : Option (Int32 × zM) :=
  (p_X8_isStep x1 M).bind fun r2 =>
  if r2 = 0 then
    some ((-2 : Int32), M)
  else
    (p_X8_isMovementOrLost x2).bind fun r9 =>
    if r9 = 0 then
      some ((-2 : Int32), M)
    else
      (p_X8_replace 24 24 x1 x2 M).bind fun q27 =>
      some (q27.1, q27.2)
set_option maxRecDepth 20000 in
set_option maxHeartbeats 4000000 in
theorem zc_X8_put (x1 : Int32) (x2 : Int32) (M : zM) {r : Int32 × zM} (h : p_X8_put x1 x2 M = some r) : zS Y_X8_put 0 [some (zO 0), some (zI x1), some (zI x2)] [] M (some r.1, r.2) := by
  rw [p_X8_put] at h
  refine zS_aload_nO dX8_put_0 rfl rfl ?_
  refine zS_iload_n dX8_put_1 rfl rfl ?_
  obtain ⟨r2, h2, h⟩ := zbind h
  refine zS_callV (as := [zI x1]) (st := []) (ls0 := [some (zO 0), some (zI x1)]) dX8_put_2 okY_X8_isStep rfl rfl lay_0 rfl zw_44 zw_45 zw_46 np_X8_isStep (by decide) (Nat.le_of_ble_eq_true rfl) rfl (Nat.le_of_ble_eq_true rfl) (And.intro rfl (And.intro rfl trivial)) (zc_X8_isStep x1 M h2) ?_
  refine zS_if_eq (tgt := 15) dX8_put_5 (by decide) (fun c5 => ?_) (fun c5 => ?_)
  · rw [if_pos c5] at h
    refine zS_bipush (v := (-2 : Int32)) dX8_put_15 (by decide) ?_
    cases h
    exact zS_ireturn dX8_put_17 rfl rfl
  · rw [if_neg c5] at h
    refine zS_iload_n dX8_put_8 rfl rfl ?_
    obtain ⟨r9, h9, h⟩ := zbind h
    refine zS_callS (as := [zI x2]) (st := []) (ls0 := [some (zI x2)]) dX8_put_9 okY_X8_isMovementOrLost rfl rfl zw_37 zw_38 np_X8_isMovementOrLost (by decide) (Nat.le_of_ble_eq_true rfl) rfl (Nat.le_of_ble_eq_true rfl) (And.intro rfl trivial) (zc_X8_isMovementOrLost x2 M h9) ?_
    refine zS_if_ne (tgt := 18) dX8_put_12 (by decide) (fun c12 => ?_) (fun c12 => ?_)
    · rw [if_neg c12] at h
      refine zS_aload_nO dX8_put_18 rfl rfl ?_
      refine gf_0_1 dX8_put_19 zw_39 ?_
      refine gf_2_3 dX8_put_22 zw_47 ?_
      refine zS_iload_n dX8_put_25 rfl rfl ?_
      refine zS_iload_n dX8_put_26 rfl rfl ?_
      obtain ⟨q27, h27, h⟩ := zbind h
      refine zS_callS (as := [zA 24 24, zI x1, zI x2]) (st := []) (ls0 := [some (zA 24 24), some (zI x1), some (zI x2), none]) dX8_put_27 okY_X8_replace rfl rfl zw_15 zw_16 np_X8_replace (by decide) (Nat.le_of_ble_eq_true rfl) rfl (Nat.le_of_ble_eq_true rfl) (And.intro rfl (And.intro rfl (And.intro rfl trivial))) (zc_X8_replace 24 24 x1 x2 M h27) ?_
      cases h
      exact zS_ireturn dX8_put_30 rfl rfl
    · rw [if_pos c12] at h
      refine zS_bipush (v := (-2 : Int32)) dX8_put_15 (by decide) ?_
      cases h
      exact zS_ireturn dX8_put_17 rfl rfl
def p_X8_back (M : zM) : Option (Int32 × zM) :=
  if (M 2 4) = 0 then
    some ((-4 : Int32), M)
  else
    some ((zset M 2 4 ((M 2 4) - (1 : Int32))) 2 4, zset M 2 4 ((M 2 4) - (1 : Int32)))
set_option maxRecDepth 20000 in
set_option maxHeartbeats 4000000 in
theorem zc_X8_back (M : zM) {r : Int32 × zM} (h : p_X8_back M = some r) : zS Y_X8_back 0 [some (zO 0)] [] M (some r.1, r.2) := by
  rw [p_X8_back] at h
  refine zS_aload_nO dX8_back_0 rfl rfl ?_
  refine gf_0_1 dX8_back_1 zw_39 ?_
  refine gf_2_4 dX8_back_4 zw_40 ?_
  refine zS_if_ne (tgt := 13) dX8_back_7 (by decide) (fun c7 => ?_) (fun c7 => ?_)
  · rw [if_neg c7] at h
    refine zS_aload_nO dX8_back_13 rfl rfl ?_
    refine gf_0_1 dX8_back_14 zw_39 ?_
    refine zS_dup dX8_back_17 rfl ?_
    refine gf_2_4 dX8_back_18 zw_40 ?_
    refine zS_iconst (v := (1 : Int32)) dX8_back_21 (by decide) ?_
    refine zS_isub dX8_back_22 ?_
    refine pf_2_4 dX8_back_23 zw_40 ?_
    refine zS_aload_nO dX8_back_26 rfl rfl ?_
    refine gf_0_1 dX8_back_27 zw_39 ?_
    refine gf_2_4 dX8_back_30 zw_40 ?_
    cases h
    exact zS_ireturn dX8_back_33 rfl rfl
  · rw [if_pos c7] at h
    refine zS_bipush (v := (-4 : Int32)) dX8_back_10 (by decide) ?_
    cases h
    exact zS_ireturn dX8_back_12 rfl rfl
def p_X8_wrong (M : zM) : Option (Int32) :=
  (p_X7_firstWrong M).bind fun r4 =>
  some r4
set_option maxRecDepth 20000 in
set_option maxHeartbeats 4000000 in
theorem zc_X8_wrong (M : zM) {r : Int32} (h : p_X8_wrong M = some r) : zS Y_X8_wrong 0 [some (zO 0)] [] M (some r, M) := by
  rw [p_X8_wrong] at h
  refine zS_aload_nO dX8_wrong_0 rfl rfl ?_
  refine gf_0_1 dX8_wrong_1 zw_39 ?_
  obtain ⟨r4, h4, h⟩ := zbind h
  refine zS_callV (as := []) (st := []) (ls0 := [some (zO 2), none]) dX8_wrong_4 okY_X7_firstWrong rfl rfl lay_2 rfl zw_57 zw_58 zw_59 np_X7_firstWrong (by decide) (Nat.le_of_ble_eq_true rfl) rfl (Nat.le_of_ble_eq_true rfl) (And.intro rfl trivial) (zc_X7_firstWrong M h4) ?_
  cases h
  exact zS_ireturn dX8_wrong_7 rfl rfl
def p_X8_fillings (M : zM) : Option (Int32) :=
  (p_X7_fillingCount M).bind fun r4 =>
  some r4
set_option maxRecDepth 20000 in
set_option maxHeartbeats 4000000 in
theorem zc_X8_fillings (M : zM) {r : Int32} (h : p_X8_fillings M = some r) : zS Y_X8_fillings 0 [some (zO 0)] [] M (some r, M) := by
  rw [p_X8_fillings] at h
  refine zS_aload_nO dX8_fillings_0 rfl rfl ?_
  refine gf_0_1 dX8_fillings_1 zw_39 ?_
  obtain ⟨r4, h4, h⟩ := zbind h
  refine zS_callV (as := []) (st := []) (ls0 := [some (zO 2), none, none]) dX8_fillings_4 okY_X7_fillingCount rfl rfl lay_2 rfl zw_68 zw_69 zw_70 np_X7_fillingCount (by decide) (Nat.le_of_ble_eq_true rfl) rfl (Nat.le_of_ble_eq_true rfl) (And.intro rfl trivial) (zc_X7_fillingCount M h4) ?_
  cases h
  exact zS_ireturn dX8_fillings_7 rfl rfl
def p_X8_quickest (x1 : Int32) (M : zM) : Option (Int32) :=
  (p_X8_isStep x1 M).bind fun r2 =>
  if r2 = 0 then
    some (-2 : Int32)
  else
    (p_X7_fillingCount M).bind fun r15 =>
    if r15 ≤ 0 then
      some (-1 : Int32)
    else
      (p_X7_quickestAt x1 M).bind fun r26 =>
      some r26
set_option maxRecDepth 20000 in
set_option maxHeartbeats 4000000 in
theorem zc_X8_quickest (x1 : Int32) (M : zM) {r : Int32} (h : p_X8_quickest x1 M = some r) : zS Y_X8_quickest 0 [some (zO 0), some (zI x1)] [] M (some r, M) := by
  rw [p_X8_quickest] at h
  refine zS_aload_nO dX8_quickest_0 rfl rfl ?_
  refine zS_iload_n dX8_quickest_1 rfl rfl ?_
  obtain ⟨r2, h2, h⟩ := zbind h
  refine zS_callV (as := [zI x1]) (st := []) (ls0 := [some (zO 0), some (zI x1)]) dX8_quickest_2 okY_X8_isStep rfl rfl lay_0 rfl zw_44 zw_45 zw_46 np_X8_isStep (by decide) (Nat.le_of_ble_eq_true rfl) rfl (Nat.le_of_ble_eq_true rfl) (And.intro rfl (And.intro rfl trivial)) (zc_X8_isStep x1 M h2) ?_
  refine zS_if_ne (tgt := 11) dX8_quickest_5 (by decide) (fun c5 => ?_) (fun c5 => ?_)
  · rw [if_neg c5] at h
    refine zS_aload_nO dX8_quickest_11 rfl rfl ?_
    refine gf_0_1 dX8_quickest_12 zw_39 ?_
    obtain ⟨r15, h15, h⟩ := zbind h
    refine zS_callV (as := []) (st := []) (ls0 := [some (zO 2), none, none]) dX8_quickest_15 okY_X7_fillingCount rfl rfl lay_2 rfl zw_68 zw_69 zw_70 np_X7_fillingCount (by decide) (Nat.le_of_ble_eq_true rfl) rfl (Nat.le_of_ble_eq_true rfl) (And.intro rfl trivial) (zc_X7_fillingCount M h15) ?_
    refine zS_if_le (tgt := 32) dX8_quickest_18 (by decide) (fun c18 => ?_) (fun c18 => ?_)
    · rw [if_pos c18] at h
      refine zS_iconst (v := (-1 : Int32)) dX8_quickest_32 (by decide) ?_
      cases h
      exact zS_ireturn dX8_quickest_33 rfl rfl
    · rw [if_neg c18] at h
      refine zS_aload_nO dX8_quickest_21 rfl rfl ?_
      refine gf_0_1 dX8_quickest_22 zw_39 ?_
      refine zS_iload_n dX8_quickest_25 rfl rfl ?_
      obtain ⟨r26, h26, h⟩ := zbind h
      refine zS_callV (as := [zI x1]) (st := []) (ls0 := [some (zO 2), some (zI x1), none, none]) dX8_quickest_26 okY_X7_quickestAt rfl rfl lay_2 rfl zw_72 zw_73 zw_74 np_X7_quickestAt (by decide) (Nat.le_of_ble_eq_true rfl) rfl (Nat.le_of_ble_eq_true rfl) (And.intro rfl (And.intro rfl trivial)) (zc_X7_quickestAt x1 M h26) ?_
      refine zS_goto (tgt := 33) dX8_quickest_29 (by decide) ?_
      cases h
      exact zS_ireturn dX8_quickest_33 rfl rfl
  · rw [if_pos c5] at h
    refine zS_bipush (v := (-2 : Int32)) dX8_quickest_8 (by decide) ?_
    cases h
    exact zS_ireturn dX8_quickest_10 rfl rfl
def p_X8_graces (M : zM) : Option (Int32) :=
  (p_X7_fillingCount M).bind fun r4 =>
  if r4 ≤ 0 then
    some (-1 : Int32)
  else
    (p_X7_quickestGraces M).bind fun r14 =>
    some r14
set_option maxRecDepth 20000 in
set_option maxHeartbeats 4000000 in
theorem zc_X8_graces (M : zM) {r : Int32} (h : p_X8_graces M = some r) : zS Y_X8_graces 0 [some (zO 0)] [] M (some r, M) := by
  rw [p_X8_graces] at h
  refine zS_aload_nO dX8_graces_0 rfl rfl ?_
  refine gf_0_1 dX8_graces_1 zw_39 ?_
  obtain ⟨r4, h4, h⟩ := zbind h
  refine zS_callV (as := []) (st := []) (ls0 := [some (zO 2), none, none]) dX8_graces_4 okY_X7_fillingCount rfl rfl lay_2 rfl zw_68 zw_69 zw_70 np_X7_fillingCount (by decide) (Nat.le_of_ble_eq_true rfl) rfl (Nat.le_of_ble_eq_true rfl) (And.intro rfl trivial) (zc_X7_fillingCount M h4) ?_
  refine zS_if_le (tgt := 20) dX8_graces_7 (by decide) (fun c7 => ?_) (fun c7 => ?_)
  · rw [if_pos c7] at h
    refine zS_iconst (v := (-1 : Int32)) dX8_graces_20 (by decide) ?_
    cases h
    exact zS_ireturn dX8_graces_21 rfl rfl
  · rw [if_neg c7] at h
    refine zS_aload_nO dX8_graces_10 rfl rfl ?_
    refine gf_0_1 dX8_graces_11 zw_39 ?_
    obtain ⟨r14, h14, h⟩ := zbind h
    refine zS_callV (as := []) (st := []) (ls0 := [some (zO 2), none, none, none]) dX8_graces_14 okY_X7_quickestGraces rfl rfl lay_2 rfl zw_76 zw_77 zw_78 np_X7_quickestGraces (by decide) (Nat.le_of_ble_eq_true rfl) rfl (Nat.le_of_ble_eq_true rfl) (And.intro rfl trivial) (zc_X7_quickestGraces M h14) ?_
    refine zS_goto (tgt := 21) dX8_graces_17 (by decide) ?_
    cases h
    exact zS_ireturn dX8_graces_21 rfl rfl
def p_X8_region_72 (x1 : Int32) (x3 : Int32) (x4 : Int32) (x5 : Int32) (t2 : Int32) (t1 : Int32) (t0 : Int32) (M : zM) : Option (Int32 × zM) :=
  (p_X8_within t0 t1 t2).bind fun r72 =>
  if r72 = 0 then
    some ((-3 : Int32), M)
  else
    if x5 = 0 then
      if x1 < 0 ∨ 3 ≤ x1.toNatClampNeg then none else
      (p_X8_replace (30 + x1.toNatClampNeg) 9 x3 x4 M).bind fun q110 =>
      some (q110.1, q110.2)
    else
      if x1 < 0 ∨ 3 ≤ x1.toNatClampNeg then none else
      (p_X8_replace (26 + x1.toNatClampNeg) 8 x3 x4 M).bind fun q110 =>
      some (q110.1, q110.2)
set_option maxRecDepth 20000 in
set_option maxHeartbeats 4000000 in
theorem zc_X8_region_72 (x1 : Int32) (x3 : Int32) (x4 : Int32) (x5 : Int32) (t2 : Int32) (t1 : Int32) (t0 : Int32) (M : zM) {r : Int32 × zM} (h : p_X8_region_72 x1 x3 x4 x5 t2 t1 t0 M = some r) : zS Y_X8_region 72 [some (zO 0), some (zI x1), none, some (zI x3), some (zI x4), some (zI x5)] [zI t2, zI t1, zI t0] M (some r.1, r.2) := by
  rw [p_X8_region_72] at h
  obtain ⟨r72, h72, h⟩ := zbind h
  refine zS_callS (as := [zI t0, zI t1, zI t2]) (st := []) (ls0 := [some (zI t0), some (zI t1), some (zI t2)]) dX8_region_72 okY_X8_within rfl rfl zw_0 zw_1 np_X8_within (by decide) (Nat.le_of_ble_eq_true rfl) rfl (Nat.le_of_ble_eq_true rfl) (And.intro rfl (And.intro rfl (And.intro rfl trivial))) (zc_X8_within t0 t1 t2 M h72) ?_
  refine zS_if_ne (tgt := 81) dX8_region_75 (by decide) (fun c75 => ?_) (fun c75 => ?_)
  · rw [if_neg c75] at h
    refine zS_iload dX8_region_81 rfl ?_
    refine zS_if_eq (tgt := 98) dX8_region_83 (by decide) (fun c83 => ?_) (fun c83 => ?_)
    · rw [if_pos c83] at h
      refine zS_aload_nO dX8_region_98 rfl rfl ?_
      refine gf_0_2 dX8_region_99 zw_79 ?_
      refine gf_3_2 dX8_region_102 zw_80 ?_
      refine zS_iload_n dX8_region_105 rfl rfl ?_
      by_cases b106 : x1 < 0 ∨ 3 ≤ x1.toNatClampNeg
      · rw [if_pos b106] at h; cases h
      rw [if_neg b106] at h
      refine zS_aald lay_29 b106 dX8_region_106 ?_
      refine zS_iload_n dX8_region_107 rfl rfl ?_
      refine zS_iload dX8_region_108 rfl ?_
      obtain ⟨q110, h110, h⟩ := zbind h
      refine zS_callS (as := [zA (30 + x1.toNatClampNeg) 9, zI x3, zI x4]) (st := []) (ls0 := [some (zA (30 + x1.toNatClampNeg) 9), some (zI x3), some (zI x4), none]) dX8_region_110 okY_X8_replace rfl rfl zw_15 zw_16 np_X8_replace (by decide) (Nat.le_of_ble_eq_true rfl) rfl (Nat.le_of_ble_eq_true rfl) (And.intro rfl (And.intro rfl (And.intro rfl trivial))) (zc_X8_replace (30 + x1.toNatClampNeg) 9 x3 x4 M h110) ?_
      cases h
      exact zS_ireturn dX8_region_113 rfl rfl
    · rw [if_neg c83] at h
      refine zS_aload_nO dX8_region_86 rfl rfl ?_
      refine gf_0_2 dX8_region_87 zw_79 ?_
      refine gf_3_1 dX8_region_90 zw_81 ?_
      refine zS_iload_n dX8_region_93 rfl rfl ?_
      by_cases b94 : x1 < 0 ∨ 3 ≤ x1.toNatClampNeg
      · rw [if_pos b94] at h; cases h
      rw [if_neg b94] at h
      refine zS_aald lay_25 b94 dX8_region_94 ?_
      refine zS_goto (tgt := 107) dX8_region_95 (by decide) ?_
      refine zS_iload_n dX8_region_107 rfl rfl ?_
      refine zS_iload dX8_region_108 rfl ?_
      obtain ⟨q110, h110, h⟩ := zbind h
      refine zS_callS (as := [zA (26 + x1.toNatClampNeg) 8, zI x3, zI x4]) (st := []) (ls0 := [some (zA (26 + x1.toNatClampNeg) 8), some (zI x3), some (zI x4), none]) dX8_region_110 okY_X8_replace rfl rfl zw_15 zw_16 np_X8_replace (by decide) (Nat.le_of_ble_eq_true rfl) rfl (Nat.le_of_ble_eq_true rfl) (And.intro rfl (And.intro rfl (And.intro rfl trivial))) (zc_X8_replace (26 + x1.toNatClampNeg) 8 x3 x4 M h110) ?_
      cases h
      exact zS_ireturn dX8_region_113 rfl rfl
  · rw [if_pos c75] at h
    refine zS_bipush (v := (-3 : Int32)) dX8_region_78 (by decide) ?_
    cases h
    exact zS_ireturn dX8_region_80 rfl rfl
def p_X8_region_58 (x1 : Int32) (x3 : Int32) (x4 : Int32) (x5 : Int32) (M : zM) : Option (Int32 × zM) :=
  if x5 = 0 then
    p_X8_region_72 x1 x3 x4 x5 (3 : Int32) (0 : Int32) x4 M
  else
    p_X8_region_72 x1 x3 x4 x5 (7 : Int32) (0 : Int32) x4 M
set_option maxRecDepth 20000 in
set_option maxHeartbeats 4000000 in
theorem zc_X8_region_58 (x1 : Int32) (x3 : Int32) (x4 : Int32) (x5 : Int32) (M : zM) {r : Int32 × zM} (h : p_X8_region_58 x1 x3 x4 x5 M = some r) : zS Y_X8_region 58 [some (zO 0), some (zI x1), none, some (zI x3), some (zI x4), some (zI x5)] [] M (some r.1, r.2) := by
  rw [p_X8_region_58] at h
  refine zS_iload dX8_region_58 rfl ?_
  refine zS_iconst (v := (0 : Int32)) dX8_region_60 (by decide) ?_
  refine zS_iload dX8_region_61 rfl ?_
  refine zS_if_eq (tgt := 71) dX8_region_63 (by decide) (fun c63 => ?_) (fun c63 => ?_)
  · rw [if_pos c63] at h
    refine zS_iconst (v := (3 : Int32)) dX8_region_71 (by decide) ?_
    exact zS_wk [some (zO 0), some (zI x1), none, some (zI x3), some (zI x4), some (zI x5)] (And.intro rfl (And.intro rfl (And.intro rfl (And.intro rfl (And.intro rfl trivial))))) (zc_X8_region_72 x1 x3 x4 x5 (3 : Int32) (0 : Int32) x4 M h)
  · rw [if_neg c63] at h
    refine zS_bipush (v := (7 : Int32)) dX8_region_66 (by decide) ?_
    refine zS_goto (tgt := 72) dX8_region_68 (by decide) ?_
    exact zS_wk [some (zO 0), some (zI x1), none, some (zI x3), some (zI x4), some (zI x5)] (And.intro rfl (And.intro rfl (And.intro rfl (And.intro rfl (And.intro rfl trivial))))) (zc_X8_region_72 x1 x3 x4 x5 (7 : Int32) (0 : Int32) x4 M h)
def p_X8_region_31 (x1 : Int32) (x3 : Int32) (x4 : Int32) (t0 : Int32) (M : zM) : Option (Int32 × zM) :=
  if t0 = 0 then
    (p_X8_isNote x3).bind fun r49 =>
    if r49 = 0 then
      some ((-2 : Int32), M)
    else
      p_X8_region_58 x1 x3 x4 t0 M
  else
    (p_X8_isMovement x3).bind fun r39 =>
    if r39 = 0 then
      some ((-2 : Int32), M)
    else
      p_X8_region_58 x1 x3 x4 t0 M
set_option maxRecDepth 20000 in
set_option maxHeartbeats 4000000 in
theorem zc_X8_region_31 (x1 : Int32) (x3 : Int32) (x4 : Int32) (t0 : Int32) (M : zM) {r : Int32 × zM} (h : p_X8_region_31 x1 x3 x4 t0 M = some r) : zS Y_X8_region 31 [some (zO 0), some (zI x1), none, some (zI x3), some (zI x4), none] [zI t0] M (some r.1, r.2) := by
  rw [p_X8_region_31] at h
  refine zS_istore (ls' := [some (zO 0), some (zI x1), none, some (zI x3), some (zI x4), some (zI t0)]) dX8_region_31 (by decide) rfl rfl ?_
  refine zS_iload dX8_region_33 rfl ?_
  refine zS_if_eq (tgt := 48) dX8_region_35 (by decide) (fun c35 => ?_) (fun c35 => ?_)
  · rw [if_pos c35] at h
    refine zS_iload_n dX8_region_48 rfl rfl ?_
    obtain ⟨r49, h49, h⟩ := zbind h
    refine zS_callS (as := [zI x3]) (st := []) (ls0 := [some (zI x3)]) dX8_region_49 okY_X8_isNote rfl rfl zw_31 zw_32 np_X8_isNote (by decide) (Nat.le_of_ble_eq_true rfl) rfl (Nat.le_of_ble_eq_true rfl) (And.intro rfl trivial) (zc_X8_isNote x3 M h49) ?_
    refine zS_if_ne (tgt := 58) dX8_region_52 (by decide) (fun c52 => ?_) (fun c52 => ?_)
    · rw [if_neg c52] at h
      exact zS_wk [some (zO 0), some (zI x1), none, some (zI x3), some (zI x4), some (zI t0)] (And.intro rfl (And.intro rfl (And.intro rfl (And.intro rfl (And.intro rfl trivial))))) (zc_X8_region_58 x1 x3 x4 t0 M h)
    · rw [if_pos c52] at h
      refine zS_bipush (v := (-2 : Int32)) dX8_region_55 (by decide) ?_
      cases h
      exact zS_ireturn dX8_region_57 rfl rfl
  · rw [if_neg c35] at h
    refine zS_iload_n dX8_region_38 rfl rfl ?_
    obtain ⟨r39, h39, h⟩ := zbind h
    refine zS_callS (as := [zI x3]) (st := []) (ls0 := [some (zI x3)]) dX8_region_39 okY_X8_isMovement rfl rfl zw_6 zw_7 np_X8_isMovement (by decide) (Nat.le_of_ble_eq_true rfl) rfl (Nat.le_of_ble_eq_true rfl) (And.intro rfl trivial) (zc_X8_isMovement x3 M h39) ?_
    refine zS_if_ne (tgt := 58) dX8_region_42 (by decide) (fun c42 => ?_) (fun c42 => ?_)
    · rw [if_neg c42] at h
      exact zS_wk [some (zO 0), some (zI x1), none, some (zI x3), some (zI x4), some (zI t0)] (And.intro rfl (And.intro rfl (And.intro rfl (And.intro rfl (And.intro rfl trivial))))) (zc_X8_region_58 x1 x3 x4 t0 M h)
    · rw [if_pos c42] at h
      refine zS_goto (tgt := 55) dX8_region_45 (by decide) ?_
      refine zS_bipush (v := (-2 : Int32)) dX8_region_55 (by decide) ?_
      cases h
      exact zS_ireturn dX8_region_57 rfl rfl
def p_X8_region (x1 : Int32) (x2 : Int32) (x3 : Int32) (x4 : Int32) (M : zM) : Option (Int32 × zM) :=
  (p_X8_isRegion x1).bind fun r1 =>
  if r1 = 0 then
    some ((-2 : Int32), M)
  else
    (p_X8_within x2 (0 : Int32) (1 : Int32)).bind fun r13 =>
    if r13 = 0 then
      some ((-3 : Int32), M)
    else
      if x2 = 0 then
        p_X8_region_31 x1 x3 x4 (1 : Int32) M
      else
        p_X8_region_31 x1 x3 x4 (0 : Int32) M
set_option maxRecDepth 20000 in
set_option maxHeartbeats 4000000 in
theorem zc_X8_region (x1 : Int32) (x2 : Int32) (x3 : Int32) (x4 : Int32) (M : zM) {r : Int32 × zM} (h : p_X8_region x1 x2 x3 x4 M = some r) : zS Y_X8_region 0 [some (zO 0), some (zI x1), some (zI x2), some (zI x3), some (zI x4), none] [] M (some r.1, r.2) := by
  rw [p_X8_region] at h
  refine zS_iload_n dX8_region_0 rfl rfl ?_
  obtain ⟨r1, h1, h⟩ := zbind h
  refine zS_callS (as := [zI x1]) (st := []) (ls0 := [some (zI x1)]) dX8_region_1 okY_X8_isRegion rfl rfl zw_82 zw_83 np_X8_isRegion (by decide) (Nat.le_of_ble_eq_true rfl) rfl (Nat.le_of_ble_eq_true rfl) (And.intro rfl trivial) (zc_X8_isRegion x1 M h1) ?_
  refine zS_if_ne (tgt := 10) dX8_region_4 (by decide) (fun c4 => ?_) (fun c4 => ?_)
  · rw [if_neg c4] at h
    refine zS_iload_n dX8_region_10 rfl rfl ?_
    refine zS_iconst (v := (0 : Int32)) dX8_region_11 (by decide) ?_
    refine zS_iconst (v := (1 : Int32)) dX8_region_12 (by decide) ?_
    obtain ⟨r13, h13, h⟩ := zbind h
    refine zS_callS (as := [zI x2, zI (0 : Int32), zI (1 : Int32)]) (st := []) (ls0 := [some (zI x2), some (zI (0 : Int32)), some (zI (1 : Int32))]) dX8_region_13 okY_X8_within rfl rfl zw_0 zw_1 np_X8_within (by decide) (Nat.le_of_ble_eq_true rfl) rfl (Nat.le_of_ble_eq_true rfl) (And.intro rfl (And.intro rfl (And.intro rfl trivial))) (zc_X8_within x2 (0 : Int32) (1 : Int32) M h13) ?_
    refine zS_if_ne (tgt := 22) dX8_region_16 (by decide) (fun c16 => ?_) (fun c16 => ?_)
    · rw [if_neg c16] at h
      refine zS_iload_n dX8_region_22 rfl rfl ?_
      refine zS_if_ne (tgt := 30) dX8_region_23 (by decide) (fun c23 => ?_) (fun c23 => ?_)
      · rw [if_neg c23] at h
        refine zS_iconst (v := (0 : Int32)) dX8_region_30 (by decide) ?_
        exact zS_wk [some (zO 0), some (zI x1), none, some (zI x3), some (zI x4), none] (And.intro rfl (And.intro rfl (And.intro rfl (And.intro rfl trivial)))) (zc_X8_region_31 x1 x3 x4 (0 : Int32) M h)
      · rw [if_pos c23] at h
        refine zS_iconst (v := (1 : Int32)) dX8_region_26 (by decide) ?_
        refine zS_goto (tgt := 31) dX8_region_27 (by decide) ?_
        exact zS_wk [some (zO 0), some (zI x1), none, some (zI x3), some (zI x4), none] (And.intro rfl (And.intro rfl (And.intro rfl (And.intro rfl trivial)))) (zc_X8_region_31 x1 x3 x4 (1 : Int32) M h)
    · rw [if_pos c16] at h
      refine zS_bipush (v := (-3 : Int32)) dX8_region_19 (by decide) ?_
      cases h
      exact zS_ireturn dX8_region_21 rfl rfl
  · rw [if_pos c4] at h
    refine zS_bipush (v := (-2 : Int32)) dX8_region_7 (by decide) ?_
    cases h
    exact zS_ireturn dX8_region_9 rfl rfl
def p_X8_sung (x1 : Int32) (x2 : Int32) (M : zM) : Option (Int32) :=
  (p_X8_isRegion x1).bind fun r1 =>
  if r1 = 0 then
    some (-2 : Int32)
  else
    (p_X8_isStep x2 M).bind fun r9 =>
    if r9 = 0 then
      some (-2 : Int32)
    else
      if x2 < 0 ∨ 24 ≤ x2.toNatClampNeg then none else
      if (M 24 x2.toNatClampNeg) = (-1 : Int32) then
        some (-4 : Int32)
      else
        if x2 < 0 ∨ 24 ≤ x2.toNatClampNeg then none else
        (p_X6_sound x1 (M 22 x2.toNatClampNeg) (M 24 x2.toNatClampNeg) M).bind fun r51 =>
        some r51
set_option maxRecDepth 20000 in
set_option maxHeartbeats 4000000 in
theorem zc_X8_sung (x1 : Int32) (x2 : Int32) (M : zM) {r : Int32} (h : p_X8_sung x1 x2 M = some r) : zS Y_X8_sung 0 [some (zO 0), some (zI x1), some (zI x2), none] [] M (some r, M) := by
  rw [p_X8_sung] at h
  refine zS_iload_n dX8_sung_0 rfl rfl ?_
  obtain ⟨r1, h1, h⟩ := zbind h
  refine zS_callS (as := [zI x1]) (st := []) (ls0 := [some (zI x1)]) dX8_sung_1 okY_X8_isRegion rfl rfl zw_82 zw_83 np_X8_isRegion (by decide) (Nat.le_of_ble_eq_true rfl) rfl (Nat.le_of_ble_eq_true rfl) (And.intro rfl trivial) (zc_X8_isRegion x1 M h1) ?_
  refine zS_if_eq (tgt := 15) dX8_sung_4 (by decide) (fun c4 => ?_) (fun c4 => ?_)
  · rw [if_pos c4] at h
    refine zS_bipush (v := (-2 : Int32)) dX8_sung_15 (by decide) ?_
    cases h
    exact zS_ireturn dX8_sung_17 rfl rfl
  · rw [if_neg c4] at h
    refine zS_aload_nO dX8_sung_7 rfl rfl ?_
    refine zS_iload_n dX8_sung_8 rfl rfl ?_
    obtain ⟨r9, h9, h⟩ := zbind h
    refine zS_callV (as := [zI x2]) (st := []) (ls0 := [some (zO 0), some (zI x2)]) dX8_sung_9 okY_X8_isStep rfl rfl lay_0 rfl zw_44 zw_45 zw_46 np_X8_isStep (by decide) (Nat.le_of_ble_eq_true rfl) rfl (Nat.le_of_ble_eq_true rfl) (And.intro rfl (And.intro rfl trivial)) (zc_X8_isStep x2 M h9) ?_
    refine zS_if_ne (tgt := 18) dX8_sung_12 (by decide) (fun c12 => ?_) (fun c12 => ?_)
    · rw [if_neg c12] at h
      refine zS_aload_nO dX8_sung_18 rfl rfl ?_
      refine gf_0_1 dX8_sung_19 zw_39 ?_
      refine gf_2_3 dX8_sung_22 zw_47 ?_
      refine zS_iload_n dX8_sung_25 rfl rfl ?_
      by_cases b26 : x2 < 0 ∨ 24 ≤ x2.toNatClampNeg
      · rw [if_pos b26] at h; cases h
      rw [if_neg b26] at h
      refine zS_iald b26 dX8_sung_26 ?_
      refine zS_istore_n (ls' := [some (zO 0), some (zI x1), some (zI x2), some (zI (M 24 x2.toNatClampNeg))]) dX8_sung_27 rfl (by decide) rfl rfl ?_
      refine zS_iload_n dX8_sung_28 rfl rfl ?_
      refine zS_iconst (v := (-1 : Int32)) dX8_sung_29 (by decide) ?_
      refine zS_icmp_ne (tgt := 36) dX8_sung_30 (by decide) (fun c30 => ?_) (fun c30 => ?_)
      · rw [if_neg c30] at h
        refine zS_aload_nO dX8_sung_36 rfl rfl ?_
        refine gf_0_2 dX8_sung_37 zw_79 ?_
        refine zS_iload_n dX8_sung_40 rfl rfl ?_
        refine zS_aload_nO dX8_sung_41 rfl rfl ?_
        refine gf_0_1 dX8_sung_42 zw_39 ?_
        refine gf_2_1 dX8_sung_45 zw_86 ?_
        refine zS_iload_n dX8_sung_48 rfl rfl ?_
        by_cases b49 : x2 < 0 ∨ 24 ≤ x2.toNatClampNeg
        · rw [if_pos b49] at h; cases h
        rw [if_neg b49] at h
        refine zS_iald b49 dX8_sung_49 ?_
        refine zS_iload_n dX8_sung_50 rfl rfl ?_
        obtain ⟨r51, h51, h⟩ := zbind h
        refine zS_callV (as := [zI x1, zI (M 22 x2.toNatClampNeg), zI (M 24 x2.toNatClampNeg)]) (st := []) (ls0 := [some (zO 3), some (zI x1), some (zI (M 22 x2.toNatClampNeg)), some (zI (M 24 x2.toNatClampNeg))]) dX8_sung_51 okY_X6_sound rfl rfl lay_3 rfl zw_87 zw_88 zw_89 np_X6_sound (by decide) (Nat.le_of_ble_eq_true rfl) rfl (Nat.le_of_ble_eq_true rfl) (And.intro rfl (And.intro rfl (And.intro rfl (And.intro rfl trivial)))) (zc_X6_sound x1 (M 22 x2.toNatClampNeg) (M 24 x2.toNatClampNeg) M h51) ?_
        cases h
        exact zS_ireturn dX8_sung_54 rfl rfl
      · rw [if_pos c30] at h
        refine zS_bipush (v := (-4 : Int32)) dX8_sung_33 (by decide) ?_
        cases h
        exact zS_ireturn dX8_sung_35 rfl rfl
    · rw [if_pos c12] at h
      refine zS_bipush (v := (-2 : Int32)) dX8_sung_15 (by decide) ?_
      cases h
      exact zS_ireturn dX8_sung_17 rfl rfl
def p_X8_syllable (x1 : Int32) (M : zM) : Option (Int32 × zM) :=
  (p_X8_within x1 (0 : Int32) (31 : Int32)).bind fun r4 =>
  if r4 = 0 then
    some ((-3 : Int32), M)
  else
    if (M 3 4) < (12 : Int32) then
      (p_X6_append x1 M).bind fun q33 =>
      some (q33.1, q33.2)
    else
      some ((-5 : Int32), M)
set_option maxRecDepth 20000 in
set_option maxHeartbeats 4000000 in
theorem zc_X8_syllable (x1 : Int32) (M : zM) {r : Int32 × zM} (h : p_X8_syllable x1 M = some r) : zS Y_X8_syllable 0 [some (zO 0), some (zI x1)] [] M (some r.1, r.2) := by
  rw [p_X8_syllable] at h
  refine zS_iload_n dX8_syllable_0 rfl rfl ?_
  refine zS_iconst (v := (0 : Int32)) dX8_syllable_1 (by decide) ?_
  refine zS_bipush (v := (31 : Int32)) dX8_syllable_2 (by decide) ?_
  obtain ⟨r4, h4, h⟩ := zbind h
  refine zS_callS (as := [zI x1, zI (0 : Int32), zI (31 : Int32)]) (st := []) (ls0 := [some (zI x1), some (zI (0 : Int32)), some (zI (31 : Int32))]) dX8_syllable_4 okY_X8_within rfl rfl zw_0 zw_1 np_X8_within (by decide) (Nat.le_of_ble_eq_true rfl) rfl (Nat.le_of_ble_eq_true rfl) (And.intro rfl (And.intro rfl (And.intro rfl trivial))) (zc_X8_within x1 (0 : Int32) (31 : Int32) M h4) ?_
  refine zS_if_ne (tgt := 13) dX8_syllable_7 (by decide) (fun c7 => ?_) (fun c7 => ?_)
  · rw [if_neg c7] at h
    refine zS_aload_nO dX8_syllable_13 rfl rfl ?_
    refine gf_0_2 dX8_syllable_14 zw_79 ?_
    refine gf_3_4 dX8_syllable_17 zw_92 ?_
    refine zS_bipush (v := (12 : Int32)) dX8_syllable_20 (by decide) ?_
    refine zS_icmp_lt (tgt := 28) dX8_syllable_22 (by decide) (fun c22 => ?_) (fun c22 => ?_)
    · rw [if_pos c22] at h
      refine zS_aload_nO dX8_syllable_28 rfl rfl ?_
      refine gf_0_2 dX8_syllable_29 zw_79 ?_
      refine zS_iload_n dX8_syllable_32 rfl rfl ?_
      obtain ⟨q33, h33, h⟩ := zbind h
      refine zS_callV (as := [zI x1]) (st := []) (ls0 := [some (zO 3), some (zI x1)]) dX8_syllable_33 okY_X6_append rfl rfl lay_3 rfl zw_93 zw_94 zw_95 np_X6_append (by decide) (Nat.le_of_ble_eq_true rfl) rfl (Nat.le_of_ble_eq_true rfl) (And.intro rfl (And.intro rfl trivial)) (zc_X6_append x1 M h33) ?_
      cases h
      exact zS_ireturn dX8_syllable_36 rfl rfl
    · rw [if_neg c22] at h
      refine zS_bipush (v := (-5 : Int32)) dX8_syllable_25 (by decide) ?_
      cases h
      exact zS_ireturn dX8_syllable_27 rfl rfl
  · rw [if_pos c7] at h
    refine zS_bipush (v := (-3 : Int32)) dX8_syllable_10 (by decide) ?_
    cases h
    exact zS_ireturn dX8_syllable_12 rfl rfl
def p_X8_hush (M : zM) : Option (Int32 × zM) :=
  some (M 3 4, zset M 3 4 (0 : Int32))
set_option maxRecDepth 20000 in
set_option maxHeartbeats 4000000 in
theorem zc_X8_hush (M : zM) {r : Int32 × zM} (h : p_X8_hush M = some r) : zS Y_X8_hush 0 [some (zO 0), none] [] M (some r.1, r.2) := by
  rw [p_X8_hush] at h
  refine zS_aload_nO dX8_hush_0 rfl rfl ?_
  refine gf_0_2 dX8_hush_1 zw_79 ?_
  refine gf_3_4 dX8_hush_4 zw_92 ?_
  refine zS_istore_n (ls' := [some (zO 0), some (zI (M 3 4))]) dX8_hush_7 rfl (by decide) rfl rfl ?_
  refine zS_aload_nO dX8_hush_8 rfl rfl ?_
  refine gf_0_2 dX8_hush_9 zw_79 ?_
  refine zS_iconst (v := (0 : Int32)) dX8_hush_12 (by decide) ?_
  refine pf_3_4 dX8_hush_13 zw_92 ?_
  refine zS_iload_n dX8_hush_16 rfl rfl ?_
  cases h
  exact zS_ireturn dX8_hush_17 rfl rfl
def p_X8_read (x1 : Int32) (M : zM) : Option (Int32 × zM) :=
  (p_X8_isRegion x1).bind fun r1 =>
  if r1 = 0 then
    some ((-2 : Int32), M)
  else
    (p_X6_rows x1 M).bind fun q15 =>
    some (q15.1, q15.2)
set_option maxRecDepth 20000 in
set_option maxHeartbeats 4000000 in
theorem zc_X8_read (x1 : Int32) (M : zM) {r : Int32 × zM} (h : p_X8_read x1 M = some r) : zS Y_X8_read 0 [some (zO 0), some (zI x1)] [] M (some r.1, r.2) := by
  rw [p_X8_read] at h
  refine zS_iload_n dX8_read_0 rfl rfl ?_
  obtain ⟨r1, h1, h⟩ := zbind h
  refine zS_callS (as := [zI x1]) (st := []) (ls0 := [some (zI x1)]) dX8_read_1 okY_X8_isRegion rfl rfl zw_82 zw_83 np_X8_isRegion (by decide) (Nat.le_of_ble_eq_true rfl) rfl (Nat.le_of_ble_eq_true rfl) (And.intro rfl trivial) (zc_X8_isRegion x1 M h1) ?_
  refine zS_if_ne (tgt := 10) dX8_read_4 (by decide) (fun c4 => ?_) (fun c4 => ?_)
  · rw [if_neg c4] at h
    refine zS_aload_nO dX8_read_10 rfl rfl ?_
    refine gf_0_2 dX8_read_11 zw_79 ?_
    refine zS_iload_n dX8_read_14 rfl rfl ?_
    obtain ⟨q15, h15, h⟩ := zbind h
    refine zS_callV (as := [zI x1]) (st := []) (ls0 := [some (zO 3), some (zI x1), none, none]) dX8_read_15 okY_X6_rows rfl rfl lay_3 rfl zw_120 zw_121 zw_122 np_X6_rows (by decide) (Nat.le_of_ble_eq_true rfl) rfl (Nat.le_of_ble_eq_true rfl) (And.intro rfl (And.intro rfl trivial)) (zc_X6_rows x1 M h15) ?_
    cases h
    exact zS_ireturn dX8_read_18 rfl rfl
  · rw [if_pos c4] at h
    refine zS_bipush (v := (-2 : Int32)) dX8_read_7 (by decide) ?_
    cases h
    exact zS_ireturn dX8_read_9 rfl rfl
def p_X8_first (x1 : Int32) (x2 : Int32) (M : zM) : Option (Int32 × zM) :=
  (p_X8_isRegion x1).bind fun r1 =>
  if r1 = 0 then
    some ((-2 : Int32), M)
  else
    if 0 ≤ x2 then
      (p_X6_firstRowAt x1 x2 M).bind fun q23 =>
      some (q23.1, q23.2)
    else
      some ((-3 : Int32), M)
set_option maxRecDepth 20000 in
set_option maxHeartbeats 4000000 in
theorem zc_X8_first (x1 : Int32) (x2 : Int32) (M : zM) {r : Int32 × zM} (h : p_X8_first x1 x2 M = some r) : zS Y_X8_first 0 [some (zO 0), some (zI x1), some (zI x2)] [] M (some r.1, r.2) := by
  rw [p_X8_first] at h
  refine zS_iload_n dX8_first_0 rfl rfl ?_
  obtain ⟨r1, h1, h⟩ := zbind h
  refine zS_callS (as := [zI x1]) (st := []) (ls0 := [some (zI x1)]) dX8_first_1 okY_X8_isRegion rfl rfl zw_82 zw_83 np_X8_isRegion (by decide) (Nat.le_of_ble_eq_true rfl) rfl (Nat.le_of_ble_eq_true rfl) (And.intro rfl trivial) (zc_X8_isRegion x1 M h1) ?_
  refine zS_if_ne (tgt := 10) dX8_first_4 (by decide) (fun c4 => ?_) (fun c4 => ?_)
  · rw [if_neg c4] at h
    refine zS_iload_n dX8_first_10 rfl rfl ?_
    refine zS_if_ge (tgt := 17) dX8_first_11 (by decide) (fun c11 => ?_) (fun c11 => ?_)
    · rw [if_pos c11] at h
      refine zS_aload_nO dX8_first_17 rfl rfl ?_
      refine gf_0_2 dX8_first_18 zw_79 ?_
      refine zS_iload_n dX8_first_21 rfl rfl ?_
      refine zS_iload_n dX8_first_22 rfl rfl ?_
      obtain ⟨q23, h23, h⟩ := zbind h
      refine zS_callV (as := [zI x1, zI x2]) (st := []) (ls0 := [some (zO 3), some (zI x1), some (zI x2), none, none, none]) dX8_first_23 okY_X6_firstRowAt rfl rfl lay_3 rfl zw_137 zw_138 zw_139 np_X6_firstRowAt (by decide) (Nat.le_of_ble_eq_true rfl) rfl (Nat.le_of_ble_eq_true rfl) (And.intro rfl (And.intro rfl (And.intro rfl trivial))) (zc_X6_firstRowAt x1 x2 M h23) ?_
      cases h
      exact zS_ireturn dX8_first_26 rfl rfl
    · rw [if_neg c11] at h
      refine zS_bipush (v := (-3 : Int32)) dX8_first_14 (by decide) ?_
      cases h
      exact zS_ireturn dX8_first_16 rfl rfl
  · rw [if_pos c4] at h
    refine zS_bipush (v := (-2 : Int32)) dX8_first_7 (by decide) ?_
    cases h
    exact zS_ireturn dX8_first_9 rfl rfl
def p_X8_home (M : zM) : Option (Int32 × zM) :=
  (p_X6_homeRegion M).bind fun q4 =>
  some (q4.1, q4.2)
set_option maxRecDepth 20000 in
set_option maxHeartbeats 4000000 in
theorem zc_X8_home (M : zM) {r : Int32 × zM} (h : p_X8_home M = some r) : zS Y_X8_home 0 [some (zO 0)] [] M (some r.1, r.2) := by
  rw [p_X8_home] at h
  refine zS_aload_nO dX8_home_0 rfl rfl ?_
  refine gf_0_2 dX8_home_1 zw_79 ?_
  obtain ⟨q4, h4, h⟩ := zbind h
  refine zS_callV (as := []) (st := []) (ls0 := [some (zO 3), none, none, none, none]) dX8_home_4 okY_X6_homeRegion rfl rfl lay_3 rfl zw_141 zw_142 zw_143 np_X6_homeRegion (by decide) (Nat.le_of_ble_eq_true rfl) rfl (Nat.le_of_ble_eq_true rfl) (And.intro rfl trivial) (zc_X6_homeRegion M h4) ?_
  cases h
  exact zS_ireturn dX8_home_7 rfl rfl
def p_X8_rule (x1 : Int32) (x2 : Int32) (x3 : Int32) (M : zM) : Option (Int32 × zM) :=
  (p_X8_isRule x1).bind fun r1 =>
  if r1 = 0 then
    some ((-2 : Int32), M)
  else
    (p_X8_within x2 (1 : Int32) (4 : Int32)).bind fun r13 =>
    if r13 = 0 then
      some ((-3 : Int32), M)
    else
      (p_X8_nibblesWithin x3 x2 (10 : Int32)).bind fun r23 =>
      if r23 = 0 then
        some ((-3 : Int32), M)
      else
        (p_X5_useRule x1 M).bind fun r37 =>
        if r37 = 0 then
          (p_X4_become x1 x2 x3 M).bind fun M53 =>
          some ((1 : Int32), M53)
        else
          some ((-4 : Int32), M)
set_option maxRecDepth 20000 in
set_option maxHeartbeats 4000000 in
theorem zc_X8_rule (x1 : Int32) (x2 : Int32) (x3 : Int32) (M : zM) {r : Int32 × zM} (h : p_X8_rule x1 x2 x3 M = some r) : zS Y_X8_rule 0 [some (zO 0), some (zI x1), some (zI x2), some (zI x3)] [] M (some r.1, r.2) := by
  rw [p_X8_rule] at h
  refine zS_iload_n dX8_rule_0 rfl rfl ?_
  obtain ⟨r1, h1, h⟩ := zbind h
  refine zS_callS (as := [zI x1]) (st := []) (ls0 := [some (zI x1)]) dX8_rule_1 okY_X8_isRule rfl rfl zw_148 zw_149 np_X8_isRule (by decide) (Nat.le_of_ble_eq_true rfl) rfl (Nat.le_of_ble_eq_true rfl) (And.intro rfl trivial) (zc_X8_isRule x1 M h1) ?_
  refine zS_if_ne (tgt := 10) dX8_rule_4 (by decide) (fun c4 => ?_) (fun c4 => ?_)
  · rw [if_neg c4] at h
    refine zS_iload_n dX8_rule_10 rfl rfl ?_
    refine zS_iconst (v := (1 : Int32)) dX8_rule_11 (by decide) ?_
    refine zS_iconst (v := (4 : Int32)) dX8_rule_12 (by decide) ?_
    obtain ⟨r13, h13, h⟩ := zbind h
    refine zS_callS (as := [zI x2, zI (1 : Int32), zI (4 : Int32)]) (st := []) (ls0 := [some (zI x2), some (zI (1 : Int32)), some (zI (4 : Int32))]) dX8_rule_13 okY_X8_within rfl rfl zw_0 zw_1 np_X8_within (by decide) (Nat.le_of_ble_eq_true rfl) rfl (Nat.le_of_ble_eq_true rfl) (And.intro rfl (And.intro rfl (And.intro rfl trivial))) (zc_X8_within x2 (1 : Int32) (4 : Int32) M h13) ?_
    refine zS_if_eq (tgt := 29) dX8_rule_16 (by decide) (fun c16 => ?_) (fun c16 => ?_)
    · rw [if_pos c16] at h
      refine zS_bipush (v := (-3 : Int32)) dX8_rule_29 (by decide) ?_
      cases h
      exact zS_ireturn dX8_rule_31 rfl rfl
    · rw [if_neg c16] at h
      refine zS_iload_n dX8_rule_19 rfl rfl ?_
      refine zS_iload_n dX8_rule_20 rfl rfl ?_
      refine zS_bipush (v := (10 : Int32)) dX8_rule_21 (by decide) ?_
      obtain ⟨r23, h23, h⟩ := zbind h
      refine zS_callS (as := [zI x3, zI x2, zI (10 : Int32)]) (st := []) (ls0 := [some (zI x3), some (zI x2), some (zI (10 : Int32)), none]) dX8_rule_23 okY_X8_nibblesWithin rfl rfl zw_8 zw_9 np_X8_nibblesWithin (by decide) (Nat.le_of_ble_eq_true rfl) rfl (Nat.le_of_ble_eq_true rfl) (And.intro rfl (And.intro rfl (And.intro rfl trivial))) (zc_X8_nibblesWithin x3 x2 (10 : Int32) M h23) ?_
      refine zS_if_ne (tgt := 32) dX8_rule_26 (by decide) (fun c26 => ?_) (fun c26 => ?_)
      · rw [if_neg c26] at h
        refine zS_aload_nO dX8_rule_32 rfl rfl ?_
        refine gf_0_5 dX8_rule_33 zw_150 ?_
        refine zS_iload_n dX8_rule_36 rfl rfl ?_
        obtain ⟨r37, h37, h⟩ := zbind h
        refine zS_callV (as := [zI x1]) (st := []) (ls0 := [some (zO 6), some (zI x1), none]) dX8_rule_37 okY_X5_useRule rfl rfl lay_6 rfl zw_151 zw_152 zw_153 np_X5_useRule (by decide) (Nat.le_of_ble_eq_true rfl) rfl (Nat.le_of_ble_eq_true rfl) (And.intro rfl (And.intro rfl trivial)) (zc_X5_useRule x1 M h37) ?_
        refine zS_if_eq (tgt := 46) dX8_rule_40 (by decide) (fun c40 => ?_) (fun c40 => ?_)
        · rw [if_pos c40] at h
          refine zS_aload_nO dX8_rule_46 rfl rfl ?_
          refine gf_0_3 dX8_rule_47 zw_154 ?_
          refine zS_iload_n dX8_rule_50 rfl rfl ?_
          refine zS_iload_n dX8_rule_51 rfl rfl ?_
          refine zS_iload_n dX8_rule_52 rfl rfl ?_
          obtain ⟨M53, h53, h⟩ := zbind h
          refine zS_callVv (as := [zI x1, zI x2, zI x3]) (st := []) (ls0 := [some (zO 4), some (zI x1), some (zI x2), some (zI x3), none]) dX8_rule_53 okY_X4_become rfl rfl lay_4 rfl zw_155 zw_156 zw_157 np_X4_become (by decide) (Nat.le_of_ble_eq_true rfl) rfl (Nat.le_of_ble_eq_true rfl) (And.intro rfl (And.intro rfl (And.intro rfl (And.intro rfl trivial)))) (zc_X4_become x1 x2 x3 M h53) ?_
          refine zS_iconst (v := (1 : Int32)) dX8_rule_56 (by decide) ?_
          cases h
          exact zS_ireturn dX8_rule_57 rfl rfl
        · rw [if_neg c40] at h
          refine zS_bipush (v := (-4 : Int32)) dX8_rule_43 (by decide) ?_
          cases h
          exact zS_ireturn dX8_rule_45 rfl rfl
      · rw [if_pos c26] at h
        refine zS_bipush (v := (-3 : Int32)) dX8_rule_29 (by decide) ?_
        cases h
        exact zS_ireturn dX8_rule_31 rfl rfl
  · rw [if_pos c4] at h
    refine zS_bipush (v := (-2 : Int32)) dX8_rule_7 (by decide) ?_
    cases h
    exact zS_ireturn dX8_rule_9 rfl rfl
def p_X8_note (x1 : Int32) (M : zM) : Option (Int32 × zM) :=
  (p_X8_isNote x1).bind fun r1 =>
  if r1 = 0 then
    some ((-2 : Int32), M)
  else
    if (M 5 2) < (16 : Int32) then
      (p_X1_append x1 M).bind fun q30 =>
      some (q30.1, q30.2)
    else
      some ((-5 : Int32), M)
set_option maxRecDepth 20000 in
set_option maxHeartbeats 4000000 in
theorem zc_X8_note (x1 : Int32) (M : zM) {r : Int32 × zM} (h : p_X8_note x1 M = some r) : zS Y_X8_note 0 [some (zO 0), some (zI x1)] [] M (some r.1, r.2) := by
  rw [p_X8_note] at h
  refine zS_iload_n dX8_note_0 rfl rfl ?_
  obtain ⟨r1, h1, h⟩ := zbind h
  refine zS_callS (as := [zI x1]) (st := []) (ls0 := [some (zI x1)]) dX8_note_1 okY_X8_isNote rfl rfl zw_31 zw_32 np_X8_isNote (by decide) (Nat.le_of_ble_eq_true rfl) rfl (Nat.le_of_ble_eq_true rfl) (And.intro rfl trivial) (zc_X8_isNote x1 M h1) ?_
  refine zS_if_ne (tgt := 10) dX8_note_4 (by decide) (fun c4 => ?_) (fun c4 => ?_)
  · rw [if_neg c4] at h
    refine zS_aload_nO dX8_note_10 rfl rfl ?_
    refine gf_0_4 dX8_note_11 zw_160 ?_
    refine gf_5_2 dX8_note_14 zw_161 ?_
    refine zS_bipush (v := (16 : Int32)) dX8_note_17 (by decide) ?_
    refine zS_icmp_lt (tgt := 25) dX8_note_19 (by decide) (fun c19 => ?_) (fun c19 => ?_)
    · rw [if_pos c19] at h
      refine zS_aload_nO dX8_note_25 rfl rfl ?_
      refine gf_0_4 dX8_note_26 zw_160 ?_
      refine zS_iload_n dX8_note_29 rfl rfl ?_
      obtain ⟨q30, h30, h⟩ := zbind h
      refine zS_callV (as := [zI x1]) (st := []) (ls0 := [some (zO 5), some (zI x1)]) dX8_note_30 okY_X1_append rfl rfl lay_5 rfl zw_162 zw_163 zw_164 np_X1_append (by decide) (Nat.le_of_ble_eq_true rfl) rfl (Nat.le_of_ble_eq_true rfl) (And.intro rfl (And.intro rfl trivial)) (zc_X1_append x1 M h30) ?_
      cases h
      exact zS_ireturn dX8_note_33 rfl rfl
    · rw [if_neg c19] at h
      refine zS_bipush (v := (-5 : Int32)) dX8_note_22 (by decide) ?_
      cases h
      exact zS_ireturn dX8_note_24 rfl rfl
  · rw [if_pos c4] at h
    refine zS_bipush (v := (-2 : Int32)) dX8_note_7 (by decide) ?_
    cases h
    exact zS_ireturn dX8_note_9 rfl rfl
def p_X8_silence (M : zM) : Option (Int32 × zM) :=
  some (M 5 2, zset M 5 2 (0 : Int32))
set_option maxRecDepth 20000 in
set_option maxHeartbeats 4000000 in
theorem zc_X8_silence (M : zM) {r : Int32 × zM} (h : p_X8_silence M = some r) : zS Y_X8_silence 0 [some (zO 0), none] [] M (some r.1, r.2) := by
  rw [p_X8_silence] at h
  refine zS_aload_nO dX8_silence_0 rfl rfl ?_
  refine gf_0_4 dX8_silence_1 zw_160 ?_
  refine gf_5_2 dX8_silence_4 zw_161 ?_
  refine zS_istore_n (ls' := [some (zO 0), some (zI (M 5 2))]) dX8_silence_7 rfl (by decide) rfl rfl ?_
  refine zS_aload_nO dX8_silence_8 rfl rfl ?_
  refine gf_0_4 dX8_silence_9 zw_160 ?_
  refine zS_iconst (v := (0 : Int32)) dX8_silence_12 (by decide) ?_
  refine pf_5_2 dX8_silence_13 zw_161 ?_
  refine zS_iload_n dX8_silence_16 rfl rfl ?_
  cases h
  exact zS_ireturn dX8_silence_17 rfl rfl
def p_X8_varied (x1 : Int32) (x2 : Int32) (x3 : Int32) (M : zM) : Option (Int32) :=
  (p_X8_isRule x1).bind fun r1 =>
  if r1 = 0 then
    some (-2 : Int32)
  else
    (p_X8_within x2 (0 : Int32) (65535 : Int32)).bind fun r14 =>
    if r14 = 0 then
      some (-3 : Int32)
    else
      if 0 ≤ x3 then
        (p_X1_variationAt x1 x2 x3 M).bind fun r34 =>
        some r34
      else
        some (-3 : Int32)
set_option maxRecDepth 20000 in
set_option maxHeartbeats 4000000 in
theorem zc_X8_varied (x1 : Int32) (x2 : Int32) (x3 : Int32) (M : zM) {r : Int32} (h : p_X8_varied x1 x2 x3 M = some r) : zS Y_X8_varied 0 [some (zO 0), some (zI x1), some (zI x2), some (zI x3)] [] M (some r, M) := by
  rw [p_X8_varied] at h
  refine zS_iload_n dX8_varied_0 rfl rfl ?_
  obtain ⟨r1, h1, h⟩ := zbind h
  refine zS_callS (as := [zI x1]) (st := []) (ls0 := [some (zI x1)]) dX8_varied_1 okY_X8_isRule rfl rfl zw_148 zw_149 np_X8_isRule (by decide) (Nat.le_of_ble_eq_true rfl) rfl (Nat.le_of_ble_eq_true rfl) (And.intro rfl trivial) (zc_X8_isRule x1 M h1) ?_
  refine zS_if_ne (tgt := 10) dX8_varied_4 (by decide) (fun c4 => ?_) (fun c4 => ?_)
  · rw [if_neg c4] at h
    refine zS_iload_n dX8_varied_10 rfl rfl ?_
    refine zS_iconst (v := (0 : Int32)) dX8_varied_11 (by decide) ?_
    refine zS_ldc (v := (65535 : Int32)) dX8_varied_12 zw_171 ?_
    obtain ⟨r14, h14, h⟩ := zbind h
    refine zS_callS (as := [zI x2, zI (0 : Int32), zI (65535 : Int32)]) (st := []) (ls0 := [some (zI x2), some (zI (0 : Int32)), some (zI (65535 : Int32))]) dX8_varied_14 okY_X8_within rfl rfl zw_0 zw_1 np_X8_within (by decide) (Nat.le_of_ble_eq_true rfl) rfl (Nat.le_of_ble_eq_true rfl) (And.intro rfl (And.intro rfl (And.intro rfl trivial))) (zc_X8_within x2 (0 : Int32) (65535 : Int32) M h14) ?_
    refine zS_if_eq (tgt := 24) dX8_varied_17 (by decide) (fun c17 => ?_) (fun c17 => ?_)
    · rw [if_pos c17] at h
      refine zS_bipush (v := (-3 : Int32)) dX8_varied_24 (by decide) ?_
      cases h
      exact zS_ireturn dX8_varied_26 rfl rfl
    · rw [if_neg c17] at h
      refine zS_iload_n dX8_varied_20 rfl rfl ?_
      refine zS_if_ge (tgt := 27) dX8_varied_21 (by decide) (fun c21 => ?_) (fun c21 => ?_)
      · rw [if_pos c21] at h
        refine zS_aload_nO dX8_varied_27 rfl rfl ?_
        refine gf_0_4 dX8_varied_28 zw_160 ?_
        refine zS_iload_n dX8_varied_31 rfl rfl ?_
        refine zS_iload_n dX8_varied_32 rfl rfl ?_
        refine zS_iload_n dX8_varied_33 rfl rfl ?_
        obtain ⟨r34, h34, h⟩ := zbind h
        refine zS_callV (as := [zI x1, zI x2, zI x3]) (st := []) (ls0 := [some (zO 5), some (zI x1), some (zI x2), some (zI x3), none]) dX8_varied_34 okY_X1_variationAt rfl rfl lay_5 rfl zw_172 zw_173 zw_174 np_X1_variationAt (by decide) (Nat.le_of_ble_eq_true rfl) rfl (Nat.le_of_ble_eq_true rfl) (And.intro rfl (And.intro rfl (And.intro rfl (And.intro rfl trivial)))) (zc_X1_variationAt x1 x2 x3 M h34) ?_
        cases h
        exact zS_ireturn dX8_varied_37 rfl rfl
      · rw [if_neg c21] at h
        refine zS_bipush (v := (-3 : Int32)) dX8_varied_24 (by decide) ?_
        cases h
        exact zS_ireturn dX8_varied_26 rfl rfl
  · rw [if_pos c4] at h
    refine zS_bipush (v := (-2 : Int32)) dX8_varied_7 (by decide) ?_
    cases h
    exact zS_ireturn dX8_varied_9 rfl rfl
def p_X8_sheet (x1 : Int32) (x2 : Int32) (x3 : Int32) (M : zM) : Option (Int32 × zM) :=
  (p_X8_isRule x1).bind fun r1 =>
  if r1 = 0 then
    some ((-2 : Int32), M)
  else
    (p_X8_within x2 (1 : Int32) (16 : Int32)).bind fun r14 =>
    if r14 = 0 then
      some ((-3 : Int32), M)
    else
      (p_X8_within x3 (0 : Int32) (((1 : Int32) <<< (x2 &&& 31)) - (1 : Int32))).bind fun r27 =>
      if r27 = 0 then
        some ((-3 : Int32), M)
      else
        (p_X5_accept x2 x3 M).bind fun r42 =>
        if r42 = 0 then
          some ((-4 : Int32), M)
        else
          if (M 6 4) < (3 : Int32) then
            (p_X5_append x1 x2 x3 M).bind fun q72 =>
            some (q72.1, q72.2)
          else
            some ((-5 : Int32), M)
set_option maxRecDepth 20000 in
set_option maxHeartbeats 4000000 in
theorem zc_X8_sheet (x1 : Int32) (x2 : Int32) (x3 : Int32) (M : zM) {r : Int32 × zM} (h : p_X8_sheet x1 x2 x3 M = some r) : zS Y_X8_sheet 0 [some (zO 0), some (zI x1), some (zI x2), some (zI x3)] [] M (some r.1, r.2) := by
  rw [p_X8_sheet] at h
  refine zS_iload_n dX8_sheet_0 rfl rfl ?_
  obtain ⟨r1, h1, h⟩ := zbind h
  refine zS_callS (as := [zI x1]) (st := []) (ls0 := [some (zI x1)]) dX8_sheet_1 okY_X8_isRule rfl rfl zw_148 zw_149 np_X8_isRule (by decide) (Nat.le_of_ble_eq_true rfl) rfl (Nat.le_of_ble_eq_true rfl) (And.intro rfl trivial) (zc_X8_isRule x1 M h1) ?_
  refine zS_if_ne (tgt := 10) dX8_sheet_4 (by decide) (fun c4 => ?_) (fun c4 => ?_)
  · rw [if_neg c4] at h
    refine zS_iload_n dX8_sheet_10 rfl rfl ?_
    refine zS_iconst (v := (1 : Int32)) dX8_sheet_11 (by decide) ?_
    refine zS_bipush (v := (16 : Int32)) dX8_sheet_12 (by decide) ?_
    obtain ⟨r14, h14, h⟩ := zbind h
    refine zS_callS (as := [zI x2, zI (1 : Int32), zI (16 : Int32)]) (st := []) (ls0 := [some (zI x2), some (zI (1 : Int32)), some (zI (16 : Int32))]) dX8_sheet_14 okY_X8_within rfl rfl zw_0 zw_1 np_X8_within (by decide) (Nat.le_of_ble_eq_true rfl) rfl (Nat.le_of_ble_eq_true rfl) (And.intro rfl (And.intro rfl (And.intro rfl trivial))) (zc_X8_within x2 (1 : Int32) (16 : Int32) M h14) ?_
    refine zS_if_eq (tgt := 33) dX8_sheet_17 (by decide) (fun c17 => ?_) (fun c17 => ?_)
    · rw [if_pos c17] at h
      refine zS_bipush (v := (-3 : Int32)) dX8_sheet_33 (by decide) ?_
      cases h
      exact zS_ireturn dX8_sheet_35 rfl rfl
    · rw [if_neg c17] at h
      refine zS_iload_n dX8_sheet_20 rfl rfl ?_
      refine zS_iconst (v := (0 : Int32)) dX8_sheet_21 (by decide) ?_
      refine zS_iconst (v := (1 : Int32)) dX8_sheet_22 (by decide) ?_
      refine zS_iload_n dX8_sheet_23 rfl rfl ?_
      refine zS_ishl dX8_sheet_24 ?_
      refine zS_iconst (v := (1 : Int32)) dX8_sheet_25 (by decide) ?_
      refine zS_isub dX8_sheet_26 ?_
      obtain ⟨r27, h27, h⟩ := zbind h
      refine zS_callS (as := [zI x3, zI (0 : Int32), zI (((1 : Int32) <<< (x2 &&& 31)) - (1 : Int32))]) (st := []) (ls0 := [some (zI x3), some (zI (0 : Int32)), some (zI (((1 : Int32) <<< (x2 &&& 31)) - (1 : Int32)))]) dX8_sheet_27 okY_X8_within rfl rfl zw_0 zw_1 np_X8_within (by decide) (Nat.le_of_ble_eq_true rfl) rfl (Nat.le_of_ble_eq_true rfl) (And.intro rfl (And.intro rfl (And.intro rfl trivial))) (zc_X8_within x3 (0 : Int32) (((1 : Int32) <<< (x2 &&& 31)) - (1 : Int32)) M h27) ?_
      refine zS_if_ne (tgt := 36) dX8_sheet_30 (by decide) (fun c30 => ?_) (fun c30 => ?_)
      · rw [if_neg c30] at h
        refine zS_aload_nO dX8_sheet_36 rfl rfl ?_
        refine gf_0_5 dX8_sheet_37 zw_150 ?_
        refine zS_iload_n dX8_sheet_40 rfl rfl ?_
        refine zS_iload_n dX8_sheet_41 rfl rfl ?_
        obtain ⟨r42, h42, h⟩ := zbind h
        refine zS_callV (as := [zI x2, zI x3]) (st := []) (ls0 := [some (zO 6), some (zI x2), some (zI x3)]) dX8_sheet_42 okY_X5_accept rfl rfl lay_6 rfl zw_189 zw_190 zw_191 np_X5_accept (by decide) (Nat.le_of_ble_eq_true rfl) rfl (Nat.le_of_ble_eq_true rfl) (And.intro rfl (And.intro rfl (And.intro rfl trivial))) (zc_X5_accept x2 x3 M h42) ?_
        refine zS_if_ne (tgt := 51) dX8_sheet_45 (by decide) (fun c45 => ?_) (fun c45 => ?_)
        · rw [if_neg c45] at h
          refine zS_aload_nO dX8_sheet_51 rfl rfl ?_
          refine gf_0_5 dX8_sheet_52 zw_150 ?_
          refine gf_6_4 dX8_sheet_55 zw_192 ?_
          refine zS_iconst (v := (3 : Int32)) dX8_sheet_58 (by decide) ?_
          refine zS_icmp_lt (tgt := 65) dX8_sheet_59 (by decide) (fun c59 => ?_) (fun c59 => ?_)
          · rw [if_pos c59] at h
            refine zS_aload_nO dX8_sheet_65 rfl rfl ?_
            refine gf_0_5 dX8_sheet_66 zw_150 ?_
            refine zS_iload_n dX8_sheet_69 rfl rfl ?_
            refine zS_iload_n dX8_sheet_70 rfl rfl ?_
            refine zS_iload_n dX8_sheet_71 rfl rfl ?_
            obtain ⟨q72, h72, h⟩ := zbind h
            refine zS_callV (as := [zI x1, zI x2, zI x3]) (st := []) (ls0 := [some (zO 6), some (zI x1), some (zI x2), some (zI x3)]) dX8_sheet_72 okY_X5_append rfl rfl lay_6 rfl zw_193 zw_194 zw_195 np_X5_append (by decide) (Nat.le_of_ble_eq_true rfl) rfl (Nat.le_of_ble_eq_true rfl) (And.intro rfl (And.intro rfl (And.intro rfl (And.intro rfl trivial)))) (zc_X5_append x1 x2 x3 M h72) ?_
            cases h
            exact zS_ireturn dX8_sheet_75 rfl rfl
          · rw [if_neg c59] at h
            refine zS_bipush (v := (-5 : Int32)) dX8_sheet_62 (by decide) ?_
            cases h
            exact zS_ireturn dX8_sheet_64 rfl rfl
        · rw [if_pos c45] at h
          refine zS_bipush (v := (-4 : Int32)) dX8_sheet_48 (by decide) ?_
          cases h
          exact zS_ireturn dX8_sheet_50 rfl rfl
      · rw [if_pos c30] at h
        refine zS_bipush (v := (-3 : Int32)) dX8_sheet_33 (by decide) ?_
        cases h
        exact zS_ireturn dX8_sheet_35 rfl rfl
  · rw [if_pos c4] at h
    refine zS_bipush (v := (-2 : Int32)) dX8_sheet_7 (by decide) ?_
    cases h
    exact zS_ireturn dX8_sheet_9 rfl rfl
def p_X8_isSheet (x1 : Int32) (M : zM) : Option (Int32) :=
  (p_X8_within x1 (0 : Int32) ((M 6 4) - (1 : Int32))).bind fun r11 =>
  if r11 = 0 ∨ r11 = 1 then
  some r11
  else none
set_option maxRecDepth 20000 in
set_option maxHeartbeats 4000000 in
theorem zc_X8_isSheet (x1 : Int32) (M : zM) {r : Int32} (h : p_X8_isSheet x1 M = some r) : zS Y_X8_isSheet 0 [some (zO 0), some (zI x1)] [] M (some r, M) := by
  rw [p_X8_isSheet] at h
  refine zS_iload_n dX8_isSheet_0 rfl rfl ?_
  refine zS_iconst (v := (0 : Int32)) dX8_isSheet_1 (by decide) ?_
  refine zS_aload_nO dX8_isSheet_2 rfl rfl ?_
  refine gf_0_5 dX8_isSheet_3 zw_150 ?_
  refine gf_6_4 dX8_isSheet_6 zw_192 ?_
  refine zS_iconst (v := (1 : Int32)) dX8_isSheet_9 (by decide) ?_
  refine zS_isub dX8_isSheet_10 ?_
  obtain ⟨r11, h11, h⟩ := zbind h
  refine zS_callS (as := [zI x1, zI (0 : Int32), zI ((M 6 4) - (1 : Int32))]) (st := []) (ls0 := [some (zI x1), some (zI (0 : Int32)), some (zI ((M 6 4) - (1 : Int32)))]) dX8_isSheet_11 okY_X8_within rfl rfl zw_0 zw_1 np_X8_within (by decide) (Nat.le_of_ble_eq_true rfl) rfl (Nat.le_of_ble_eq_true rfl) (And.intro rfl (And.intro rfl (And.intro rfl trivial))) (zc_X8_within x1 (0 : Int32) ((M 6 4) - (1 : Int32)) M h11) ?_
  by_cases z14 : r11 = 0 ∨ r11 = 1
  rotate_left
  · rw [if_neg z14] at h; cases h
  rw [if_pos z14] at h
  cases h
  exact zS_ireturn dX8_isSheet_14 rfl (zbool z14)
def p_X8_isCell (x1 : Int32) (x2 : Int32) (M : zM) : Option (Int32) :=
  (p_X8_isSheet x1 M).bind fun r2 =>
  if r2 = 0 then
    some (0 : Int32)
  else
    if x1 < 0 ∨ 3 ≤ x1.toNatClampNeg then none else
    (p_X8_within x2 (0 : Int32) ((M 46 x1.toNatClampNeg) - (1 : Int32))).bind fun r21 =>
    if r21 = 0 then
      some (0 : Int32)
    else
      some (1 : Int32)
set_option maxRecDepth 20000 in
set_option maxHeartbeats 4000000 in
theorem zc_X8_isCell (x1 : Int32) (x2 : Int32) (M : zM) {r : Int32} (h : p_X8_isCell x1 x2 M = some r) : zS Y_X8_isCell 0 [some (zO 0), some (zI x1), some (zI x2)] [] M (some r, M) := by
  rw [p_X8_isCell] at h
  refine zS_aload_nO dX8_isCell_0 rfl rfl ?_
  refine zS_iload_n dX8_isCell_1 rfl rfl ?_
  obtain ⟨r2, h2, h⟩ := zbind h
  refine zS_callV (as := [zI x1]) (st := []) (ls0 := [some (zO 0), some (zI x1)]) dX8_isCell_2 okY_X8_isSheet rfl rfl lay_0 rfl zw_196 zw_197 zw_198 np_X8_isSheet (by decide) (Nat.le_of_ble_eq_true rfl) rfl (Nat.le_of_ble_eq_true rfl) (And.intro rfl (And.intro rfl trivial)) (zc_X8_isSheet x1 M h2) ?_
  refine zS_if_eq (tgt := 31) dX8_isCell_5 (by decide) (fun c5 => ?_) (fun c5 => ?_)
  · rw [if_pos c5] at h
    refine zS_iconst (v := (0 : Int32)) dX8_isCell_31 (by decide) ?_
    cases h
    exact zS_ireturn dX8_isCell_32 rfl rfl
  · rw [if_neg c5] at h
    refine zS_iload_n dX8_isCell_8 rfl rfl ?_
    refine zS_iconst (v := (0 : Int32)) dX8_isCell_9 (by decide) ?_
    refine zS_aload_nO dX8_isCell_10 rfl rfl ?_
    refine gf_0_5 dX8_isCell_11 zw_150 ?_
    refine gf_6_2 dX8_isCell_14 zw_199 ?_
    refine zS_iload_n dX8_isCell_17 rfl rfl ?_
    by_cases b18 : x1 < 0 ∨ 3 ≤ x1.toNatClampNeg
    · rw [if_pos b18] at h; cases h
    rw [if_neg b18] at h
    refine zS_iald b18 dX8_isCell_18 ?_
    refine zS_iconst (v := (1 : Int32)) dX8_isCell_19 (by decide) ?_
    refine zS_isub dX8_isCell_20 ?_
    obtain ⟨r21, h21, h⟩ := zbind h
    refine zS_callS (as := [zI x2, zI (0 : Int32), zI ((M 46 x1.toNatClampNeg) - (1 : Int32))]) (st := []) (ls0 := [some (zI x2), some (zI (0 : Int32)), some (zI ((M 46 x1.toNatClampNeg) - (1 : Int32)))]) dX8_isCell_21 okY_X8_within rfl rfl zw_0 zw_1 np_X8_within (by decide) (Nat.le_of_ble_eq_true rfl) rfl (Nat.le_of_ble_eq_true rfl) (And.intro rfl (And.intro rfl (And.intro rfl trivial))) (zc_X8_within x2 (0 : Int32) ((M 46 x1.toNatClampNeg) - (1 : Int32)) M h21) ?_
    refine zS_if_eq (tgt := 31) dX8_isCell_24 (by decide) (fun c24 => ?_) (fun c24 => ?_)
    · rw [if_pos c24] at h
      refine zS_iconst (v := (0 : Int32)) dX8_isCell_31 (by decide) ?_
      cases h
      exact zS_ireturn dX8_isCell_32 rfl rfl
    · rw [if_neg c24] at h
      refine zS_iconst (v := (1 : Int32)) dX8_isCell_27 (by decide) ?_
      refine zS_goto (tgt := 32) dX8_isCell_28 (by decide) ?_
      cases h
      exact zS_ireturn dX8_isCell_32 rfl rfl
def p_X8_tell_27 (x1 : Int32) (x2 : Int32) (x3 : Int32) (M : zM) : Option (Int32 × zM) :=
  if x1 < 0 ∨ 3 ≤ x1.toNatClampNeg then none else
  (p_X8_replace (48 + x1.toNatClampNeg) 64 x2 x3 M).bind fun q38 =>
  some (q38.1, q38.2)
set_option maxRecDepth 20000 in
set_option maxHeartbeats 4000000 in
theorem zc_X8_tell_27 (x1 : Int32) (x2 : Int32) (x3 : Int32) (M : zM) {r : Int32 × zM} (h : p_X8_tell_27 x1 x2 x3 M = some r) : zS Y_X8_tell 27 [some (zO 0), some (zI x1), some (zI x2), some (zI x3)] [] M (some r.1, r.2) := by
  rw [p_X8_tell_27] at h
  refine zS_aload_nO dX8_tell_27 rfl rfl ?_
  refine gf_0_5 dX8_tell_28 zw_150 ?_
  refine gf_6_3 dX8_tell_31 zw_200 ?_
  refine zS_iload_n dX8_tell_34 rfl rfl ?_
  by_cases b35 : x1 < 0 ∨ 3 ≤ x1.toNatClampNeg
  · rw [if_pos b35] at h; cases h
  rw [if_neg b35] at h
  refine zS_aald lay_47 b35 dX8_tell_35 ?_
  refine zS_iload_n dX8_tell_36 rfl rfl ?_
  refine zS_iload_n dX8_tell_37 rfl rfl ?_
  obtain ⟨q38, h38, h⟩ := zbind h
  refine zS_callS (as := [zA (48 + x1.toNatClampNeg) 64, zI x2, zI x3]) (st := []) (ls0 := [some (zA (48 + x1.toNatClampNeg) 64), some (zI x2), some (zI x3), none]) dX8_tell_38 okY_X8_replace rfl rfl zw_15 zw_16 np_X8_replace (by decide) (Nat.le_of_ble_eq_true rfl) rfl (Nat.le_of_ble_eq_true rfl) (And.intro rfl (And.intro rfl (And.intro rfl trivial))) (zc_X8_replace (48 + x1.toNatClampNeg) 64 x2 x3 M h38) ?_
  cases h
  exact zS_ireturn dX8_tell_41 rfl rfl
def p_X8_tell (x1 : Int32) (x2 : Int32) (x3 : Int32) (M : zM) : Option (Int32 × zM) :=
  (p_X8_isCell x1 x2 M).bind fun r3 =>
  if r3 = 0 then
    some ((-2 : Int32), M)
  else
    if x3 = (-1 : Int32) then
      p_X8_tell_27 x1 x2 x3 M
    else
      (p_X8_isNote x3).bind fun r18 =>
      if r18 = 0 then
        some ((-3 : Int32), M)
      else
        p_X8_tell_27 x1 x2 x3 M
set_option maxRecDepth 20000 in
set_option maxHeartbeats 4000000 in
theorem zc_X8_tell (x1 : Int32) (x2 : Int32) (x3 : Int32) (M : zM) {r : Int32 × zM} (h : p_X8_tell x1 x2 x3 M = some r) : zS Y_X8_tell 0 [some (zO 0), some (zI x1), some (zI x2), some (zI x3)] [] M (some r.1, r.2) := by
  rw [p_X8_tell] at h
  refine zS_aload_nO dX8_tell_0 rfl rfl ?_
  refine zS_iload_n dX8_tell_1 rfl rfl ?_
  refine zS_iload_n dX8_tell_2 rfl rfl ?_
  obtain ⟨r3, h3, h⟩ := zbind h
  refine zS_callV (as := [zI x1, zI x2]) (st := []) (ls0 := [some (zO 0), some (zI x1), some (zI x2)]) dX8_tell_3 okY_X8_isCell rfl rfl lay_0 rfl zw_201 zw_202 zw_203 np_X8_isCell (by decide) (Nat.le_of_ble_eq_true rfl) rfl (Nat.le_of_ble_eq_true rfl) (And.intro rfl (And.intro rfl (And.intro rfl trivial))) (zc_X8_isCell x1 x2 M h3) ?_
  refine zS_if_ne (tgt := 12) dX8_tell_6 (by decide) (fun c6 => ?_) (fun c6 => ?_)
  · rw [if_neg c6] at h
    refine zS_iload_n dX8_tell_12 rfl rfl ?_
    refine zS_iconst (v := (-1 : Int32)) dX8_tell_13 (by decide) ?_
    refine zS_icmp_eq (tgt := 27) dX8_tell_14 (by decide) (fun c14 => ?_) (fun c14 => ?_)
    · rw [if_pos c14] at h
      exact zS_wk [some (zO 0), some (zI x1), some (zI x2), some (zI x3)] (And.intro rfl (And.intro rfl (And.intro rfl (And.intro rfl trivial)))) (zc_X8_tell_27 x1 x2 x3 M h)
    · rw [if_neg c14] at h
      refine zS_iload_n dX8_tell_17 rfl rfl ?_
      obtain ⟨r18, h18, h⟩ := zbind h
      refine zS_callS (as := [zI x3]) (st := []) (ls0 := [some (zI x3)]) dX8_tell_18 okY_X8_isNote rfl rfl zw_31 zw_32 np_X8_isNote (by decide) (Nat.le_of_ble_eq_true rfl) rfl (Nat.le_of_ble_eq_true rfl) (And.intro rfl trivial) (zc_X8_isNote x3 M h18) ?_
      refine zS_if_ne (tgt := 27) dX8_tell_21 (by decide) (fun c21 => ?_) (fun c21 => ?_)
      · rw [if_neg c21] at h
        exact zS_wk [some (zO 0), some (zI x1), some (zI x2), some (zI x3)] (And.intro rfl (And.intro rfl (And.intro rfl (And.intro rfl trivial)))) (zc_X8_tell_27 x1 x2 x3 M h)
      · rw [if_pos c21] at h
        refine zS_bipush (v := (-3 : Int32)) dX8_tell_24 (by decide) ?_
        cases h
        exact zS_ireturn dX8_tell_26 rfl rfl
  · rw [if_pos c6] at h
    refine zS_bipush (v := (-2 : Int32)) dX8_tell_9 (by decide) ?_
    cases h
    exact zS_ireturn dX8_tell_11 rfl rfl
def p_X8_cells (x1 : Int32) (M : zM) : Option (Int32) :=
  (p_X8_isSheet x1 M).bind fun r2 =>
  if r2 = 0 then
    some (-2 : Int32)
  else
    if x1 < 0 ∨ 3 ≤ x1.toNatClampNeg then none else
    some (M 46 x1.toNatClampNeg)
set_option maxRecDepth 20000 in
set_option maxHeartbeats 4000000 in
theorem zc_X8_cells (x1 : Int32) (M : zM) {r : Int32} (h : p_X8_cells x1 M = some r) : zS Y_X8_cells 0 [some (zO 0), some (zI x1)] [] M (some r, M) := by
  rw [p_X8_cells] at h
  refine zS_aload_nO dX8_cells_0 rfl rfl ?_
  refine zS_iload_n dX8_cells_1 rfl rfl ?_
  obtain ⟨r2, h2, h⟩ := zbind h
  refine zS_callV (as := [zI x1]) (st := []) (ls0 := [some (zO 0), some (zI x1)]) dX8_cells_2 okY_X8_isSheet rfl rfl lay_0 rfl zw_196 zw_197 zw_198 np_X8_isSheet (by decide) (Nat.le_of_ble_eq_true rfl) rfl (Nat.le_of_ble_eq_true rfl) (And.intro rfl (And.intro rfl trivial)) (zc_X8_isSheet x1 M h2) ?_
  refine zS_if_ne (tgt := 11) dX8_cells_5 (by decide) (fun c5 => ?_) (fun c5 => ?_)
  · rw [if_neg c5] at h
    refine zS_aload_nO dX8_cells_11 rfl rfl ?_
    refine gf_0_5 dX8_cells_12 zw_150 ?_
    refine gf_6_2 dX8_cells_15 zw_199 ?_
    refine zS_iload_n dX8_cells_18 rfl rfl ?_
    by_cases b19 : x1 < 0 ∨ 3 ≤ x1.toNatClampNeg
    · rw [if_pos b19] at h; cases h
    rw [if_neg b19] at h
    refine zS_iald b19 dX8_cells_19 ?_
    cases h
    exact zS_ireturn dX8_cells_20 rfl rfl
  · rw [if_pos c5] at h
    refine zS_bipush (v := (-2 : Int32)) dX8_cells_8 (by decide) ?_
    cases h
    exact zS_ireturn dX8_cells_10 rfl rfl
def p_X8_clear (M : zM) : Option (Int32 × zM) :=
  some (M 6 4, zset M 6 4 (0 : Int32))
set_option maxRecDepth 20000 in
set_option maxHeartbeats 4000000 in
theorem zc_X8_clear (M : zM) {r : Int32 × zM} (h : p_X8_clear M = some r) : zS Y_X8_clear 0 [some (zO 0), none] [] M (some r.1, r.2) := by
  rw [p_X8_clear] at h
  refine zS_aload_nO dX8_clear_0 rfl rfl ?_
  refine gf_0_5 dX8_clear_1 zw_150 ?_
  refine gf_6_4 dX8_clear_4 zw_192 ?_
  refine zS_istore_n (ls' := [some (zO 0), some (zI (M 6 4))]) dX8_clear_7 rfl (by decide) rfl rfl ?_
  refine zS_aload_nO dX8_clear_8 rfl rfl ?_
  refine gf_0_5 dX8_clear_9 zw_150 ?_
  refine zS_iconst (v := (0 : Int32)) dX8_clear_12 (by decide) ?_
  refine pf_6_4 dX8_clear_13 zw_192 ?_
  refine zS_iload_n dX8_clear_16 rfl rfl ?_
  cases h
  exact zS_ireturn dX8_clear_17 rfl rfl
def p_X8_agreeing (M : zM) : Option (Int32 × zM) :=
  if (M 6 4) = 0 then
    some ((-4 : Int32), M)
  else
    (p_X5_agreeingGrounds M).bind fun q17 =>
    some (q17.1, q17.2)
set_option maxRecDepth 20000 in
set_option maxHeartbeats 4000000 in
theorem zc_X8_agreeing (M : zM) {r : Int32 × zM} (h : p_X8_agreeing M = some r) : zS Y_X8_agreeing 0 [some (zO 0)] [] M (some r.1, r.2) := by
  rw [p_X8_agreeing] at h
  refine zS_aload_nO dX8_agreeing_0 rfl rfl ?_
  refine gf_0_5 dX8_agreeing_1 zw_150 ?_
  refine gf_6_4 dX8_agreeing_4 zw_192 ?_
  refine zS_if_ne (tgt := 13) dX8_agreeing_7 (by decide) (fun c7 => ?_) (fun c7 => ?_)
  · rw [if_neg c7] at h
    refine zS_aload_nO dX8_agreeing_13 rfl rfl ?_
    refine gf_0_5 dX8_agreeing_14 zw_150 ?_
    obtain ⟨q17, h17, h⟩ := zbind h
    refine zS_callV (as := []) (st := []) (ls0 := [some (zO 6), none, none]) dX8_agreeing_17 okY_X5_agreeingGrounds rfl rfl lay_6 rfl zw_219 zw_220 zw_221 np_X5_agreeingGrounds (by decide) (Nat.le_of_ble_eq_true rfl) rfl (Nat.le_of_ble_eq_true rfl) (And.intro rfl trivial) (zc_X5_agreeingGrounds M h17) ?_
    cases h
    exact zS_ireturn dX8_agreeing_20 rfl rfl
  · rw [if_pos c7] at h
    refine zS_bipush (v := (-4 : Int32)) dX8_agreeing_10 (by decide) ?_
    cases h
    exact zS_ireturn dX8_agreeing_12 rfl rfl
def p_X8_least (x1 : Int32) (M : zM) : Option (Int32 × zM) :=
  if (M 6 4) = 0 then
    some ((-4 : Int32), M)
  else
    (p_X8_within x1 (0 : Int32) ((M 6 5) - (1 : Int32))).bind fun r24 =>
    if r24 = 0 then
      some ((-1 : Int32), M)
    else
      (p_X5_chooseGround M).bind fun M36 =>
      if x1 < 0 ∨ 16 ≤ x1.toNatClampNeg then none else
      some (M36 69 x1.toNatClampNeg, M36)
set_option maxRecDepth 20000 in
set_option maxHeartbeats 4000000 in
theorem zc_X8_least (x1 : Int32) (M : zM) {r : Int32 × zM} (h : p_X8_least x1 M = some r) : zS Y_X8_least 0 [some (zO 0), some (zI x1)] [] M (some r.1, r.2) := by
  rw [p_X8_least] at h
  refine zS_aload_nO dX8_least_0 rfl rfl ?_
  refine gf_0_5 dX8_least_1 zw_150 ?_
  refine gf_6_4 dX8_least_4 zw_192 ?_
  refine zS_if_ne (tgt := 13) dX8_least_7 (by decide) (fun c7 => ?_) (fun c7 => ?_)
  · rw [if_neg c7] at h
    refine zS_iload_n dX8_least_13 rfl rfl ?_
    refine zS_iconst (v := (0 : Int32)) dX8_least_14 (by decide) ?_
    refine zS_aload_nO dX8_least_15 rfl rfl ?_
    refine gf_0_5 dX8_least_16 zw_150 ?_
    refine gf_6_5 dX8_least_19 zw_225 ?_
    refine zS_iconst (v := (1 : Int32)) dX8_least_22 (by decide) ?_
    refine zS_isub dX8_least_23 ?_
    obtain ⟨r24, h24, h⟩ := zbind h
    refine zS_callS (as := [zI x1, zI (0 : Int32), zI ((M 6 5) - (1 : Int32))]) (st := []) (ls0 := [some (zI x1), some (zI (0 : Int32)), some (zI ((M 6 5) - (1 : Int32)))]) dX8_least_24 okY_X8_within rfl rfl zw_0 zw_1 np_X8_within (by decide) (Nat.le_of_ble_eq_true rfl) rfl (Nat.le_of_ble_eq_true rfl) (And.intro rfl (And.intro rfl (And.intro rfl trivial))) (zc_X8_within x1 (0 : Int32) ((M 6 5) - (1 : Int32)) M h24) ?_
    refine zS_if_ne (tgt := 32) dX8_least_27 (by decide) (fun c27 => ?_) (fun c27 => ?_)
    · rw [if_neg c27] at h
      refine zS_aload_nO dX8_least_32 rfl rfl ?_
      refine gf_0_5 dX8_least_33 zw_150 ?_
      obtain ⟨M36, h36, h⟩ := zbind h
      refine zS_callVv (as := []) (st := []) (ls0 := [some (zO 6), none]) dX8_least_36 okY_X5_chooseGround rfl rfl lay_6 rfl zw_226 zw_227 zw_228 np_X5_chooseGround (by decide) (Nat.le_of_ble_eq_true rfl) rfl (Nat.le_of_ble_eq_true rfl) (And.intro rfl trivial) (zc_X5_chooseGround M h36) ?_
      refine zS_aload_nO dX8_least_39 rfl rfl ?_
      refine gf_0_5 dX8_least_40 zw_150 ?_
      refine gf_6_10 dX8_least_43 zw_229 ?_
      refine zS_iload_n dX8_least_46 rfl rfl ?_
      by_cases b47 : x1 < 0 ∨ 16 ≤ x1.toNatClampNeg
      · rw [if_pos b47] at h; cases h
      rw [if_neg b47] at h
      refine zS_iald b47 dX8_least_47 ?_
      cases h
      exact zS_ireturn dX8_least_48 rfl rfl
    · rw [if_pos c27] at h
      refine zS_iconst (v := (-1 : Int32)) dX8_least_30 (by decide) ?_
      cases h
      exact zS_ireturn dX8_least_31 rfl rfl
  · rw [if_pos c7] at h
    refine zS_bipush (v := (-4 : Int32)) dX8_least_10 (by decide) ?_
    cases h
    exact zS_ireturn dX8_least_12 rfl rfl
def p_X8_blamed_25 (x1 : Int32) (x2 : Int32) (M : zM) : Option (Int32 × zM) :=
  (p_X5_chooseGround M).bind fun M29 =>
  if x2 = (-1 : Int32) then
    (p_X5_wrongCells x1 M29).bind fun r42 =>
    some (r42, M29)
  else
    (p_X5_isWrong x1 x2 M29).bind fun r52 =>
    if r52 = 0 then
      some ((0 : Int32), M29)
    else
      some ((1 : Int32), M29)
set_option maxRecDepth 20000 in
set_option maxHeartbeats 4000000 in
theorem zc_X8_blamed_25 (x1 : Int32) (x2 : Int32) (M : zM) {r : Int32 × zM} (h : p_X8_blamed_25 x1 x2 M = some r) : zS Y_X8_blamed 25 [some (zO 0), some (zI x1), some (zI x2)] [] M (some r.1, r.2) := by
  rw [p_X8_blamed_25] at h
  refine zS_aload_nO dX8_blamed_25 rfl rfl ?_
  refine gf_0_5 dX8_blamed_26 zw_150 ?_
  obtain ⟨M29, h29, h⟩ := zbind h
  refine zS_callVv (as := []) (st := []) (ls0 := [some (zO 6), none]) dX8_blamed_29 okY_X5_chooseGround rfl rfl lay_6 rfl zw_226 zw_227 zw_228 np_X5_chooseGround (by decide) (Nat.le_of_ble_eq_true rfl) rfl (Nat.le_of_ble_eq_true rfl) (And.intro rfl trivial) (zc_X5_chooseGround M h29) ?_
  refine zS_iload_n dX8_blamed_32 rfl rfl ?_
  refine zS_iconst (v := (-1 : Int32)) dX8_blamed_33 (by decide) ?_
  refine zS_icmp_ne (tgt := 46) dX8_blamed_34 (by decide) (fun c34 => ?_) (fun c34 => ?_)
  · rw [if_neg c34] at h
    refine zS_aload_nO dX8_blamed_46 rfl rfl ?_
    refine gf_0_5 dX8_blamed_47 zw_150 ?_
    refine zS_iload_n dX8_blamed_50 rfl rfl ?_
    refine zS_iload_n dX8_blamed_51 rfl rfl ?_
    obtain ⟨r52, h52, h⟩ := zbind h
    refine zS_callV (as := [zI x1, zI x2]) (st := []) (ls0 := [some (zO 6), some (zI x1), some (zI x2), none, none]) dX8_blamed_52 okY_X5_isWrong rfl rfl lay_6 rfl zw_230 zw_231 zw_233 np_X5_isWrong (by decide) (Nat.le_of_ble_eq_true rfl) rfl (Nat.le_of_ble_eq_true rfl) (And.intro rfl (And.intro rfl (And.intro rfl trivial))) (zc_X5_isWrong x1 x2 M29 h52) ?_
    refine zS_if_eq (tgt := 62) dX8_blamed_55 (by decide) (fun c55 => ?_) (fun c55 => ?_)
    · rw [if_pos c55] at h
      refine zS_iconst (v := (0 : Int32)) dX8_blamed_62 (by decide) ?_
      cases h
      exact zS_ireturn dX8_blamed_63 rfl rfl
    · rw [if_neg c55] at h
      refine zS_iconst (v := (1 : Int32)) dX8_blamed_58 (by decide) ?_
      refine zS_goto (tgt := 63) dX8_blamed_59 (by decide) ?_
      cases h
      exact zS_ireturn dX8_blamed_63 rfl rfl
  · rw [if_pos c34] at h
    refine zS_aload_nO dX8_blamed_37 rfl rfl ?_
    refine gf_0_5 dX8_blamed_38 zw_150 ?_
    refine zS_iload_n dX8_blamed_41 rfl rfl ?_
    obtain ⟨r42, h42, h⟩ := zbind h
    refine zS_callV (as := [zI x1]) (st := []) (ls0 := [some (zO 6), some (zI x1), none, none]) dX8_blamed_42 okY_X5_wrongCells rfl rfl lay_6 rfl zw_234 zw_235 zw_236 np_X5_wrongCells (by decide) (Nat.le_of_ble_eq_true rfl) rfl (Nat.le_of_ble_eq_true rfl) (And.intro rfl (And.intro rfl trivial)) (zc_X5_wrongCells x1 M29 h42) ?_
    cases h
    exact zS_ireturn dX8_blamed_45 rfl rfl
def p_X8_blamed (x1 : Int32) (x2 : Int32) (M : zM) : Option (Int32 × zM) :=
  (p_X8_isSheet x1 M).bind fun r2 =>
  if r2 = 0 then
    some ((-2 : Int32), M)
  else
    if x2 = (-1 : Int32) then
      p_X8_blamed_25 x1 x2 M
    else
      (p_X8_isCell x1 x2 M).bind fun r16 =>
      if r16 = 0 then
        some ((-2 : Int32), M)
      else
        p_X8_blamed_25 x1 x2 M
set_option maxRecDepth 20000 in
set_option maxHeartbeats 4000000 in
theorem zc_X8_blamed (x1 : Int32) (x2 : Int32) (M : zM) {r : Int32 × zM} (h : p_X8_blamed x1 x2 M = some r) : zS Y_X8_blamed 0 [some (zO 0), some (zI x1), some (zI x2)] [] M (some r.1, r.2) := by
  rw [p_X8_blamed] at h
  refine zS_aload_nO dX8_blamed_0 rfl rfl ?_
  refine zS_iload_n dX8_blamed_1 rfl rfl ?_
  obtain ⟨r2, h2, h⟩ := zbind h
  refine zS_callV (as := [zI x1]) (st := []) (ls0 := [some (zO 0), some (zI x1)]) dX8_blamed_2 okY_X8_isSheet rfl rfl lay_0 rfl zw_196 zw_197 zw_198 np_X8_isSheet (by decide) (Nat.le_of_ble_eq_true rfl) rfl (Nat.le_of_ble_eq_true rfl) (And.intro rfl (And.intro rfl trivial)) (zc_X8_isSheet x1 M h2) ?_
  refine zS_if_eq (tgt := 22) dX8_blamed_5 (by decide) (fun c5 => ?_) (fun c5 => ?_)
  · rw [if_pos c5] at h
    refine zS_bipush (v := (-2 : Int32)) dX8_blamed_22 (by decide) ?_
    cases h
    exact zS_ireturn dX8_blamed_24 rfl rfl
  · rw [if_neg c5] at h
    refine zS_iload_n dX8_blamed_8 rfl rfl ?_
    refine zS_iconst (v := (-1 : Int32)) dX8_blamed_9 (by decide) ?_
    refine zS_icmp_eq (tgt := 25) dX8_blamed_10 (by decide) (fun c10 => ?_) (fun c10 => ?_)
    · rw [if_pos c10] at h
      exact zS_wk [some (zO 0), some (zI x1), some (zI x2)] (And.intro rfl (And.intro rfl (And.intro rfl trivial))) (zc_X8_blamed_25 x1 x2 M h)
    · rw [if_neg c10] at h
      refine zS_aload_nO dX8_blamed_13 rfl rfl ?_
      refine zS_iload_n dX8_blamed_14 rfl rfl ?_
      refine zS_iload_n dX8_blamed_15 rfl rfl ?_
      obtain ⟨r16, h16, h⟩ := zbind h
      refine zS_callV (as := [zI x1, zI x2]) (st := []) (ls0 := [some (zO 0), some (zI x1), some (zI x2)]) dX8_blamed_16 okY_X8_isCell rfl rfl lay_0 rfl zw_201 zw_202 zw_203 np_X8_isCell (by decide) (Nat.le_of_ble_eq_true rfl) rfl (Nat.le_of_ble_eq_true rfl) (And.intro rfl (And.intro rfl (And.intro rfl trivial))) (zc_X8_isCell x1 x2 M h16) ?_
      refine zS_if_ne (tgt := 25) dX8_blamed_19 (by decide) (fun c19 => ?_) (fun c19 => ?_)
      · rw [if_neg c19] at h
        exact zS_wk [some (zO 0), some (zI x1), some (zI x2)] (And.intro rfl (And.intro rfl (And.intro rfl trivial))) (zc_X8_blamed_25 x1 x2 M h)
      · rw [if_pos c19] at h
        refine zS_bipush (v := (-2 : Int32)) dX8_blamed_22 (by decide) ?_
        cases h
        exact zS_ireturn dX8_blamed_24 rfl rfl
def p_X8_piper (x1 : Int32) (x2 : Int32) (x3 : Int32) (x4 : Int32) (x5 : Int32) (M : zM) : Option (Int32 × zM) :=
  (p_X8_isPiper x1).bind fun r1 =>
  if r1 = 0 then
    some ((-2 : Int32), M)
  else
    (p_X8_within x2 (-99 : Int32) (99 : Int32)).bind fun r15 =>
    if r15 = 0 then
      some ((-3 : Int32), M)
    else
      (p_X8_within x3 (0 : Int32) (9 : Int32)).bind fun r25 =>
      if r25 = 0 then
        some ((-3 : Int32), M)
      else
        (p_X8_within x4 (1 : Int32) (60 : Int32)).bind fun r36 =>
        if r36 = 0 then
          some ((-3 : Int32), M)
        else
          (p_X8_within x5 (0 : Int32) (90 : Int32)).bind fun r47 =>
          if r47 = 0 then
            some ((-3 : Int32), M)
          else
            (p_X3_become x1 x2 x3 x4 x5 M).bind fun M67 =>
            some ((1 : Int32), M67)
set_option maxRecDepth 20000 in
set_option maxHeartbeats 4000000 in
theorem zc_X8_piper (x1 : Int32) (x2 : Int32) (x3 : Int32) (x4 : Int32) (x5 : Int32) (M : zM) {r : Int32 × zM} (h : p_X8_piper x1 x2 x3 x4 x5 M = some r) : zS Y_X8_piper 0 [some (zO 0), some (zI x1), some (zI x2), some (zI x3), some (zI x4), some (zI x5)] [] M (some r.1, r.2) := by
  rw [p_X8_piper] at h
  refine zS_iload_n dX8_piper_0 rfl rfl ?_
  obtain ⟨r1, h1, h⟩ := zbind h
  refine zS_callS (as := [zI x1]) (st := []) (ls0 := [some (zI x1)]) dX8_piper_1 okY_X8_isPiper rfl rfl zw_241 zw_242 np_X8_isPiper (by decide) (Nat.le_of_ble_eq_true rfl) rfl (Nat.le_of_ble_eq_true rfl) (And.intro rfl trivial) (zc_X8_isPiper x1 M h1) ?_
  refine zS_if_ne (tgt := 10) dX8_piper_4 (by decide) (fun c4 => ?_) (fun c4 => ?_)
  · rw [if_neg c4] at h
    refine zS_iload_n dX8_piper_10 rfl rfl ?_
    refine zS_bipush (v := (-99 : Int32)) dX8_piper_11 (by decide) ?_
    refine zS_bipush (v := (99 : Int32)) dX8_piper_13 (by decide) ?_
    obtain ⟨r15, h15, h⟩ := zbind h
    refine zS_callS (as := [zI x2, zI (-99 : Int32), zI (99 : Int32)]) (st := []) (ls0 := [some (zI x2), some (zI (-99 : Int32)), some (zI (99 : Int32))]) dX8_piper_15 okY_X8_within rfl rfl zw_0 zw_1 np_X8_within (by decide) (Nat.le_of_ble_eq_true rfl) rfl (Nat.le_of_ble_eq_true rfl) (And.intro rfl (And.intro rfl (And.intro rfl trivial))) (zc_X8_within x2 (-99 : Int32) (99 : Int32) M h15) ?_
    refine zS_if_eq (tgt := 53) dX8_piper_18 (by decide) (fun c18 => ?_) (fun c18 => ?_)
    · rw [if_pos c18] at h
      refine zS_bipush (v := (-3 : Int32)) dX8_piper_53 (by decide) ?_
      cases h
      exact zS_ireturn dX8_piper_55 rfl rfl
    · rw [if_neg c18] at h
      refine zS_iload_n dX8_piper_21 rfl rfl ?_
      refine zS_iconst (v := (0 : Int32)) dX8_piper_22 (by decide) ?_
      refine zS_bipush (v := (9 : Int32)) dX8_piper_23 (by decide) ?_
      obtain ⟨r25, h25, h⟩ := zbind h
      refine zS_callS (as := [zI x3, zI (0 : Int32), zI (9 : Int32)]) (st := []) (ls0 := [some (zI x3), some (zI (0 : Int32)), some (zI (9 : Int32))]) dX8_piper_25 okY_X8_within rfl rfl zw_0 zw_1 np_X8_within (by decide) (Nat.le_of_ble_eq_true rfl) rfl (Nat.le_of_ble_eq_true rfl) (And.intro rfl (And.intro rfl (And.intro rfl trivial))) (zc_X8_within x3 (0 : Int32) (9 : Int32) M h25) ?_
      refine zS_if_eq (tgt := 53) dX8_piper_28 (by decide) (fun c28 => ?_) (fun c28 => ?_)
      · rw [if_pos c28] at h
        refine zS_bipush (v := (-3 : Int32)) dX8_piper_53 (by decide) ?_
        cases h
        exact zS_ireturn dX8_piper_55 rfl rfl
      · rw [if_neg c28] at h
        refine zS_iload dX8_piper_31 rfl ?_
        refine zS_iconst (v := (1 : Int32)) dX8_piper_33 (by decide) ?_
        refine zS_bipush (v := (60 : Int32)) dX8_piper_34 (by decide) ?_
        obtain ⟨r36, h36, h⟩ := zbind h
        refine zS_callS (as := [zI x4, zI (1 : Int32), zI (60 : Int32)]) (st := []) (ls0 := [some (zI x4), some (zI (1 : Int32)), some (zI (60 : Int32))]) dX8_piper_36 okY_X8_within rfl rfl zw_0 zw_1 np_X8_within (by decide) (Nat.le_of_ble_eq_true rfl) rfl (Nat.le_of_ble_eq_true rfl) (And.intro rfl (And.intro rfl (And.intro rfl trivial))) (zc_X8_within x4 (1 : Int32) (60 : Int32) M h36) ?_
        refine zS_if_eq (tgt := 53) dX8_piper_39 (by decide) (fun c39 => ?_) (fun c39 => ?_)
        · rw [if_pos c39] at h
          refine zS_bipush (v := (-3 : Int32)) dX8_piper_53 (by decide) ?_
          cases h
          exact zS_ireturn dX8_piper_55 rfl rfl
        · rw [if_neg c39] at h
          refine zS_iload dX8_piper_42 rfl ?_
          refine zS_iconst (v := (0 : Int32)) dX8_piper_44 (by decide) ?_
          refine zS_bipush (v := (90 : Int32)) dX8_piper_45 (by decide) ?_
          obtain ⟨r47, h47, h⟩ := zbind h
          refine zS_callS (as := [zI x5, zI (0 : Int32), zI (90 : Int32)]) (st := []) (ls0 := [some (zI x5), some (zI (0 : Int32)), some (zI (90 : Int32))]) dX8_piper_47 okY_X8_within rfl rfl zw_0 zw_1 np_X8_within (by decide) (Nat.le_of_ble_eq_true rfl) rfl (Nat.le_of_ble_eq_true rfl) (And.intro rfl (And.intro rfl (And.intro rfl trivial))) (zc_X8_within x5 (0 : Int32) (90 : Int32) M h47) ?_
          refine zS_if_ne (tgt := 56) dX8_piper_50 (by decide) (fun c50 => ?_) (fun c50 => ?_)
          · rw [if_neg c50] at h
            refine zS_aload_nO dX8_piper_56 rfl rfl ?_
            refine gf_0_6 dX8_piper_57 zw_243 ?_
            refine zS_iload_n dX8_piper_60 rfl rfl ?_
            refine zS_iload_n dX8_piper_61 rfl rfl ?_
            refine zS_iload_n dX8_piper_62 rfl rfl ?_
            refine zS_iload dX8_piper_63 rfl ?_
            refine zS_iload dX8_piper_65 rfl ?_
            obtain ⟨M67, h67, h⟩ := zbind h
            refine zS_callVv (as := [zI x1, zI x2, zI x3, zI x4, zI x5]) (st := []) (ls0 := [some (zO 7), some (zI x1), some (zI x2), some (zI x3), some (zI x4), some (zI x5)]) dX8_piper_67 okY_X3_become rfl rfl lay_7 rfl zw_244 zw_245 zw_246 np_X3_become (by decide) (Nat.le_of_ble_eq_true rfl) rfl (Nat.le_of_ble_eq_true rfl) (And.intro rfl (And.intro rfl (And.intro rfl (And.intro rfl (And.intro rfl (And.intro rfl trivial)))))) (zc_X3_become x1 x2 x3 x4 x5 M h67) ?_
            refine zS_iconst (v := (1 : Int32)) dX8_piper_70 (by decide) ?_
            cases h
            exact zS_ireturn dX8_piper_71 rfl rfl
          · rw [if_pos c50] at h
            refine zS_bipush (v := (-3 : Int32)) dX8_piper_53 (by decide) ?_
            cases h
            exact zS_ireturn dX8_piper_55 rfl rfl
  · rw [if_pos c4] at h
    refine zS_bipush (v := (-2 : Int32)) dX8_piper_7 (by decide) ?_
    cases h
    exact zS_ireturn dX8_piper_9 rfl rfl
def p_X8_damp (x1 : Int32) (M : zM) : Option (Int32 × zM) :=
  (p_X8_within x1 (0 : Int32) (5 : Int32)).bind fun r3 =>
  if r3 = 0 then
    some ((-3 : Int32), M)
  else
    some (M 7 4, zset M 7 4 x1)
set_option maxRecDepth 20000 in
set_option maxHeartbeats 4000000 in
theorem zc_X8_damp (x1 : Int32) (M : zM) {r : Int32 × zM} (h : p_X8_damp x1 M = some r) : zS Y_X8_damp 0 [some (zO 0), some (zI x1), none] [] M (some r.1, r.2) := by
  rw [p_X8_damp] at h
  refine zS_iload_n dX8_damp_0 rfl rfl ?_
  refine zS_iconst (v := (0 : Int32)) dX8_damp_1 (by decide) ?_
  refine zS_iconst (v := (5 : Int32)) dX8_damp_2 (by decide) ?_
  obtain ⟨r3, h3, h⟩ := zbind h
  refine zS_callS (as := [zI x1, zI (0 : Int32), zI (5 : Int32)]) (st := []) (ls0 := [some (zI x1), some (zI (0 : Int32)), some (zI (5 : Int32))]) dX8_damp_3 okY_X8_within rfl rfl zw_0 zw_1 np_X8_within (by decide) (Nat.le_of_ble_eq_true rfl) rfl (Nat.le_of_ble_eq_true rfl) (And.intro rfl (And.intro rfl (And.intro rfl trivial))) (zc_X8_within x1 (0 : Int32) (5 : Int32) M h3) ?_
  refine zS_if_ne (tgt := 12) dX8_damp_6 (by decide) (fun c6 => ?_) (fun c6 => ?_)
  · rw [if_neg c6] at h
    refine zS_aload_nO dX8_damp_12 rfl rfl ?_
    refine gf_0_6 dX8_damp_13 zw_243 ?_
    refine gf_7_4 dX8_damp_16 zw_247 ?_
    refine zS_istore_n (ls' := [some (zO 0), some (zI x1), some (zI (M 7 4))]) dX8_damp_19 rfl (by decide) rfl rfl ?_
    refine zS_aload_nO dX8_damp_20 rfl rfl ?_
    refine gf_0_6 dX8_damp_21 zw_243 ?_
    refine zS_iload_n dX8_damp_24 rfl rfl ?_
    refine pf_7_4 dX8_damp_25 zw_247 ?_
    refine zS_iload_n dX8_damp_28 rfl rfl ?_
    cases h
    exact zS_ireturn dX8_damp_29 rfl rfl
  · rw [if_pos c6] at h
    refine zS_bipush (v := (-3 : Int32)) dX8_damp_9 (by decide) ?_
    cases h
    exact zS_ireturn dX8_damp_11 rfl rfl
def p_X8_pitch (x1 : Int32) (x2 : Int32) (x3 : Int32) (M : zM) : Option (Int32) :=
  (p_X8_isPiper x1).bind fun r1 =>
  if r1 = 0 then
    some (-2147483648 : Int32)
  else
    (p_X8_isMinute x2).bind fun r8 =>
    if r8 = 0 then
      some (-2147483648 : Int32)
    else
      (p_X8_isMinute x3).bind fun r15 =>
      if r15 = 0 then
        some (-2147483648 : Int32)
      else
        if x3 < x2 then
          some (-2147483648 : Int32)
        else
          if x1 < 0 ∨ 6 ≤ x1.toNatClampNeg then none else
          if (M 73 x1.toNatClampNeg) ≤ x2 then
            (p_X3_pitchAfter x1 (x3 - x2) M).bind fun r53 =>
            some r53
          else
            some (-2147483648 : Int32)
set_option maxRecDepth 20000 in
set_option maxHeartbeats 4000000 in
theorem zc_X8_pitch (x1 : Int32) (x2 : Int32) (x3 : Int32) (M : zM) {r : Int32} (h : p_X8_pitch x1 x2 x3 M = some r) : zS Y_X8_pitch 0 [some (zO 0), some (zI x1), some (zI x2), some (zI x3)] [] M (some r, M) := by
  rw [p_X8_pitch] at h
  refine zS_iload_n dX8_pitch_0 rfl rfl ?_
  obtain ⟨r1, h1, h⟩ := zbind h
  refine zS_callS (as := [zI x1]) (st := []) (ls0 := [some (zI x1)]) dX8_pitch_1 okY_X8_isPiper rfl rfl zw_241 zw_242 np_X8_isPiper (by decide) (Nat.le_of_ble_eq_true rfl) rfl (Nat.le_of_ble_eq_true rfl) (And.intro rfl trivial) (zc_X8_isPiper x1 M h1) ?_
  refine zS_if_eq (tgt := 21) dX8_pitch_4 (by decide) (fun c4 => ?_) (fun c4 => ?_)
  · rw [if_pos c4] at h
    refine zS_ldc (v := (-2147483648 : Int32)) dX8_pitch_21 zw_256 ?_
    cases h
    exact zS_ireturn dX8_pitch_23 rfl rfl
  · rw [if_neg c4] at h
    refine zS_iload_n dX8_pitch_7 rfl rfl ?_
    obtain ⟨r8, h8, h⟩ := zbind h
    refine zS_callS (as := [zI x2]) (st := []) (ls0 := [some (zI x2)]) dX8_pitch_8 okY_X8_isMinute rfl rfl zw_257 zw_258 np_X8_isMinute (by decide) (Nat.le_of_ble_eq_true rfl) rfl (Nat.le_of_ble_eq_true rfl) (And.intro rfl trivial) (zc_X8_isMinute x2 M h8) ?_
    refine zS_if_eq (tgt := 21) dX8_pitch_11 (by decide) (fun c11 => ?_) (fun c11 => ?_)
    · rw [if_pos c11] at h
      refine zS_ldc (v := (-2147483648 : Int32)) dX8_pitch_21 zw_256 ?_
      cases h
      exact zS_ireturn dX8_pitch_23 rfl rfl
    · rw [if_neg c11] at h
      refine zS_iload_n dX8_pitch_14 rfl rfl ?_
      obtain ⟨r15, h15, h⟩ := zbind h
      refine zS_callS (as := [zI x3]) (st := []) (ls0 := [some (zI x3)]) dX8_pitch_15 okY_X8_isMinute rfl rfl zw_257 zw_258 np_X8_isMinute (by decide) (Nat.le_of_ble_eq_true rfl) rfl (Nat.le_of_ble_eq_true rfl) (And.intro rfl trivial) (zc_X8_isMinute x3 M h15) ?_
      refine zS_if_ne (tgt := 24) dX8_pitch_18 (by decide) (fun c18 => ?_) (fun c18 => ?_)
      · rw [if_neg c18] at h
        refine zS_iload_n dX8_pitch_24 rfl rfl ?_
        refine zS_iload_n dX8_pitch_25 rfl rfl ?_
        refine zS_icmp_gt (tgt := 42) dX8_pitch_26 (by decide) (fun c26 => ?_) (fun c26 => ?_)
        · rw [if_pos c26] at h
          refine zS_ldc (v := (-2147483648 : Int32)) dX8_pitch_42 zw_256 ?_
          cases h
          exact zS_ireturn dX8_pitch_44 rfl rfl
        · rw [if_neg c26] at h
          refine zS_iload_n dX8_pitch_29 rfl rfl ?_
          refine zS_aload_nO dX8_pitch_30 rfl rfl ?_
          refine gf_0_6 dX8_pitch_31 zw_243 ?_
          refine gf_7_3 dX8_pitch_34 zw_259 ?_
          refine zS_iload_n dX8_pitch_37 rfl rfl ?_
          by_cases b38 : x1 < 0 ∨ 6 ≤ x1.toNatClampNeg
          · rw [if_pos b38] at h; cases h
          rw [if_neg b38] at h
          refine zS_iald b38 dX8_pitch_38 ?_
          refine zS_icmp_ge (tgt := 45) dX8_pitch_39 (by decide) (fun c39 => ?_) (fun c39 => ?_)
          · rw [if_pos c39] at h
            refine zS_aload_nO dX8_pitch_45 rfl rfl ?_
            refine gf_0_6 dX8_pitch_46 zw_243 ?_
            refine zS_iload_n dX8_pitch_49 rfl rfl ?_
            refine zS_iload_n dX8_pitch_50 rfl rfl ?_
            refine zS_iload_n dX8_pitch_51 rfl rfl ?_
            refine zS_isub dX8_pitch_52 ?_
            obtain ⟨r53, h53, h⟩ := zbind h
            refine zS_callV (as := [zI x1, zI (x3 - x2)]) (st := []) (ls0 := [some (zO 7), some (zI x1), some (zI (x3 - x2))]) dX8_pitch_53 okY_X3_pitchAfter rfl rfl lay_7 rfl zw_260 zw_261 zw_262 np_X3_pitchAfter (by decide) (Nat.le_of_ble_eq_true rfl) rfl (Nat.le_of_ble_eq_true rfl) (And.intro rfl (And.intro rfl (And.intro rfl trivial))) (zc_X3_pitchAfter x1 (x3 - x2) M h53) ?_
            cases h
            exact zS_ireturn dX8_pitch_56 rfl rfl
          · rw [if_neg c39] at h
            refine zS_ldc (v := (-2147483648 : Int32)) dX8_pitch_42 zw_256 ?_
            cases h
            exact zS_ireturn dX8_pitch_44 rfl rfl
      · rw [if_pos c18] at h
        refine zS_ldc (v := (-2147483648 : Int32)) dX8_pitch_21 zw_256 ?_
        cases h
        exact zS_ireturn dX8_pitch_23 rfl rfl
def p_X8_band (x1 : Int32) (x2 : Int32) (x3 : Int32) (M : zM) : Option (Int32 × zM) :=
  (p_X8_isBand x1).bind fun r1 =>
  if r1 = 0 then
    some ((-3 : Int32), M)
  else
    (p_X8_isMinute x2).bind fun r8 =>
    if r8 = 0 then
      some ((-3 : Int32), M)
    else
      (p_X8_within x3 (0 : Int32) (1 : Int32)).bind fun r17 =>
      if r17 = 0 then
        some ((-3 : Int32), M)
      else
        (p_X3_allCome x1 x2 M).bind fun r32 =>
        if r32 = 0 then
          some ((-4 : Int32), M)
        else
          (p_X3_tuneBand x1 x2 M).bind fun M47 =>
          if x3 = 0 then
            some (M47 7 5, M47)
          else
            some ((M47 7 6) + (1000 : Int32), M47)
set_option maxRecDepth 20000 in
set_option maxHeartbeats 4000000 in
theorem zc_X8_band (x1 : Int32) (x2 : Int32) (x3 : Int32) (M : zM) {r : Int32 × zM} (h : p_X8_band x1 x2 x3 M = some r) : zS Y_X8_band 0 [some (zO 0), some (zI x1), some (zI x2), some (zI x3)] [] M (some r.1, r.2) := by
  rw [p_X8_band] at h
  refine zS_iload_n dX8_band_0 rfl rfl ?_
  obtain ⟨r1, h1, h⟩ := zbind h
  refine zS_callS (as := [zI x1]) (st := []) (ls0 := [some (zI x1)]) dX8_band_1 okY_X8_isBand rfl rfl zw_276 zw_277 np_X8_isBand (by decide) (Nat.le_of_ble_eq_true rfl) rfl (Nat.le_of_ble_eq_true rfl) (And.intro rfl trivial) (zc_X8_isBand x1 M h1) ?_
  refine zS_if_eq (tgt := 23) dX8_band_4 (by decide) (fun c4 => ?_) (fun c4 => ?_)
  · rw [if_pos c4] at h
    refine zS_bipush (v := (-3 : Int32)) dX8_band_23 (by decide) ?_
    cases h
    exact zS_ireturn dX8_band_25 rfl rfl
  · rw [if_neg c4] at h
    refine zS_iload_n dX8_band_7 rfl rfl ?_
    obtain ⟨r8, h8, h⟩ := zbind h
    refine zS_callS (as := [zI x2]) (st := []) (ls0 := [some (zI x2)]) dX8_band_8 okY_X8_isMinute rfl rfl zw_257 zw_258 np_X8_isMinute (by decide) (Nat.le_of_ble_eq_true rfl) rfl (Nat.le_of_ble_eq_true rfl) (And.intro rfl trivial) (zc_X8_isMinute x2 M h8) ?_
    refine zS_if_eq (tgt := 23) dX8_band_11 (by decide) (fun c11 => ?_) (fun c11 => ?_)
    · rw [if_pos c11] at h
      refine zS_bipush (v := (-3 : Int32)) dX8_band_23 (by decide) ?_
      cases h
      exact zS_ireturn dX8_band_25 rfl rfl
    · rw [if_neg c11] at h
      refine zS_iload_n dX8_band_14 rfl rfl ?_
      refine zS_iconst (v := (0 : Int32)) dX8_band_15 (by decide) ?_
      refine zS_iconst (v := (1 : Int32)) dX8_band_16 (by decide) ?_
      obtain ⟨r17, h17, h⟩ := zbind h
      refine zS_callS (as := [zI x3, zI (0 : Int32), zI (1 : Int32)]) (st := []) (ls0 := [some (zI x3), some (zI (0 : Int32)), some (zI (1 : Int32))]) dX8_band_17 okY_X8_within rfl rfl zw_0 zw_1 np_X8_within (by decide) (Nat.le_of_ble_eq_true rfl) rfl (Nat.le_of_ble_eq_true rfl) (And.intro rfl (And.intro rfl (And.intro rfl trivial))) (zc_X8_within x3 (0 : Int32) (1 : Int32) M h17) ?_
      refine zS_if_ne (tgt := 26) dX8_band_20 (by decide) (fun c20 => ?_) (fun c20 => ?_)
      · rw [if_neg c20] at h
        refine zS_aload_nO dX8_band_26 rfl rfl ?_
        refine gf_0_6 dX8_band_27 zw_243 ?_
        refine zS_iload_n dX8_band_30 rfl rfl ?_
        refine zS_iload_n dX8_band_31 rfl rfl ?_
        obtain ⟨r32, h32, h⟩ := zbind h
        refine zS_callV (as := [zI x1, zI x2]) (st := []) (ls0 := [some (zO 7), some (zI x1), some (zI x2), none]) dX8_band_32 okY_X3_allCome rfl rfl lay_7 rfl zw_278 zw_279 zw_280 np_X3_allCome (by decide) (Nat.le_of_ble_eq_true rfl) rfl (Nat.le_of_ble_eq_true rfl) (And.intro rfl (And.intro rfl (And.intro rfl trivial))) (zc_X3_allCome x1 x2 M h32) ?_
        refine zS_if_ne (tgt := 41) dX8_band_35 (by decide) (fun c35 => ?_) (fun c35 => ?_)
        · rw [if_neg c35] at h
          refine zS_aload_nO dX8_band_41 rfl rfl ?_
          refine gf_0_6 dX8_band_42 zw_243 ?_
          refine zS_iload_n dX8_band_45 rfl rfl ?_
          refine zS_iload_n dX8_band_46 rfl rfl ?_
          obtain ⟨M47, h47, h⟩ := zbind h
          refine zS_callVv (as := [zI x1, zI x2]) (st := []) (ls0 := [some (zO 7), some (zI x1), some (zI x2), none, none, none]) dX8_band_47 okY_X3_tuneBand rfl rfl lay_7 rfl zw_281 zw_282 zw_283 np_X3_tuneBand (by decide) (Nat.le_of_ble_eq_true rfl) rfl (Nat.le_of_ble_eq_true rfl) (And.intro rfl (And.intro rfl (And.intro rfl trivial))) (zc_X3_tuneBand x1 x2 M h47) ?_
          refine zS_iload_n dX8_band_50 rfl rfl ?_
          refine zS_if_ne (tgt := 64) dX8_band_51 (by decide) (fun c51 => ?_) (fun c51 => ?_)
          · rw [if_neg c51] at h
            refine zS_aload_nO dX8_band_64 rfl rfl ?_
            refine gf_0_6 dX8_band_65 zw_243 ?_
            refine gf_7_6 dX8_band_68 zw_284 ?_
            refine zS_sipush (v := (1000 : Int32)) dX8_band_71 (by decide) ?_
            refine zS_iadd dX8_band_74 ?_
            cases h
            exact zS_ireturn dX8_band_75 rfl rfl
          · rw [if_pos c51] at h
            refine zS_aload_nO dX8_band_54 rfl rfl ?_
            refine gf_0_6 dX8_band_55 zw_243 ?_
            refine gf_7_5 dX8_band_58 zw_285 ?_
            refine zS_goto (tgt := 75) dX8_band_61 (by decide) ?_
            cases h
            exact zS_ireturn dX8_band_75 rfl rfl
        · rw [if_pos c35] at h
          refine zS_bipush (v := (-4 : Int32)) dX8_band_38 (by decide) ?_
          cases h
          exact zS_ireturn dX8_band_40 rfl rfl
      · rw [if_pos c20] at h
        refine zS_bipush (v := (-3 : Int32)) dX8_band_23 (by decide) ?_
        cases h
        exact zS_ireturn dX8_band_25 rfl rfl
def p_X8_begins (x1 : Int32) (x2 : Int32) (x3 : Int32) (M : zM) : Option (Int32 × zM) :=
  (p_X8_isPiper x3).bind fun r1 =>
  if r1 = 0 then
    some ((-2 : Int32), M)
  else
    (p_X8_isBand x1).bind fun r11 =>
    if r11 = 0 then
      some ((-3 : Int32), M)
    else
      (p_X8_isMinute x2).bind fun r18 =>
      if r18 = 0 then
        some ((-3 : Int32), M)
      else
        (p_X3_allCome x1 x2 M).bind fun r33 =>
        if r33 = 0 then
          some ((-4 : Int32), M)
        else
          (p_X8_hasBit x1 x3).bind fun r44 =>
          if r44 = 0 then
            some ((-1 : Int32), M)
          else
            (p_X3_tuneBand x1 x2 M).bind fun M58 =>
            (p_X3_minutesToReach x3 (M58 7 6) x2 M58).bind fun r75 =>
            some (x2 - r75, M58)
set_option maxRecDepth 20000 in
set_option maxHeartbeats 4000000 in
theorem zc_X8_begins (x1 : Int32) (x2 : Int32) (x3 : Int32) (M : zM) {r : Int32 × zM} (h : p_X8_begins x1 x2 x3 M = some r) : zS Y_X8_begins 0 [some (zO 0), some (zI x1), some (zI x2), some (zI x3)] [] M (some r.1, r.2) := by
  rw [p_X8_begins] at h
  refine zS_iload_n dX8_begins_0 rfl rfl ?_
  obtain ⟨r1, h1, h⟩ := zbind h
  refine zS_callS (as := [zI x3]) (st := []) (ls0 := [some (zI x3)]) dX8_begins_1 okY_X8_isPiper rfl rfl zw_241 zw_242 np_X8_isPiper (by decide) (Nat.le_of_ble_eq_true rfl) rfl (Nat.le_of_ble_eq_true rfl) (And.intro rfl trivial) (zc_X8_isPiper x3 M h1) ?_
  refine zS_if_ne (tgt := 10) dX8_begins_4 (by decide) (fun c4 => ?_) (fun c4 => ?_)
  · rw [if_neg c4] at h
    refine zS_iload_n dX8_begins_10 rfl rfl ?_
    obtain ⟨r11, h11, h⟩ := zbind h
    refine zS_callS (as := [zI x1]) (st := []) (ls0 := [some (zI x1)]) dX8_begins_11 okY_X8_isBand rfl rfl zw_276 zw_277 np_X8_isBand (by decide) (Nat.le_of_ble_eq_true rfl) rfl (Nat.le_of_ble_eq_true rfl) (And.intro rfl trivial) (zc_X8_isBand x1 M h11) ?_
    refine zS_if_eq (tgt := 24) dX8_begins_14 (by decide) (fun c14 => ?_) (fun c14 => ?_)
    · rw [if_pos c14] at h
      refine zS_bipush (v := (-3 : Int32)) dX8_begins_24 (by decide) ?_
      cases h
      exact zS_ireturn dX8_begins_26 rfl rfl
    · rw [if_neg c14] at h
      refine zS_iload_n dX8_begins_17 rfl rfl ?_
      obtain ⟨r18, h18, h⟩ := zbind h
      refine zS_callS (as := [zI x2]) (st := []) (ls0 := [some (zI x2)]) dX8_begins_18 okY_X8_isMinute rfl rfl zw_257 zw_258 np_X8_isMinute (by decide) (Nat.le_of_ble_eq_true rfl) rfl (Nat.le_of_ble_eq_true rfl) (And.intro rfl trivial) (zc_X8_isMinute x2 M h18) ?_
      refine zS_if_ne (tgt := 27) dX8_begins_21 (by decide) (fun c21 => ?_) (fun c21 => ?_)
      · rw [if_neg c21] at h
        refine zS_aload_nO dX8_begins_27 rfl rfl ?_
        refine gf_0_6 dX8_begins_28 zw_243 ?_
        refine zS_iload_n dX8_begins_31 rfl rfl ?_
        refine zS_iload_n dX8_begins_32 rfl rfl ?_
        obtain ⟨r33, h33, h⟩ := zbind h
        refine zS_callV (as := [zI x1, zI x2]) (st := []) (ls0 := [some (zO 7), some (zI x1), some (zI x2), none]) dX8_begins_33 okY_X3_allCome rfl rfl lay_7 rfl zw_278 zw_279 zw_280 np_X3_allCome (by decide) (Nat.le_of_ble_eq_true rfl) rfl (Nat.le_of_ble_eq_true rfl) (And.intro rfl (And.intro rfl (And.intro rfl trivial))) (zc_X3_allCome x1 x2 M h33) ?_
        refine zS_if_ne (tgt := 42) dX8_begins_36 (by decide) (fun c36 => ?_) (fun c36 => ?_)
        · rw [if_neg c36] at h
          refine zS_iload_n dX8_begins_42 rfl rfl ?_
          refine zS_iload_n dX8_begins_43 rfl rfl ?_
          obtain ⟨r44, h44, h⟩ := zbind h
          refine zS_callS (as := [zI x1, zI x3]) (st := []) (ls0 := [some (zI x1), some (zI x3)]) dX8_begins_44 okY_X8_hasBit rfl rfl zw_24 zw_286 np_X8_hasBit (by decide) (Nat.le_of_ble_eq_true rfl) rfl (Nat.le_of_ble_eq_true rfl) (And.intro rfl (And.intro rfl trivial)) (zc_X8_hasBit x1 x3 M h44) ?_
          refine zS_if_ne (tgt := 52) dX8_begins_47 (by decide) (fun c47 => ?_) (fun c47 => ?_)
          · rw [if_neg c47] at h
            refine zS_aload_nO dX8_begins_52 rfl rfl ?_
            refine gf_0_6 dX8_begins_53 zw_243 ?_
            refine zS_iload_n dX8_begins_56 rfl rfl ?_
            refine zS_iload_n dX8_begins_57 rfl rfl ?_
            obtain ⟨M58, h58, h⟩ := zbind h
            refine zS_callVv (as := [zI x1, zI x2]) (st := []) (ls0 := [some (zO 7), some (zI x1), some (zI x2), none, none, none]) dX8_begins_58 okY_X3_tuneBand rfl rfl lay_7 rfl zw_281 zw_282 zw_283 np_X3_tuneBand (by decide) (Nat.le_of_ble_eq_true rfl) rfl (Nat.le_of_ble_eq_true rfl) (And.intro rfl (And.intro rfl (And.intro rfl trivial))) (zc_X3_tuneBand x1 x2 M h58) ?_
            refine zS_iload_n dX8_begins_61 rfl rfl ?_
            refine zS_aload_nO dX8_begins_62 rfl rfl ?_
            refine gf_0_6 dX8_begins_63 zw_243 ?_
            refine zS_iload_n dX8_begins_66 rfl rfl ?_
            refine zS_aload_nO dX8_begins_67 rfl rfl ?_
            refine gf_0_6 dX8_begins_68 zw_243 ?_
            refine gf_7_6 dX8_begins_71 zw_284 ?_
            refine zS_iload_n dX8_begins_74 rfl rfl ?_
            obtain ⟨r75, h75, h⟩ := zbind h
            refine zS_callV (as := [zI x3, zI (M58 7 6), zI x2]) (st := [zI x2]) (ls0 := [some (zO 7), some (zI x3), some (zI (M58 7 6)), some (zI x2), none, none]) dX8_begins_75 okY_X3_minutesToReach rfl rfl lay_7 rfl zw_268 zw_269 zw_287 np_X3_minutesToReach (by decide) (Nat.le_of_ble_eq_true rfl) rfl (Nat.le_of_ble_eq_true rfl) (And.intro rfl (And.intro rfl (And.intro rfl (And.intro rfl trivial)))) (zc_X3_minutesToReach x3 (M58 7 6) x2 M58 h75) ?_
            refine zS_isub dX8_begins_78 ?_
            cases h
            exact zS_ireturn dX8_begins_79 rfl rfl
          · rw [if_pos c47] at h
            refine zS_iconst (v := (-1 : Int32)) dX8_begins_50 (by decide) ?_
            cases h
            exact zS_ireturn dX8_begins_51 rfl rfl
        · rw [if_pos c36] at h
          refine zS_bipush (v := (-4 : Int32)) dX8_begins_39 (by decide) ?_
          cases h
          exact zS_ireturn dX8_begins_41 rfl rfl
      · rw [if_pos c21] at h
        refine zS_bipush (v := (-3 : Int32)) dX8_begins_24 (by decide) ?_
        cases h
        exact zS_ireturn dX8_begins_26 rfl rfl
  · rw [if_pos c4] at h
    refine zS_bipush (v := (-2 : Int32)) dX8_begins_7 (by decide) ?_
    cases h
    exact zS_ireturn dX8_begins_9 rfl rfl
def p_X8_tone (x1 : Int32) (x2 : Int32) (M : zM) : Option (Int32 × zM) :=
  (p_X8_isNote x1).bind fun r1 =>
  if r1 = 0 then
    some ((-2 : Int32), M)
  else
    (p_X8_within x2 (-300 : Int32) (300 : Int32)).bind fun r17 =>
    if r17 = 0 then
      some ((-3 : Int32), M)
    else
      if x1 < 0 ∨ 9 ≤ x1.toNatClampNeg then none else
      some ((1 : Int32), zset M 74 x1.toNatClampNeg x2)
set_option maxRecDepth 20000 in
set_option maxHeartbeats 4000000 in
theorem zc_X8_tone (x1 : Int32) (x2 : Int32) (M : zM) {r : Int32 × zM} (h : p_X8_tone x1 x2 M = some r) : zS Y_X8_tone 0 [some (zO 0), some (zI x1), some (zI x2)] [] M (some r.1, r.2) := by
  rw [p_X8_tone] at h
  refine zS_iload_n dX8_tone_0 rfl rfl ?_
  obtain ⟨r1, h1, h⟩ := zbind h
  refine zS_callS (as := [zI x1]) (st := []) (ls0 := [some (zI x1)]) dX8_tone_1 okY_X8_isNote rfl rfl zw_31 zw_32 np_X8_isNote (by decide) (Nat.le_of_ble_eq_true rfl) rfl (Nat.le_of_ble_eq_true rfl) (And.intro rfl trivial) (zc_X8_isNote x1 M h1) ?_
  refine zS_if_ne (tgt := 10) dX8_tone_4 (by decide) (fun c4 => ?_) (fun c4 => ?_)
  · rw [if_neg c4] at h
    refine zS_iload_n dX8_tone_10 rfl rfl ?_
    refine zS_sipush (v := (-300 : Int32)) dX8_tone_11 (by decide) ?_
    refine zS_sipush (v := (300 : Int32)) dX8_tone_14 (by decide) ?_
    obtain ⟨r17, h17, h⟩ := zbind h
    refine zS_callS (as := [zI x2, zI (-300 : Int32), zI (300 : Int32)]) (st := []) (ls0 := [some (zI x2), some (zI (-300 : Int32)), some (zI (300 : Int32))]) dX8_tone_17 okY_X8_within rfl rfl zw_0 zw_1 np_X8_within (by decide) (Nat.le_of_ble_eq_true rfl) rfl (Nat.le_of_ble_eq_true rfl) (And.intro rfl (And.intro rfl (And.intro rfl trivial))) (zc_X8_within x2 (-300 : Int32) (300 : Int32) M h17) ?_
    refine zS_if_ne (tgt := 26) dX8_tone_20 (by decide) (fun c20 => ?_) (fun c20 => ?_)
    · rw [if_neg c20] at h
      refine zS_aload_nO dX8_tone_26 rfl rfl ?_
      refine gf_0_7 dX8_tone_27 zw_288 ?_
      refine gf_8_0 dX8_tone_30 zw_289 ?_
      refine zS_iload_n dX8_tone_33 rfl rfl ?_
      refine zS_iload_n dX8_tone_34 rfl rfl ?_
      by_cases b35 : x1 < 0 ∨ 9 ≤ x1.toNatClampNeg
      · rw [if_pos b35] at h; cases h
      rw [if_neg b35] at h
      refine zS_iast b35 dX8_tone_35 ?_
      refine zS_iconst (v := (1 : Int32)) dX8_tone_36 (by decide) ?_
      cases h
      exact zS_ireturn dX8_tone_37 rfl rfl
    · rw [if_pos c20] at h
      refine zS_bipush (v := (-3 : Int32)) dX8_tone_23 (by decide) ?_
      cases h
      exact zS_ireturn dX8_tone_25 rfl rfl
  · rw [if_pos c4] at h
    refine zS_bipush (v := (-2 : Int32)) dX8_tone_7 (by decide) ?_
    cases h
    exact zS_ireturn dX8_tone_9 rfl rfl
def p_X8_harsh (x1 : Int32) (x2 : Int32) (M : zM) : Option (Int32) :=
  (p_X8_isPitch x1).bind fun r1 =>
  if r1 = 0 then
    some (-3 : Int32)
  else
    (p_X8_isPitch x2).bind fun r8 =>
    if r8 = 0 then
      some (-3 : Int32)
    else
      (p_X0_harshness x1 x2 M).bind fun r23 =>
      some r23
set_option maxRecDepth 20000 in
set_option maxHeartbeats 4000000 in
theorem zc_X8_harsh (x1 : Int32) (x2 : Int32) (M : zM) {r : Int32} (h : p_X8_harsh x1 x2 M = some r) : zS Y_X8_harsh 0 [some (zO 0), some (zI x1), some (zI x2)] [] M (some r, M) := by
  rw [p_X8_harsh] at h
  refine zS_iload_n dX8_harsh_0 rfl rfl ?_
  obtain ⟨r1, h1, h⟩ := zbind h
  refine zS_callS (as := [zI x1]) (st := []) (ls0 := [some (zI x1)]) dX8_harsh_1 okY_X8_isPitch rfl rfl zw_294 zw_295 np_X8_isPitch (by decide) (Nat.le_of_ble_eq_true rfl) rfl (Nat.le_of_ble_eq_true rfl) (And.intro rfl trivial) (zc_X8_isPitch x1 M h1) ?_
  refine zS_if_eq (tgt := 14) dX8_harsh_4 (by decide) (fun c4 => ?_) (fun c4 => ?_)
  · rw [if_pos c4] at h
    refine zS_bipush (v := (-3 : Int32)) dX8_harsh_14 (by decide) ?_
    cases h
    exact zS_ireturn dX8_harsh_16 rfl rfl
  · rw [if_neg c4] at h
    refine zS_iload_n dX8_harsh_7 rfl rfl ?_
    obtain ⟨r8, h8, h⟩ := zbind h
    refine zS_callS (as := [zI x2]) (st := []) (ls0 := [some (zI x2)]) dX8_harsh_8 okY_X8_isPitch rfl rfl zw_294 zw_295 np_X8_isPitch (by decide) (Nat.le_of_ble_eq_true rfl) rfl (Nat.le_of_ble_eq_true rfl) (And.intro rfl trivial) (zc_X8_isPitch x2 M h8) ?_
    refine zS_if_ne (tgt := 17) dX8_harsh_11 (by decide) (fun c11 => ?_) (fun c11 => ?_)
    · rw [if_neg c11] at h
      refine zS_aload_nO dX8_harsh_17 rfl rfl ?_
      refine gf_0_7 dX8_harsh_18 zw_288 ?_
      refine zS_iload_n dX8_harsh_21 rfl rfl ?_
      refine zS_iload_n dX8_harsh_22 rfl rfl ?_
      obtain ⟨r23, h23, h⟩ := zbind h
      refine zS_callV (as := [zI x1, zI x2]) (st := []) (ls0 := [some (zO 8), some (zI x1), some (zI x2), none, none]) dX8_harsh_23 okY_X0_harshness rfl rfl lay_8 rfl zw_296 zw_297 zw_298 np_X0_harshness (by decide) (Nat.le_of_ble_eq_true rfl) rfl (Nat.le_of_ble_eq_true rfl) (And.intro rfl (And.intro rfl (And.intro rfl trivial))) (zc_X0_harshness x1 x2 M h23) ?_
      cases h
      exact zS_ireturn dX8_harsh_26 rfl rfl
    · rw [if_pos c11] at h
      refine zS_bipush (v := (-3 : Int32)) dX8_harsh_14 (by decide) ?_
      cases h
      exact zS_ireturn dX8_harsh_16 rfl rfl
def p_X8_set (x1 : Int32) (M : zM) : Option (Int32) :=
  (p_X8_isPitch x1).bind fun r1 =>
  if r1 = 0 then
    some (-2147483648 : Int32)
  else
    (p_X0_mildest x1 M).bind fun r15 =>
    some r15
set_option maxRecDepth 20000 in
set_option maxHeartbeats 4000000 in
theorem zc_X8_set (x1 : Int32) (M : zM) {r : Int32} (h : p_X8_set x1 M = some r) : zS Y_X8_set 0 [some (zO 0), some (zI x1)] [] M (some r, M) := by
  rw [p_X8_set] at h
  refine zS_iload_n dX8_set_0 rfl rfl ?_
  obtain ⟨r1, h1, h⟩ := zbind h
  refine zS_callS (as := [zI x1]) (st := []) (ls0 := [some (zI x1)]) dX8_set_1 okY_X8_isPitch rfl rfl zw_294 zw_295 np_X8_isPitch (by decide) (Nat.le_of_ble_eq_true rfl) rfl (Nat.le_of_ble_eq_true rfl) (And.intro rfl trivial) (zc_X8_isPitch x1 M h1) ?_
  refine zS_if_ne (tgt := 10) dX8_set_4 (by decide) (fun c4 => ?_) (fun c4 => ?_)
  · rw [if_neg c4] at h
    refine zS_aload_nO dX8_set_10 rfl rfl ?_
    refine gf_0_7 dX8_set_11 zw_288 ?_
    refine zS_iload_n dX8_set_14 rfl rfl ?_
    obtain ⟨r15, h15, h⟩ := zbind h
    refine zS_callV (as := [zI x1]) (st := []) (ls0 := [some (zO 8), some (zI x1)]) dX8_set_15 okY_X0_mildest rfl rfl lay_8 rfl zw_304 zw_305 zw_306 np_X0_mildest (by decide) (Nat.le_of_ble_eq_true rfl) rfl (Nat.le_of_ble_eq_true rfl) (And.intro rfl (And.intro rfl trivial)) (zc_X0_mildest x1 M h15) ?_
    cases h
    exact zS_ireturn dX8_set_18 rfl rfl
  · rw [if_pos c4] at h
    refine zS_ldc (v := (-2147483648 : Int32)) dX8_set_7 zw_256 ?_
    cases h
    exact zS_ireturn dX8_set_9 rfl rfl
def p_X8_count (x1 : Int32) (M : zM) : Option (Int32) :=
  if x1 = 0 then
    some (M 2 4)
  else
  if x1 = 1 then
    (p_X7_lostOnes M).bind fun r48 =>
    some r48
  else
  if x1 = 2 then
    some (M 3 4)
  else
  if x1 = 3 then
    some (M 5 2)
  else
  if x1 = 4 then
    some (M 6 4)
  else
  some (-3 : Int32)
set_option maxRecDepth 20000 in
set_option maxHeartbeats 4000000 in
theorem zc_X8_count (x1 : Int32) (M : zM) {r : Int32} (h : p_X8_count x1 M = some r) : zS Y_X8_count 0 [some (zO 0), some (zI x1)] [] M (some r, M) := by
  rw [p_X8_count] at h
  refine zS_iload_n dX8_count_0 rfl rfl ?_
  by_cases w0 : x1 = 0
  · rw [if_pos w0] at h
    refine zS_tswI (tgt := 36) dX8_count_1 (by rw [w0]; decide) (by rw [w0]; decide) (by rw [w0]; rfl) (by decide) ?_
    refine zS_aload_nO dX8_count_36 rfl rfl ?_
    refine gf_0_1 dX8_count_37 zw_39 ?_
    refine gf_2_4 dX8_count_40 zw_40 ?_
    cases h
    exact zS_ireturn dX8_count_43 rfl rfl
  rw [if_neg w0] at h
  by_cases w1 : x1 = 1
  · rw [if_pos w1] at h
    refine zS_tswI (tgt := 44) dX8_count_1 (by rw [w1]; decide) (by rw [w1]; decide) (by rw [w1]; rfl) (by decide) ?_
    refine zS_aload_nO dX8_count_44 rfl rfl ?_
    refine gf_0_1 dX8_count_45 zw_39 ?_
    obtain ⟨r48, h48, h⟩ := zbind h
    refine zS_callV (as := []) (st := []) (ls0 := [some (zO 2), none, none]) dX8_count_48 okY_X7_lostOnes rfl rfl lay_2 rfl zw_307 zw_308 zw_309 np_X7_lostOnes (by decide) (Nat.le_of_ble_eq_true rfl) rfl (Nat.le_of_ble_eq_true rfl) (And.intro rfl trivial) (zc_X7_lostOnes M h48) ?_
    cases h
    exact zS_ireturn dX8_count_51 rfl rfl
  rw [if_neg w1] at h
  by_cases w2 : x1 = 2
  · rw [if_pos w2] at h
    refine zS_tswI (tgt := 52) dX8_count_1 (by rw [w2]; decide) (by rw [w2]; decide) (by rw [w2]; rfl) (by decide) ?_
    refine zS_aload_nO dX8_count_52 rfl rfl ?_
    refine gf_0_2 dX8_count_53 zw_79 ?_
    refine gf_3_4 dX8_count_56 zw_92 ?_
    cases h
    exact zS_ireturn dX8_count_59 rfl rfl
  rw [if_neg w2] at h
  by_cases w3 : x1 = 3
  · rw [if_pos w3] at h
    refine zS_tswI (tgt := 60) dX8_count_1 (by rw [w3]; decide) (by rw [w3]; decide) (by rw [w3]; rfl) (by decide) ?_
    refine zS_aload_nO dX8_count_60 rfl rfl ?_
    refine gf_0_4 dX8_count_61 zw_160 ?_
    refine gf_5_2 dX8_count_64 zw_161 ?_
    cases h
    exact zS_ireturn dX8_count_67 rfl rfl
  rw [if_neg w3] at h
  by_cases w4 : x1 = 4
  · rw [if_pos w4] at h
    refine zS_tswI (tgt := 68) dX8_count_1 (by rw [w4]; decide) (by rw [w4]; decide) (by rw [w4]; rfl) (by decide) ?_
    refine zS_aload_nO dX8_count_68 rfl rfl ?_
    refine gf_0_5 dX8_count_69 zw_150 ?_
    refine gf_6_4 dX8_count_72 zw_192 ?_
    cases h
    exact zS_ireturn dX8_count_75 rfl rfl
  rw [if_neg w4] at h
  refine zS_tswO (tgt := 76) dX8_count_1 (zsw5 w0 w1 w2 w3 w4) (by decide) ?_
  refine zS_bipush (v := (-3 : Int32)) dX8_count_76 (by decide) ?_
  cases h
  exact zS_ireturn dX8_count_78 rfl rfl
