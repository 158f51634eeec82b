def p_X3_become (x1 : Int32) (x2 : Int32) (x3 : Int32) (x4 : Int32) (x5 : Int32) (M : zM) : Option (zM) :=
  if x1 < 0 ∨ 6 ≤ x1.toNatClampNeg then none else
  if x1 < 0 ∨ 6 ≤ x1.toNatClampNeg then none else
  if x1 < 0 ∨ 6 ≤ x1.toNatClampNeg then none else
  if x1 < 0 ∨ 6 ≤ x1.toNatClampNeg then none else
  some (zset (zset (zset (zset M 70 x1.toNatClampNeg x2) 71 x1.toNatClampNeg x3) 72 x1.toNatClampNeg x4) 73 x1.toNatClampNeg x5)
set_option maxRecDepth 20000 in
set_option maxHeartbeats 4000000 in
theorem zc_X3_become (x1 : Int32) (x2 : Int32) (x3 : Int32) (x4 : Int32) (x5 : Int32) (M : zM) {r : zM} (h : p_X3_become x1 x2 x3 x4 x5 M = some r) : zS Y_X3_become 0 [some (zO 7), some (zI x1), some (zI x2), some (zI x3), some (zI x4), some (zI x5)] [] M (none, r) := by
  rw [p_X3_become] at h
  refine zS_aload_nO dX3_become_0 rfl rfl ?_
  refine gf_7_0 dX3_become_1 zw_237 ?_
  refine zS_iload_n dX3_become_4 rfl rfl ?_
  refine zS_iload_n dX3_become_5 rfl rfl ?_
  by_cases b6 : x1 < 0 ∨ 6 ≤ x1.toNatClampNeg
  · rw [if_pos b6] at h; cases h
  rw [if_neg b6] at h
  refine zS_iast b6 dX3_become_6 ?_
  refine zS_aload_nO dX3_become_7 rfl rfl ?_
  refine gf_7_1 dX3_become_8 zw_238 ?_
  refine zS_iload_n dX3_become_11 rfl rfl ?_
  refine zS_iload_n dX3_become_12 rfl rfl ?_
  by_cases b13 : x1 < 0 ∨ 6 ≤ x1.toNatClampNeg
  · rw [if_pos b13] at h; cases h
  rw [if_neg b13] at h
  refine zS_iast b13 dX3_become_13 ?_
  refine zS_aload_nO dX3_become_14 rfl rfl ?_
  refine gf_7_2 dX3_become_15 zw_239 ?_
  refine zS_iload_n dX3_become_18 rfl rfl ?_
  refine zS_iload dX3_become_19 rfl ?_
  by_cases b21 : x1 < 0 ∨ 6 ≤ x1.toNatClampNeg
  · rw [if_pos b21] at h; cases h
  rw [if_neg b21] at h
  refine zS_iast b21 dX3_become_21 ?_
  refine zS_aload_nO dX3_become_22 rfl rfl ?_
  refine gf_7_3 dX3_become_23 zw_240 ?_
  refine zS_iload_n dX3_become_26 rfl rfl ?_
  refine zS_iload dX3_become_27 rfl ?_
  by_cases b29 : x1 < 0 ∨ 6 ≤ x1.toNatClampNeg
  · rw [if_pos b29] at h; cases h
  rw [if_neg b29] at h
  refine zS_iast b29 dX3_become_29 ?_
  cases h
  exact zS_return dX3_become_30
def p_X3_dampRise (x1 : Int32) (M : zM) : Option (Int32) :=
  if x1 < 0 ∨ 6 ≤ x1.toNatClampNeg then none else
  some (if (0 : Int32) < (M 71 x1.toNatClampNeg) - (M 7 4) then (M 71 x1.toNatClampNeg) - (M 7 4) else (0 : Int32))
set_option maxRecDepth 20000 in
set_option maxHeartbeats 4000000 in
theorem zc_X3_dampRise (x1 : Int32) (M : zM) {r : Int32} (h : p_X3_dampRise x1 M = some r) : zS Y_X3_dampRise 0 [some (zO 7), some (zI x1)] [] M (some r, M) := by
  rw [p_X3_dampRise] at h
  refine zS_iconst (v := (0 : Int32)) dX3_dampRise_0 (by decide) ?_
  refine zS_aload_nO dX3_dampRise_1 rfl rfl ?_
  refine gf_7_1 dX3_dampRise_2 zw_238 ?_
  refine zS_iload_n dX3_dampRise_5 rfl rfl ?_
  by_cases b6 : x1 < 0 ∨ 6 ≤ x1.toNatClampNeg
  · rw [if_pos b6] at h; cases h
  rw [if_neg b6] at h
  refine zS_iald b6 dX3_dampRise_6 ?_
  refine zS_aload_nO dX3_dampRise_7 rfl rfl ?_
  refine gf_7_4 dX3_dampRise_8 zw_248 ?_
  refine zS_isub dX3_dampRise_11 ?_
  refine zS_max dX3_dampRise_12 zw_249 zw_250 zw_66 zw_251 (by decide) (Nat.le_of_ble_eq_true rfl) ?_
  cases h
  exact zS_ireturn dX3_dampRise_15 rfl rfl
def p_X3_pitchAfter (x1 : Int32) (x2 : Int32) (M : zM) : Option (Int32) :=
  if x1 < 0 ∨ 6 ≤ x1.toNatClampNeg then none else
  (p_X3_dampRise x1 M).bind fun r8 =>
  if x1 < 0 ∨ 6 ≤ x1.toNatClampNeg then none else
  some ((M 70 x1.toNatClampNeg) + (r8 * (if M 72 x1.toNatClampNeg < x2 then M 72 x1.toNatClampNeg else x2)))
set_option maxRecDepth 20000 in
set_option maxHeartbeats 4000000 in
theorem zc_X3_pitchAfter (x1 : Int32) (x2 : Int32) (M : zM) {r : Int32} (h : p_X3_pitchAfter x1 x2 M = some r) : zS Y_X3_pitchAfter 0 [some (zO 7), some (zI x1), some (zI x2)] [] M (some r, M) := by
  rw [p_X3_pitchAfter] at h
  refine zS_aload_nO dX3_pitchAfter_0 rfl rfl ?_
  refine gf_7_0 dX3_pitchAfter_1 zw_237 ?_
  refine zS_iload_n dX3_pitchAfter_4 rfl rfl ?_
  by_cases b5 : x1 < 0 ∨ 6 ≤ x1.toNatClampNeg
  · rw [if_pos b5] at h; cases h
  rw [if_neg b5] at h
  refine zS_iald b5 dX3_pitchAfter_5 ?_
  refine zS_aload_nO dX3_pitchAfter_6 rfl rfl ?_
  refine zS_iload_n dX3_pitchAfter_7 rfl rfl ?_
  obtain ⟨r8, h8, h⟩ := zbind h
  refine zS_callV (as := [zI x1]) (st := [zI (M 70 x1.toNatClampNeg)]) (ls0 := [some (zO 7), some (zI x1)]) dX3_pitchAfter_8 okY_X3_dampRise rfl rfl lay_7 rfl zw_252 zw_253 zw_254 np_X3_dampRise (by decide) (Nat.le_of_ble_eq_true rfl) rfl (Nat.le_of_ble_eq_true rfl) (And.intro rfl (And.intro rfl trivial)) (zc_X3_dampRise x1 M h8) ?_
  refine zS_iload_n dX3_pitchAfter_11 rfl rfl ?_
  refine zS_aload_nO dX3_pitchAfter_12 rfl rfl ?_
  refine gf_7_2 dX3_pitchAfter_13 zw_239 ?_
  refine zS_iload_n dX3_pitchAfter_16 rfl rfl ?_
  by_cases b17 : x1 < 0 ∨ 6 ≤ x1.toNatClampNeg
  · rw [if_pos b17] at h; cases h
  rw [if_neg b17] at h
  refine zS_iald b17 dX3_pitchAfter_17 ?_
  refine zS_min dX3_pitchAfter_18 zw_255 zw_65 zw_66 zw_67 (by decide) (Nat.le_of_ble_eq_true rfl) ?_
  refine zS_imul dX3_pitchAfter_21 ?_
  refine zS_iadd dX3_pitchAfter_22 ?_
  cases h
  exact zS_ireturn dX3_pitchAfter_23 rfl rfl
def p_X3_allCome_2 (x1 : Int32) (x2 : Int32) (M : zM) : Nat → Int32 → Option (Int32)
  | 0, _ => none
  | nn + 1, x3 =>
  if (6 : Int32) ≤ x3 then
    some (1 : Int32)
  else
    (p_X8_hasBit x1 x3).bind fun r10 =>
    if r10 = 0 then
      p_X3_allCome_2 x1 x2 M nn (x3 + (1 : Int32))
    else
      if x3 < 0 ∨ 6 ≤ x3.toNatClampNeg then none else
      if (M 73 x3.toNatClampNeg) ≤ x2 then
        p_X3_allCome_2 x1 x2 M nn (x3 + (1 : Int32))
      else
        some (0 : Int32)
set_option maxRecDepth 20000 in
set_option maxHeartbeats 4000000 in
theorem zc_X3_allCome_2 (x1 : Int32) (x2 : Int32) (M : zM) : ∀ (nn : Nat) (x3 : Int32) (r : Int32), p_X3_allCome_2 x1 x2 M nn x3 = some r → zS Y_X3_allCome 2 [some (zO 7), some (zI x1), some (zI x2), some (zI x3)] [] M (some r, M) := by
  intro nn
  induction nn with
  | zero => intro x3 r h; cases h
  | succ nn ih =>
  intro x3 r h
  rw [p_X3_allCome_2] at h
  refine zS_iload_n dX3_allCome_2 rfl rfl ?_
  refine zS_bipush (v := (6 : Int32)) dX3_allCome_3 (by decide) ?_
  refine zS_icmp_ge (tgt := 34) dX3_allCome_5 (by decide) (fun c5 => ?_) (fun c5 => ?_)
  · rw [if_pos c5] at h
    refine zS_iconst (v := (1 : Int32)) dX3_allCome_34 (by decide) ?_
    cases h
    exact zS_ireturn dX3_allCome_35 rfl rfl
  · rw [if_neg c5] at h
    refine zS_iload_n dX3_allCome_8 rfl rfl ?_
    refine zS_iload_n dX3_allCome_9 rfl rfl ?_
    obtain ⟨r10, h10, h⟩ := zbind h
    refine zS_callN (as := [zI x1, zI x3]) (st := []) (ls0 := [some (zI x1), some (zI x3)]) dX3_allCome_10 okY_X8_hasBit rfl rfl zw_24 nw_X3_40 np_X8_hasBit (by decide) (Nat.le_of_ble_eq_true rfl) rfl (Nat.le_of_ble_eq_true rfl) (And.intro rfl (And.intro rfl trivial)) (zc_X8_hasBit x1 x3 M h10) ?_
    refine zS_if_eq (tgt := 28) dX3_allCome_13 (by decide) (fun c13 => ?_) (fun c13 => ?_)
    · rw [if_pos c13] at h
      refine zS_iinc (v := x3 + (1 : Int32)) (ls' := [some (zO 7), some (zI x1), some (zI x2), some (zI (x3 + (1 : Int32)))]) dX3_allCome_28 rfl rfl (by decide) rfl rfl ?_
      refine zS_goto (tgt := 2) dX3_allCome_31 (by decide) ?_
      exact zS_wk [some (zO 7), some (zI x1), some (zI x2), some (zI (x3 + (1 : Int32)))] (And.intro rfl (And.intro rfl (And.intro rfl (And.intro rfl trivial)))) (ih (x3 + (1 : Int32)) r h)
    · rw [if_neg c13] at h
      refine zS_aload_nO dX3_allCome_16 rfl rfl ?_
      refine gf_7_3 dX3_allCome_17 zw_240 ?_
      refine zS_iload_n dX3_allCome_20 rfl rfl ?_
      by_cases b21 : x3 < 0 ∨ 6 ≤ x3.toNatClampNeg
      · rw [if_pos b21] at h; cases h
      rw [if_neg b21] at h
      refine zS_iald b21 dX3_allCome_21 ?_
      refine zS_iload_n dX3_allCome_22 rfl rfl ?_
      refine zS_icmp_le (tgt := 28) dX3_allCome_23 (by decide) (fun c23 => ?_) (fun c23 => ?_)
      · rw [if_pos c23] at h
        refine zS_iinc (v := x3 + (1 : Int32)) (ls' := [some (zO 7), some (zI x1), some (zI x2), some (zI (x3 + (1 : Int32)))]) dX3_allCome_28 rfl rfl (by decide) rfl rfl ?_
        refine zS_goto (tgt := 2) dX3_allCome_31 (by decide) ?_
        exact zS_wk [some (zO 7), some (zI x1), some (zI x2), some (zI (x3 + (1 : Int32)))] (And.intro rfl (And.intro rfl (And.intro rfl (And.intro rfl trivial)))) (ih (x3 + (1 : Int32)) r h)
      · rw [if_neg c23] at h
        refine zS_iconst (v := (0 : Int32)) dX3_allCome_26 (by decide) ?_
        cases h
        exact zS_ireturn dX3_allCome_27 rfl rfl
def p_X3_allCome (x1 : Int32) (x2 : Int32) (M : zM) : Option (Int32) :=
  p_X3_allCome_2 x1 x2 M 5000 (0 : Int32)
set_option maxRecDepth 20000 in
set_option maxHeartbeats 4000000 in
theorem zc_X3_allCome (x1 : Int32) (x2 : Int32) (M : zM) {r : Int32} (h : p_X3_allCome x1 x2 M = some r) : zS Y_X3_allCome 0 [some (zO 7), some (zI x1), some (zI x2), none] [] M (some r, M) := by
  rw [p_X3_allCome] at h
  refine zS_iconst (v := (0 : Int32)) dX3_allCome_0 (by decide) ?_
  refine zS_istore_n (ls' := [some (zO 7), some (zI x1), some (zI x2), some (zI (0 : Int32))]) dX3_allCome_1 rfl (by decide) rfl rfl ?_
  exact zS_wk [some (zO 7), some (zI x1), some (zI x2), some (zI (0 : Int32))] (And.intro rfl (And.intro rfl (And.intro rfl (And.intro rfl trivial)))) (zc_X3_allCome_2 x1 x2 M 5000 (0 : Int32) r h)
def p_X3_longestBlown (x1 : Int32) (x2 : Int32) (M : zM) : Option (Int32) :=
  if x1 < 0 ∨ 6 ≤ x1.toNatClampNeg then none else
  if x1 < 0 ∨ 6 ≤ x1.toNatClampNeg then none else
  some (if M 72 x1.toNatClampNeg < x2 - (M 73 x1.toNatClampNeg) then M 72 x1.toNatClampNeg else x2 - (M 73 x1.toNatClampNeg))
set_option maxRecDepth 20000 in
set_option maxHeartbeats 4000000 in
theorem zc_X3_longestBlown (x1 : Int32) (x2 : Int32) (M : zM) {r : Int32} (h : p_X3_longestBlown x1 x2 M = some r) : zS Y_X3_longestBlown 0 [some (zO 7), some (zI x1), some (zI x2)] [] M (some r, M) := by
  rw [p_X3_longestBlown] at h
  refine zS_iload_n dX3_longestBlown_0 rfl rfl ?_
  refine zS_aload_nO dX3_longestBlown_1 rfl rfl ?_
  refine gf_7_3 dX3_longestBlown_2 zw_240 ?_
  refine zS_iload_n dX3_longestBlown_5 rfl rfl ?_
  by_cases b6 : x1 < 0 ∨ 6 ≤ x1.toNatClampNeg
  · rw [if_pos b6] at h; cases h
  rw [if_neg b6] at h
  refine zS_iald b6 dX3_longestBlown_6 ?_
  refine zS_isub dX3_longestBlown_7 ?_
  refine zS_aload_nO dX3_longestBlown_8 rfl rfl ?_
  refine gf_7_2 dX3_longestBlown_9 zw_239 ?_
  refine zS_iload_n dX3_longestBlown_12 rfl rfl ?_
  by_cases b13 : x1 < 0 ∨ 6 ≤ x1.toNatClampNeg
  · rw [if_pos b13] at h; cases h
  rw [if_neg b13] at h
  refine zS_iald b13 dX3_longestBlown_13 ?_
  refine zS_min dX3_longestBlown_14 zw_255 zw_65 zw_66 zw_67 (by decide) (Nat.le_of_ble_eq_true rfl) ?_
  cases h
  exact zS_ireturn dX3_longestBlown_17 rfl rfl
def p_X3_minutesToReach (x1 : Int32) (x2 : Int32) (x3 : Int32) (M : zM) : Option (Int32) :=
  if x1 < 0 ∨ 6 ≤ x1.toNatClampNeg then none else
  if (M 70 x1.toNatClampNeg) < x2 then
    (p_X3_dampRise x1 M).bind fun r14 =>
    if r14 = 0 then
      some (-1 : Int32)
    else
      if x1 < 0 ∨ 6 ≤ x1.toNatClampNeg then none else
      if r14 = 0 then none else
      (p_X3_longestBlown x1 x3 M).bind fun r49 =>
      if r49 < ((((x2 - (M 70 x1.toNatClampNeg)) + r14) - (1 : Int32)) / r14) then
        some (-1 : Int32)
      else
        some ((((x2 - (M 70 x1.toNatClampNeg)) + r14) - (1 : Int32)) / r14)
  else
    some (0 : Int32)
set_option maxRecDepth 20000 in
set_option maxHeartbeats 4000000 in
theorem zc_X3_minutesToReach (x1 : Int32) (x2 : Int32) (x3 : Int32) (M : zM) {r : Int32} (h : p_X3_minutesToReach x1 x2 x3 M = some r) : zS Y_X3_minutesToReach 0 [some (zO 7), some (zI x1), some (zI x2), some (zI x3), none, none] [] M (some r, M) := by
  rw [p_X3_minutesToReach] at h
  refine zS_iload_n dX3_minutesToReach_0 rfl rfl ?_
  refine zS_aload_nO dX3_minutesToReach_1 rfl rfl ?_
  refine gf_7_0 dX3_minutesToReach_2 zw_237 ?_
  refine zS_iload_n dX3_minutesToReach_5 rfl rfl ?_
  by_cases b6 : x1 < 0 ∨ 6 ≤ x1.toNatClampNeg
  · rw [if_pos b6] at h; cases h
  rw [if_neg b6] at h
  refine zS_iald b6 dX3_minutesToReach_6 ?_
  refine zS_icmp_gt (tgt := 12) dX3_minutesToReach_7 (by decide) (fun c7 => ?_) (fun c7 => ?_)
  · rw [if_pos c7] at h
    refine zS_aload_nO dX3_minutesToReach_12 rfl rfl ?_
    refine zS_iload_n dX3_minutesToReach_13 rfl rfl ?_
    obtain ⟨r14, h14, h⟩ := zbind h
    refine zS_callV (as := [zI x1]) (st := []) (ls0 := [some (zO 7), some (zI x1)]) dX3_minutesToReach_14 okY_X3_dampRise rfl rfl lay_7 rfl zw_252 zw_253 zw_254 np_X3_dampRise (by decide) (Nat.le_of_ble_eq_true rfl) rfl (Nat.le_of_ble_eq_true rfl) (And.intro rfl (And.intro rfl trivial)) (zc_X3_dampRise x1 M h14) ?_
    refine zS_istore (ls' := [some (zO 7), some (zI x1), some (zI x2), some (zI x3), some (zI r14), none]) dX3_minutesToReach_17 (by decide) rfl rfl ?_
    refine zS_iload dX3_minutesToReach_19 rfl ?_
    refine zS_if_ne (tgt := 26) dX3_minutesToReach_21 (by decide) (fun c21 => ?_) (fun c21 => ?_)
    · rw [if_neg c21] at h
      refine zS_iload_n dX3_minutesToReach_26 rfl rfl ?_
      refine zS_aload_nO dX3_minutesToReach_27 rfl rfl ?_
      refine gf_7_0 dX3_minutesToReach_28 zw_237 ?_
      refine zS_iload_n dX3_minutesToReach_31 rfl rfl ?_
      by_cases b32 : x1 < 0 ∨ 6 ≤ x1.toNatClampNeg
      · rw [if_pos b32] at h; cases h
      rw [if_neg b32] at h
      refine zS_iald b32 dX3_minutesToReach_32 ?_
      refine zS_isub dX3_minutesToReach_33 ?_
      refine zS_iload dX3_minutesToReach_34 rfl ?_
      refine zS_iadd dX3_minutesToReach_36 ?_
      refine zS_iconst (v := (1 : Int32)) dX3_minutesToReach_37 (by decide) ?_
      refine zS_isub dX3_minutesToReach_38 ?_
      refine zS_iload dX3_minutesToReach_39 rfl ?_
      by_cases z41 : r14 = 0
      · rw [if_pos z41] at h; cases h
      rw [if_neg z41] at h
      refine zS_idiv z41 dX3_minutesToReach_41 ?_
      refine zS_istore (ls' := [some (zO 7), some (zI x1), some (zI x2), some (zI x3), some (zI r14), some (zI ((((x2 - (M 70 x1.toNatClampNeg)) + r14) - (1 : Int32)) / r14))]) dX3_minutesToReach_42 (by decide) rfl rfl ?_
      refine zS_iload dX3_minutesToReach_44 rfl ?_
      refine zS_aload_nO dX3_minutesToReach_46 rfl rfl ?_
      refine zS_iload_n dX3_minutesToReach_47 rfl rfl ?_
      refine zS_iload_n dX3_minutesToReach_48 rfl rfl ?_
      obtain ⟨r49, h49, h⟩ := zbind h
      refine zS_callV (as := [zI x1, zI x3]) (st := [zI ((((x2 - (M 70 x1.toNatClampNeg)) + r14) - (1 : Int32)) / r14)]) (ls0 := [some (zO 7), some (zI x1), some (zI x3)]) dX3_minutesToReach_49 okY_X3_longestBlown rfl rfl lay_7 rfl zw_263 zw_264 zw_265 np_X3_longestBlown (by decide) (Nat.le_of_ble_eq_true rfl) rfl (Nat.le_of_ble_eq_true rfl) (And.intro rfl (And.intro rfl (And.intro rfl trivial))) (zc_X3_longestBlown x1 x3 M h49) ?_
      refine zS_icmp_gt (tgt := 60) dX3_minutesToReach_52 (by decide) (fun c52 => ?_) (fun c52 => ?_)
      · rw [if_pos c52] at h
        refine zS_iconst (v := (-1 : Int32)) dX3_minutesToReach_60 (by decide) ?_
        cases h
        exact zS_ireturn dX3_minutesToReach_61 rfl rfl
      · rw [if_neg c52] at h
        refine zS_iload dX3_minutesToReach_55 rfl ?_
        refine zS_goto (tgt := 61) dX3_minutesToReach_57 (by decide) ?_
        cases h
        exact zS_ireturn dX3_minutesToReach_61 rfl rfl
    · rw [if_pos c21] at h
      refine zS_iconst (v := (-1 : Int32)) dX3_minutesToReach_24 (by decide) ?_
      cases h
      exact zS_ireturn dX3_minutesToReach_25 rfl rfl
  · rw [if_neg c7] at h
    refine zS_iconst (v := (0 : Int32)) dX3_minutesToReach_10 (by decide) ?_
    cases h
    exact zS_ireturn dX3_minutesToReach_11 rfl rfl
def p_X3_tryLow_92 (x3 : Int32) (x5 : Int32) (M : zM) : Option (zM) :=
  some (zset (zset M 7 5 x5) 7 6 x3)
set_option maxRecDepth 20000 in
set_option maxHeartbeats 4000000 in
theorem zc_X3_tryLow_92 (x3 : Int32) (x5 : Int32) (M : zM) {r : zM} (h : p_X3_tryLow_92 x3 x5 M = some r) : zS Y_X3_tryLow 92 [some (zO 7), none, none, some (zI x3), none, some (zI x5), none] [] M (none, r) := by
  rw [p_X3_tryLow_92] at h
  refine zS_aload_nO dX3_tryLow_92 rfl rfl ?_
  refine zS_iload dX3_tryLow_93 rfl ?_
  refine pf_7_5 dX3_tryLow_95 zw_266 ?_
  refine zS_aload_nO dX3_tryLow_98 rfl rfl ?_
  refine zS_iload_n dX3_tryLow_99 rfl rfl ?_
  refine pf_7_6 dX3_tryLow_100 zw_267 ?_
  cases h
  exact zS_return dX3_tryLow_103
def p_X3_tryLow_6 (x1 : Int32) (x2 : Int32) (x3 : Int32) (M : zM) : Nat → Int32 → Int32 → Option (zM)
  | 0, _, _ => none
  | nn + 1, x4, x5 =>
  if (6 : Int32) ≤ x5 then
    if (x4 - x3) < (M 7 5) then
      p_X3_tryLow_92 x3 (x4 - x3) M
    else
      if (x4 - x3) = (M 7 5) then
        if (M 7 6) ≤ x3 then
          some M
        else
          p_X3_tryLow_92 x3 (x4 - x3) M
      else
        some M
  else
    (p_X8_hasBit x1 x5).bind fun r16 =>
    if r16 = 0 then
      p_X3_tryLow_6 x1 x2 x3 M nn x4 (x5 + (1 : Int32))
    else
      (p_X3_minutesToReach x5 x3 x2 M).bind fun r27 =>
      if r27 = (-1 : Int32) then
        some M
      else
        (p_X3_pitchAfter x5 r27 M).bind fun r46 =>
        p_X3_tryLow_6 x1 x2 x3 M nn (if x4 < r46 then r46 else x4) (x5 + (1 : Int32))
set_option maxRecDepth 20000 in
set_option maxHeartbeats 4000000 in
theorem zc_X3_tryLow_6 (x1 : Int32) (x2 : Int32) (x3 : Int32) (M : zM) : ∀ (nn : Nat) (x4 : Int32) (x5 : Int32) (r : zM), p_X3_tryLow_6 x1 x2 x3 M nn x4 x5 = some r → zS Y_X3_tryLow 6 [some (zO 7), some (zI x1), some (zI x2), some (zI x3), some (zI x4), some (zI x5), none] [] M (none, r) := by
  intro nn
  induction nn with
  | zero => intro x4 x5 r h; cases h
  | succ nn ih =>
  intro x4 x5 r h
  rw [p_X3_tryLow_6] at h
  refine zS_iload dX3_tryLow_6 rfl ?_
  refine zS_bipush (v := (6 : Int32)) dX3_tryLow_8 (by decide) ?_
  refine zS_icmp_ge (tgt := 60) dX3_tryLow_10 (by decide) (fun c10 => ?_) (fun c10 => ?_)
  · rw [if_pos c10] at h
    refine zS_iload dX3_tryLow_60 rfl ?_
    refine zS_iload_n dX3_tryLow_62 rfl rfl ?_
    refine zS_isub dX3_tryLow_63 ?_
    refine zS_istore (ls' := [some (zO 7), some (zI x1), some (zI x2), some (zI x3), some (zI x4), some (zI (x4 - x3)), none]) dX3_tryLow_64 (by decide) rfl rfl ?_
    refine zS_iload dX3_tryLow_66 rfl ?_
    refine zS_aload_nO dX3_tryLow_68 rfl rfl ?_
    refine gf_7_5 dX3_tryLow_69 zw_266 ?_
    refine zS_icmp_lt (tgt := 92) dX3_tryLow_72 (by decide) (fun c72 => ?_) (fun c72 => ?_)
    · rw [if_pos c72] at h
      exact zS_wk [some (zO 7), none, none, some (zI x3), none, some (zI (x4 - x3)), none] (And.intro rfl (And.intro rfl (And.intro rfl trivial))) (zc_X3_tryLow_92 x3 (x4 - x3) M h)
    · rw [if_neg c72] at h
      refine zS_iload dX3_tryLow_75 rfl ?_
      refine zS_aload_nO dX3_tryLow_77 rfl rfl ?_
      refine gf_7_5 dX3_tryLow_78 zw_266 ?_
      refine zS_icmp_ne (tgt := 103) dX3_tryLow_81 (by decide) (fun c81 => ?_) (fun c81 => ?_)
      · rw [if_neg c81] at h
        cases h
        exact zS_return dX3_tryLow_103
      · rw [if_pos c81] at h
        refine zS_iload_n dX3_tryLow_84 rfl rfl ?_
        refine zS_aload_nO dX3_tryLow_85 rfl rfl ?_
        refine gf_7_6 dX3_tryLow_86 zw_267 ?_
        refine zS_icmp_ge (tgt := 103) dX3_tryLow_89 (by decide) (fun c89 => ?_) (fun c89 => ?_)
        · rw [if_pos c89] at h
          cases h
          exact zS_return dX3_tryLow_103
        · rw [if_neg c89] at h
          exact zS_wk [some (zO 7), none, none, some (zI x3), none, some (zI (x4 - x3)), none] (And.intro rfl (And.intro rfl (And.intro rfl trivial))) (zc_X3_tryLow_92 x3 (x4 - x3) M h)
  · rw [if_neg c10] at h
    refine zS_iload_n dX3_tryLow_13 rfl rfl ?_
    refine zS_iload dX3_tryLow_14 rfl ?_
    obtain ⟨r16, h16, h⟩ := zbind h
    refine zS_callN (as := [zI x1, zI x5]) (st := []) (ls0 := [some (zI x1), some (zI x5)]) dX3_tryLow_16 okY_X8_hasBit rfl rfl zw_24 nw_X3_40 np_X8_hasBit (by decide) (Nat.le_of_ble_eq_true rfl) rfl (Nat.le_of_ble_eq_true rfl) (And.intro rfl (And.intro rfl trivial)) (zc_X8_hasBit x1 x5 M h16) ?_
    refine zS_if_eq (tgt := 54) dX3_tryLow_19 (by decide) (fun c19 => ?_) (fun c19 => ?_)
    · rw [if_pos c19] at h
      refine zS_iinc (v := x5 + (1 : Int32)) (ls' := [some (zO 7), some (zI x1), some (zI x2), some (zI x3), some (zI x4), some (zI (x5 + (1 : Int32))), none]) dX3_tryLow_54 rfl rfl (by decide) rfl rfl ?_
      refine zS_goto (tgt := 6) dX3_tryLow_57 (by decide) ?_
      exact zS_wk [some (zO 7), some (zI x1), some (zI x2), some (zI x3), some (zI x4), some (zI (x5 + (1 : Int32))), none] (And.intro rfl (And.intro rfl (And.intro rfl (And.intro rfl (And.intro rfl (And.intro rfl trivial)))))) (ih x4 (x5 + (1 : Int32)) r h)
    · rw [if_neg c19] at h
      refine zS_aload_nO dX3_tryLow_22 rfl rfl ?_
      refine zS_iload dX3_tryLow_23 rfl ?_
      refine zS_iload_n dX3_tryLow_25 rfl rfl ?_
      refine zS_iload_n dX3_tryLow_26 rfl rfl ?_
      obtain ⟨r27, h27, h⟩ := zbind h
      refine zS_callV (as := [zI x5, zI x3, zI x2]) (st := []) (ls0 := [some (zO 7), some (zI x5), some (zI x3), some (zI x2), none, none]) dX3_tryLow_27 okY_X3_minutesToReach rfl rfl lay_7 rfl zw_268 zw_269 zw_270 np_X3_minutesToReach (by decide) (Nat.le_of_ble_eq_true rfl) rfl (Nat.le_of_ble_eq_true rfl) (And.intro rfl (And.intro rfl (And.intro rfl (And.intro rfl trivial)))) (zc_X3_minutesToReach x5 x3 x2 M h27) ?_
      refine zS_istore (ls' := [some (zO 7), some (zI x1), some (zI x2), some (zI x3), some (zI x4), some (zI x5), some (zI r27)]) dX3_tryLow_30 (by decide) rfl rfl ?_
      refine zS_iload dX3_tryLow_32 rfl ?_
      refine zS_iconst (v := (-1 : Int32)) dX3_tryLow_34 (by decide) ?_
      refine zS_icmp_ne (tgt := 39) dX3_tryLow_35 (by decide) (fun c35 => ?_) (fun c35 => ?_)
      · rw [if_neg c35] at h
        refine zS_iload dX3_tryLow_39 rfl ?_
        refine zS_aload_nO dX3_tryLow_41 rfl rfl ?_
        refine zS_iload dX3_tryLow_42 rfl ?_
        refine zS_iload dX3_tryLow_44 rfl ?_
        obtain ⟨r46, h46, h⟩ := zbind h
        refine zS_callV (as := [zI x5, zI r27]) (st := [zI x4]) (ls0 := [some (zO 7), some (zI x5), some (zI r27)]) dX3_tryLow_46 okY_X3_pitchAfter rfl rfl lay_7 rfl zw_260 zw_261 zw_271 np_X3_pitchAfter (by decide) (Nat.le_of_ble_eq_true rfl) rfl (Nat.le_of_ble_eq_true rfl) (And.intro rfl (And.intro rfl (And.intro rfl trivial))) (zc_X3_pitchAfter x5 r27 M h46) ?_
        refine zS_max dX3_tryLow_49 zw_249 zw_250 zw_66 zw_251 (by decide) (Nat.le_of_ble_eq_true rfl) ?_
        refine zS_istore (ls' := [some (zO 7), some (zI x1), some (zI x2), some (zI x3), some (zI (if x4 < r46 then r46 else x4)), some (zI x5), some (zI r27)]) dX3_tryLow_52 (by decide) rfl rfl ?_
        refine zS_iinc (v := x5 + (1 : Int32)) (ls' := [some (zO 7), some (zI x1), some (zI x2), some (zI x3), some (zI (if x4 < r46 then r46 else x4)), some (zI (x5 + (1 : Int32))), some (zI r27)]) dX3_tryLow_54 rfl rfl (by decide) rfl rfl ?_
        refine zS_goto (tgt := 6) dX3_tryLow_57 (by decide) ?_
        exact zS_wk [some (zO 7), some (zI x1), some (zI x2), some (zI x3), some (zI (if x4 < r46 then r46 else x4)), some (zI (x5 + (1 : Int32))), none] (And.intro rfl (And.intro rfl (And.intro rfl (And.intro rfl (And.intro rfl (And.intro rfl trivial)))))) (ih (if x4 < r46 then r46 else x4) (x5 + (1 : Int32)) r h)
      · rw [if_pos c35] at h
        cases h
        exact zS_return dX3_tryLow_38
def p_X3_tryLow (x1 : Int32) (x2 : Int32) (x3 : Int32) (M : zM) : Option (zM) :=
  p_X3_tryLow_6 x1 x2 x3 M 5000 x3 (0 : Int32)
set_option maxRecDepth 20000 in
set_option maxHeartbeats 4000000 in
theorem zc_X3_tryLow (x1 : Int32) (x2 : Int32) (x3 : Int32) (M : zM) {r : zM} (h : p_X3_tryLow x1 x2 x3 M = some r) : zS Y_X3_tryLow 0 [some (zO 7), some (zI x1), some (zI x2), some (zI x3), none, none, none] [] M (none, r) := by
  rw [p_X3_tryLow] at h
  refine zS_iload_n dX3_tryLow_0 rfl rfl ?_
  refine zS_istore (ls' := [some (zO 7), some (zI x1), some (zI x2), some (zI x3), some (zI x3), none, none]) dX3_tryLow_1 (by decide) rfl rfl ?_
  refine zS_iconst (v := (0 : Int32)) dX3_tryLow_3 (by decide) ?_
  refine zS_istore (ls' := [some (zO 7), some (zI x1), some (zI x2), some (zI x3), some (zI x3), some (zI (0 : Int32)), none]) dX3_tryLow_4 (by decide) rfl rfl ?_
  exact zS_wk [some (zO 7), some (zI x1), some (zI x2), some (zI x3), some (zI x3), some (zI (0 : Int32)), none] (And.intro rfl (And.intro rfl (And.intro rfl (And.intro rfl (And.intro rfl (And.intro rfl trivial)))))) (zc_X3_tryLow_6 x1 x2 x3 M 5000 x3 (0 : Int32) r h)
def p_X3_tuneBand_38 (k13 : Int32 → zM → Option (zM)) (x1 : Int32) (x2 : Int32) (x3 : Int32) (x4 : Int32) : Nat → Int32 → zM → Option (zM)
  | 0, _, _ => none
  | nn + 1, x5, M =>
  if x4 < x5 then
    k13 (x3 + (1 : Int32)) M
  else
    (p_X3_pitchAfter x3 x5 M).bind fun r52 =>
    (p_X3_tryLow x1 x2 r52 M).bind fun M55 =>
    p_X3_tuneBand_38 k13 x1 x2 x3 x4 nn (x5 + (1 : Int32)) M55
set_option maxRecDepth 20000 in
set_option maxHeartbeats 4000000 in
theorem zc_X3_tuneBand_38 {k13 : Int32 → zM → Option (zM)} (x1 : Int32) (x2 : Int32) (x3 : Int32) (x4 : Int32) (hk13 : ∀ (x3 : Int32) (M : zM) (r : zM), k13 x3 M = some r → zS Y_X3_tuneBand 13 [some (zO 7), some (zI x1), some (zI x2), some (zI x3), none, none] [] M (none, r)) : ∀ (nn : Nat) (x5 : Int32) (M : zM) (r : zM), p_X3_tuneBand_38 k13 x1 x2 x3 x4 nn x5 M = some r → zS Y_X3_tuneBand 38 [some (zO 7), some (zI x1), some (zI x2), some (zI x3), some (zI x4), some (zI x5)] [] M (none, r) := by
  intro nn
  induction nn with
  | zero => intro x5 M r h; cases h
  | succ nn ih =>
  intro x5 M r h
  rw [p_X3_tuneBand_38] at h
  refine zS_iload dX3_tuneBand_38 rfl ?_
  refine zS_iload dX3_tuneBand_40 rfl ?_
  refine zS_icmp_gt (tgt := 64) dX3_tuneBand_42 (by decide) (fun c42 => ?_) (fun c42 => ?_)
  · rw [if_pos c42] at h
    refine zS_iinc (v := x3 + (1 : Int32)) (ls' := [some (zO 7), some (zI x1), some (zI x2), some (zI (x3 + (1 : Int32))), some (zI x4), some (zI x5)]) dX3_tuneBand_64 rfl rfl (by decide) rfl rfl ?_
    refine zS_goto (tgt := 13) dX3_tuneBand_67 (by decide) ?_
    exact zS_wk [some (zO 7), some (zI x1), some (zI x2), some (zI (x3 + (1 : Int32))), none, none] (And.intro rfl (And.intro rfl (And.intro rfl (And.intro rfl trivial)))) (hk13 (x3 + (1 : Int32)) M r h)
  · rw [if_neg c42] at h
    refine zS_aload_nO dX3_tuneBand_45 rfl rfl ?_
    refine zS_iload_n dX3_tuneBand_46 rfl rfl ?_
    refine zS_iload_n dX3_tuneBand_47 rfl rfl ?_
    refine zS_aload_nO dX3_tuneBand_48 rfl rfl ?_
    refine zS_iload_n dX3_tuneBand_49 rfl rfl ?_
    refine zS_iload dX3_tuneBand_50 rfl ?_
    obtain ⟨r52, h52, h⟩ := zbind h
    refine zS_callV (as := [zI x3, zI x5]) (st := [zI x2, zI x1, zO 7]) (ls0 := [some (zO 7), some (zI x3), some (zI x5)]) dX3_tuneBand_52 okY_X3_pitchAfter rfl rfl lay_7 rfl zw_260 zw_261 zw_271 np_X3_pitchAfter (by decide) (Nat.le_of_ble_eq_true rfl) rfl (Nat.le_of_ble_eq_true rfl) (And.intro rfl (And.intro rfl (And.intro rfl trivial))) (zc_X3_pitchAfter x3 x5 M h52) ?_
    obtain ⟨M55, h55, h⟩ := zbind h
    refine zS_callVv (as := [zI x1, zI x2, zI r52]) (st := []) (ls0 := [some (zO 7), some (zI x1), some (zI x2), some (zI r52), none, none, none]) dX3_tuneBand_55 okY_X3_tryLow rfl rfl lay_7 rfl zw_272 zw_273 zw_274 np_X3_tryLow (by decide) (Nat.le_of_ble_eq_true rfl) rfl (Nat.le_of_ble_eq_true rfl) (And.intro rfl (And.intro rfl (And.intro rfl (And.intro rfl trivial)))) (zc_X3_tryLow x1 x2 r52 M h55) ?_
    refine zS_iinc (v := x5 + (1 : Int32)) (ls' := [some (zO 7), some (zI x1), some (zI x2), some (zI x3), some (zI x4), some (zI (x5 + (1 : Int32)))]) dX3_tuneBand_58 rfl rfl (by decide) rfl rfl ?_
    refine zS_goto (tgt := 38) dX3_tuneBand_61 (by decide) ?_
    exact zS_wk [some (zO 7), some (zI x1), some (zI x2), some (zI x3), some (zI x4), some (zI (x5 + (1 : Int32)))] (And.intro rfl (And.intro rfl (And.intro rfl (And.intro rfl (And.intro rfl (And.intro rfl trivial)))))) (ih (x5 + (1 : Int32)) M55 r h)
def p_X3_tuneBand_13 (x1 : Int32) (x2 : Int32) : Nat → Int32 → zM → Option (zM)
  | 0, _, _ => none
  | nn + 1, x3, M =>
  if (6 : Int32) ≤ x3 then
    some M
  else
    (p_X8_hasBit x1 x3).bind fun r21 =>
    if r21 = 0 then
      p_X3_tuneBand_13 x1 x2 nn (x3 + (1 : Int32)) M
    else
      (p_X3_longestBlown x3 x2 M).bind fun r30 =>
      p_X3_tuneBand_38 (p_X3_tuneBand_13 x1 x2 nn) x1 x2 x3 r30 5000 (0 : Int32) M
set_option maxRecDepth 20000 in
set_option maxHeartbeats 4000000 in
theorem zc_X3_tuneBand_13 (x1 : Int32) (x2 : Int32) : ∀ (nn : Nat) (x3 : Int32) (M : zM) (r : zM), p_X3_tuneBand_13 x1 x2 nn x3 M = some r → zS Y_X3_tuneBand 13 [some (zO 7), some (zI x1), some (zI x2), some (zI x3), none, none] [] M (none, r) := by
  intro nn
  induction nn with
  | zero => intro x3 M r h; cases h
  | succ nn ih =>
  intro x3 M r h
  rw [p_X3_tuneBand_13] at h
  refine zS_iload_n dX3_tuneBand_13 rfl rfl ?_
  refine zS_bipush (v := (6 : Int32)) dX3_tuneBand_14 (by decide) ?_
  refine zS_icmp_ge (tgt := 70) dX3_tuneBand_16 (by decide) (fun c16 => ?_) (fun c16 => ?_)
  · rw [if_pos c16] at h
    cases h
    exact zS_return dX3_tuneBand_70
  · rw [if_neg c16] at h
    refine zS_iload_n dX3_tuneBand_19 rfl rfl ?_
    refine zS_iload_n dX3_tuneBand_20 rfl rfl ?_
    obtain ⟨r21, h21, h⟩ := zbind h
    refine zS_callN (as := [zI x1, zI x3]) (st := []) (ls0 := [some (zI x1), some (zI x3)]) dX3_tuneBand_21 okY_X8_hasBit rfl rfl zw_24 nw_X3_40 np_X8_hasBit (by decide) (Nat.le_of_ble_eq_true rfl) rfl (Nat.le_of_ble_eq_true rfl) (And.intro rfl (And.intro rfl trivial)) (zc_X8_hasBit x1 x3 M h21) ?_
    refine zS_if_eq (tgt := 64) dX3_tuneBand_24 (by decide) (fun c24 => ?_) (fun c24 => ?_)
    · rw [if_pos c24] at h
      refine zS_iinc (v := x3 + (1 : Int32)) (ls' := [some (zO 7), some (zI x1), some (zI x2), some (zI (x3 + (1 : Int32))), none, none]) dX3_tuneBand_64 rfl rfl (by decide) rfl rfl ?_
      refine zS_goto (tgt := 13) dX3_tuneBand_67 (by decide) ?_
      exact zS_wk [some (zO 7), some (zI x1), some (zI x2), some (zI (x3 + (1 : Int32))), none, none] (And.intro rfl (And.intro rfl (And.intro rfl (And.intro rfl trivial)))) (ih (x3 + (1 : Int32)) M r h)
    · rw [if_neg c24] at h
      refine zS_aload_nO dX3_tuneBand_27 rfl rfl ?_
      refine zS_iload_n dX3_tuneBand_28 rfl rfl ?_
      refine zS_iload_n dX3_tuneBand_29 rfl rfl ?_
      obtain ⟨r30, h30, h⟩ := zbind h
      refine zS_callV (as := [zI x3, zI x2]) (st := []) (ls0 := [some (zO 7), some (zI x3), some (zI x2)]) dX3_tuneBand_30 okY_X3_longestBlown rfl rfl lay_7 rfl zw_263 zw_264 zw_265 np_X3_longestBlown (by decide) (Nat.le_of_ble_eq_true rfl) rfl (Nat.le_of_ble_eq_true rfl) (And.intro rfl (And.intro rfl (And.intro rfl trivial))) (zc_X3_longestBlown x3 x2 M h30) ?_
      refine zS_istore (ls' := [some (zO 7), some (zI x1), some (zI x2), some (zI x3), some (zI r30), none]) dX3_tuneBand_33 (by decide) rfl rfl ?_
      refine zS_iconst (v := (0 : Int32)) dX3_tuneBand_35 (by decide) ?_
      refine zS_istore (ls' := [some (zO 7), some (zI x1), some (zI x2), some (zI x3), some (zI r30), some (zI (0 : Int32))]) dX3_tuneBand_36 (by decide) rfl rfl ?_
      exact zS_wk [some (zO 7), some (zI x1), some (zI x2), some (zI x3), some (zI r30), some (zI (0 : Int32))] (And.intro rfl (And.intro rfl (And.intro rfl (And.intro rfl (And.intro rfl (And.intro rfl trivial)))))) (zc_X3_tuneBand_38 x1 x2 x3 r30 ih 5000 (0 : Int32) M r h)
def p_X3_tuneBand (x1 : Int32) (x2 : Int32) (M : zM) : Option (zM) :=
  p_X3_tuneBand_13 x1 x2 5000 (0 : Int32) (zset (zset M 7 5 (1000000 : Int32)) 7 6 (0 : Int32))
set_option maxRecDepth 20000 in
set_option maxHeartbeats 4000000 in
theorem zc_X3_tuneBand (x1 : Int32) (x2 : Int32) (M : zM) {r : zM} (h : p_X3_tuneBand x1 x2 M = some r) : zS Y_X3_tuneBand 0 [some (zO 7), some (zI x1), some (zI x2), none, none, none] [] M (none, r) := by
  rw [p_X3_tuneBand] at h
  refine zS_aload_nO dX3_tuneBand_0 rfl rfl ?_
  refine zS_ldc (v := (1000000 : Int32)) dX3_tuneBand_1 zw_275 ?_
  refine pf_7_5 dX3_tuneBand_3 zw_266 ?_
  refine zS_aload_nO dX3_tuneBand_6 rfl rfl ?_
  refine zS_iconst (v := (0 : Int32)) dX3_tuneBand_7 (by decide) ?_
  refine pf_7_6 dX3_tuneBand_8 zw_267 ?_
  refine zS_iconst (v := (0 : Int32)) dX3_tuneBand_11 (by decide) ?_
  refine zS_istore_n (ls' := [some (zO 7), some (zI x1), some (zI x2), some (zI (0 : Int32)), none, none]) dX3_tuneBand_12 rfl (by decide) rfl rfl ?_
  exact zS_wk [some (zO 7), some (zI x1), some (zI x2), some (zI (0 : Int32)), none, none] (And.intro rfl (And.intro rfl (And.intro rfl (And.intro rfl trivial)))) (zc_X3_tuneBand_13 x1 x2 5000 (0 : Int32) (zset (zset M 7 5 (1000000 : Int32)) 7 6 (0 : Int32)) r h)
def p_X0_harshness_5 (x1 : Int32) (x2 : Int32) (M : zM) : Nat → Int32 → Int32 → Option (Int32)
  | 0, _, _ => none
  | nn + 1, x3, x4 =>
  if (9 : Int32) ≤ x4 then
    some x3
  else
    if x4 < 0 ∨ 9 ≤ x4.toNatClampNeg then none else
    p_X0_harshness_5 x1 x2 M nn (x3 + (if 0 ≤ (((M 74 x4.toNatClampNeg) + x2) - x1) then ((M 74 x4.toNatClampNeg) + x2) - x1 else 0 - (((M 74 x4.toNatClampNeg) + x2) - x1))) (x4 + (1 : Int32))
set_option maxRecDepth 20000 in
set_option maxHeartbeats 4000000 in
theorem zc_X0_harshness_5 (x1 : Int32) (x2 : Int32) (M : zM) : ∀ (nn : Nat) (x3 : Int32) (x4 : Int32) (r : Int32), p_X0_harshness_5 x1 x2 M nn x3 x4 = some r → zS Y_X0_harshness 5 [some (zO 8), some (zI x1), some (zI x2), some (zI x3), some (zI x4)] [] M (some r, M) := by
  intro nn
  induction nn with
  | zero => intro x3 x4 r h; cases h
  | succ nn ih =>
  intro x3 x4 r h
  rw [p_X0_harshness_5] at h
  refine zS_iload dX0_harshness_5 rfl ?_
  refine zS_bipush (v := (9 : Int32)) dX0_harshness_7 (by decide) ?_
  refine zS_icmp_ge (tgt := 35) dX0_harshness_9 (by decide) (fun c9 => ?_) (fun c9 => ?_)
  · rw [if_pos c9] at h
    refine zS_iload_n dX0_harshness_35 rfl rfl ?_
    cases h
    exact zS_ireturn dX0_harshness_36 rfl rfl
  · rw [if_neg c9] at h
    refine zS_iload_n dX0_harshness_12 rfl rfl ?_
    refine zS_aload_nO dX0_harshness_13 rfl rfl ?_
    refine gf_8_0 dX0_harshness_14 zw_290 ?_
    refine zS_iload dX0_harshness_17 rfl ?_
    by_cases b19 : x4 < 0 ∨ 9 ≤ x4.toNatClampNeg
    · rw [if_pos b19] at h; cases h
    rw [if_neg b19] at h
    refine zS_iald b19 dX0_harshness_19 ?_
    refine zS_iload_n dX0_harshness_20 rfl rfl ?_
    refine zS_iadd dX0_harshness_21 ?_
    refine zS_iload_n dX0_harshness_22 rfl rfl ?_
    refine zS_isub dX0_harshness_23 ?_
    refine zS_abs dX0_harshness_24 zw_291 zw_292 zw_66 zw_293 (by decide) (Nat.le_of_ble_eq_true rfl) ?_
    refine zS_iadd dX0_harshness_27 ?_
    refine zS_istore_n (ls' := [some (zO 8), some (zI x1), some (zI x2), some (zI (x3 + (if 0 ≤ (((M 74 x4.toNatClampNeg) + x2) - x1) then ((M 74 x4.toNatClampNeg) + x2) - x1 else 0 - (((M 74 x4.toNatClampNeg) + x2) - x1)))), some (zI x4)]) dX0_harshness_28 rfl (by decide) rfl rfl ?_
    refine zS_iinc (v := x4 + (1 : Int32)) (ls' := [some (zO 8), some (zI x1), some (zI x2), some (zI (x3 + (if 0 ≤ (((M 74 x4.toNatClampNeg) + x2) - x1) then ((M 74 x4.toNatClampNeg) + x2) - x1 else 0 - (((M 74 x4.toNatClampNeg) + x2) - x1)))), some (zI (x4 + (1 : Int32)))]) dX0_harshness_29 rfl rfl (by decide) rfl rfl ?_
    refine zS_goto (tgt := 5) dX0_harshness_32 (by decide) ?_
    exact zS_wk [some (zO 8), some (zI x1), some (zI x2), some (zI (x3 + (if 0 ≤ (((M 74 x4.toNatClampNeg) + x2) - x1) then ((M 74 x4.toNatClampNeg) + x2) - x1 else 0 - (((M 74 x4.toNatClampNeg) + x2) - x1)))), some (zI (x4 + (1 : Int32)))] (And.intro rfl (And.intro rfl (And.intro rfl (And.intro rfl (And.intro rfl trivial))))) (ih (x3 + (if 0 ≤ (((M 74 x4.toNatClampNeg) + x2) - x1) then ((M 74 x4.toNatClampNeg) + x2) - x1 else 0 - (((M 74 x4.toNatClampNeg) + x2) - x1))) (x4 + (1 : Int32)) r h)
def p_X0_harshness (x1 : Int32) (x2 : Int32) (M : zM) : Option (Int32) :=
  p_X0_harshness_5 x1 x2 M 5000 (0 : Int32) (0 : Int32)
set_option maxRecDepth 20000 in
set_option maxHeartbeats 4000000 in
theorem zc_X0_harshness (x1 : Int32) (x2 : Int32) (M : zM) {r : Int32} (h : p_X0_harshness x1 x2 M = some r) : zS Y_X0_harshness 0 [some (zO 8), some (zI x1), some (zI x2), none, none] [] M (some r, M) := by
  rw [p_X0_harshness] at h
  refine zS_iconst (v := (0 : Int32)) dX0_harshness_0 (by decide) ?_
  refine zS_istore_n (ls' := [some (zO 8), some (zI x1), some (zI x2), some (zI (0 : Int32)), none]) dX0_harshness_1 rfl (by decide) rfl rfl ?_
  refine zS_iconst (v := (0 : Int32)) dX0_harshness_2 (by decide) ?_
  refine zS_istore (ls' := [some (zO 8), some (zI x1), some (zI x2), some (zI (0 : Int32)), some (zI (0 : Int32))]) dX0_harshness_3 (by decide) rfl rfl ?_
  exact zS_wk [some (zO 8), some (zI x1), some (zI x2), some (zI (0 : Int32)), some (zI (0 : Int32))] (And.intro rfl (And.intro rfl (And.intro rfl (And.intro rfl (And.intro rfl trivial))))) (zc_X0_harshness_5 x1 x2 M 5000 (0 : Int32) (0 : Int32) r h)
def p_X0_middleTone_44 (k2 : Int32 → Option (Int32)) (k15 : Int32 → Int32 → Int32 → Option (Int32)) (x1 : Int32) (x3 : Int32) (x4 : Int32) (t1 : Int32) (t0 : Int32) (M : zM) : Option (Int32) :=
  if x4 < 0 ∨ 9 ≤ x4.toNatClampNeg then none else
  if x1 < 0 ∨ 9 ≤ x1.toNatClampNeg then none else
  if (M 74 x1.toNatClampNeg) < (M 74 x4.toNatClampNeg) then
    k15 (t0 + t1) (x3 + (0 : Int32)) (x4 + (1 : Int32))
  else
    k15 (t0 + t1) (x3 + (1 : Int32)) (x4 + (1 : Int32))
set_option maxRecDepth 20000 in
set_option maxHeartbeats 4000000 in
theorem zc_X0_middleTone_44 {k2 : Int32 → Option (Int32)} {k15 : Int32 → Int32 → Int32 → Option (Int32)} (x1 : Int32) (x3 : Int32) (x4 : Int32) (t1 : Int32) (t0 : Int32) (M : zM) (hk2 : ∀ (x1 : Int32) (r : Int32), k2 x1 = some r → zS Y_X0_middleTone 2 [some (zO 8), some (zI x1), none, none, none] [] M (some r, M)) (hk15 : ∀ (x2 : Int32) (x3 : Int32) (x4 : Int32) (r : Int32), k15 x2 x3 x4 = some r → zS Y_X0_middleTone 15 [some (zO 8), some (zI x1), some (zI x2), some (zI x3), some (zI x4)] [] M (some r, M)) {r : Int32} (h : p_X0_middleTone_44 k2 k15 x1 x3 x4 t1 t0 M = some r) : zS Y_X0_middleTone 44 [some (zO 8), some (zI x1), none, some (zI x3), some (zI x4)] [zI t1, zI t0] M (some r, M) := by
  rw [p_X0_middleTone_44] at h
  refine zS_iadd dX0_middleTone_44 ?_
  refine zS_istore_n (ls' := [some (zO 8), some (zI x1), some (zI (t0 + t1)), some (zI x3), some (zI x4)]) dX0_middleTone_45 rfl (by decide) rfl rfl ?_
  refine zS_iload_n dX0_middleTone_46 rfl rfl ?_
  refine zS_aload_nO dX0_middleTone_47 rfl rfl ?_
  refine gf_8_0 dX0_middleTone_48 zw_290 ?_
  refine zS_iload dX0_middleTone_51 rfl ?_
  by_cases b53 : x4 < 0 ∨ 9 ≤ x4.toNatClampNeg
  · rw [if_pos b53] at h; cases h
  rw [if_neg b53] at h
  refine zS_iald b53 dX0_middleTone_53 ?_
  refine zS_aload_nO dX0_middleTone_54 rfl rfl ?_
  refine gf_8_0 dX0_middleTone_55 zw_290 ?_
  refine zS_iload_n dX0_middleTone_58 rfl rfl ?_
  by_cases b59 : x1 < 0 ∨ 9 ≤ x1.toNatClampNeg
  · rw [if_pos b59] at h; cases h
  rw [if_neg b59] at h
  refine zS_iald b59 dX0_middleTone_59 ?_
  refine zS_icmp_gt (tgt := 67) dX0_middleTone_60 (by decide) (fun c60 => ?_) (fun c60 => ?_)
  · rw [if_pos c60] at h
    refine zS_iconst (v := (0 : Int32)) dX0_middleTone_67 (by decide) ?_
    refine zS_iadd dX0_middleTone_68 ?_
    refine zS_istore_n (ls' := [some (zO 8), some (zI x1), some (zI (t0 + t1)), some (zI (x3 + (0 : Int32))), some (zI x4)]) dX0_middleTone_69 rfl (by decide) rfl rfl ?_
    refine zS_iinc (v := x4 + (1 : Int32)) (ls' := [some (zO 8), some (zI x1), some (zI (t0 + t1)), some (zI (x3 + (0 : Int32))), some (zI (x4 + (1 : Int32)))]) dX0_middleTone_70 rfl rfl (by decide) rfl rfl ?_
    refine zS_goto (tgt := 15) dX0_middleTone_73 (by decide) ?_
    exact zS_wk [some (zO 8), some (zI x1), some (zI (t0 + t1)), some (zI (x3 + (0 : Int32))), some (zI (x4 + (1 : Int32)))] (And.intro rfl (And.intro rfl (And.intro rfl (And.intro rfl (And.intro rfl trivial))))) (hk15 (t0 + t1) (x3 + (0 : Int32)) (x4 + (1 : Int32)) r h)
  · rw [if_neg c60] at h
    refine zS_iconst (v := (1 : Int32)) dX0_middleTone_63 (by decide) ?_
    refine zS_goto (tgt := 68) dX0_middleTone_64 (by decide) ?_
    refine zS_iadd dX0_middleTone_68 ?_
    refine zS_istore_n (ls' := [some (zO 8), some (zI x1), some (zI (t0 + t1)), some (zI (x3 + (1 : Int32))), some (zI x4)]) dX0_middleTone_69 rfl (by decide) rfl rfl ?_
    refine zS_iinc (v := x4 + (1 : Int32)) (ls' := [some (zO 8), some (zI x1), some (zI (t0 + t1)), some (zI (x3 + (1 : Int32))), some (zI (x4 + (1 : Int32)))]) dX0_middleTone_70 rfl rfl (by decide) rfl rfl ?_
    refine zS_goto (tgt := 15) dX0_middleTone_73 (by decide) ?_
    exact zS_wk [some (zO 8), some (zI x1), some (zI (t0 + t1)), some (zI (x3 + (1 : Int32))), some (zI (x4 + (1 : Int32)))] (And.intro rfl (And.intro rfl (And.intro rfl (And.intro rfl (And.intro rfl trivial))))) (hk15 (t0 + t1) (x3 + (1 : Int32)) (x4 + (1 : Int32)) r h)
def p_X0_middleTone_15 (k2 : Int32 → Option (Int32)) (x1 : Int32) (M : zM) : Nat → Int32 → Int32 → Int32 → Option (Int32)
  | 0, _, _, _ => none
  | nn + 1, x2, x3, x4 =>
  if (9 : Int32) ≤ x4 then
    if (4 : Int32) < x2 then
      k2 (x1 + (1 : Int32))
    else
      if x3 ≤ (4 : Int32) then
        k2 (x1 + (1 : Int32))
      else
        if x1 < 0 ∨ 9 ≤ x1.toNatClampNeg then none else
        some (M 74 x1.toNatClampNeg)
  else
    if x4 < 0 ∨ 9 ≤ x4.toNatClampNeg then none else
    if x1 < 0 ∨ 9 ≤ x1.toNatClampNeg then none else
    if (M 74 x1.toNatClampNeg) ≤ (M 74 x4.toNatClampNeg) then
      p_X0_middleTone_44 k2 (p_X0_middleTone_15 k2 x1 M nn) x1 x3 x4 (0 : Int32) x2 M
    else
      p_X0_middleTone_44 k2 (p_X0_middleTone_15 k2 x1 M nn) x1 x3 x4 (1 : Int32) x2 M
set_option maxRecDepth 20000 in
set_option maxHeartbeats 4000000 in
theorem zc_X0_middleTone_15 {k2 : Int32 → Option (Int32)} (x1 : Int32) (M : zM) (hk2 : ∀ (x1 : Int32) (r : Int32), k2 x1 = some r → zS Y_X0_middleTone 2 [some (zO 8), some (zI x1), none, none, none] [] M (some r, M)) : ∀ (nn : Nat) (x2 : Int32) (x3 : Int32) (x4 : Int32) (r : Int32), p_X0_middleTone_15 k2 x1 M nn x2 x3 x4 = some r → zS Y_X0_middleTone 15 [some (zO 8), some (zI x1), some (zI x2), some (zI x3), some (zI x4)] [] M (some r, M) := by
  intro nn
  induction nn with
  | zero => intro x2 x3 x4 r h; cases h
  | succ nn ih =>
  intro x2 x3 x4 r h
  rw [p_X0_middleTone_15] at h
  refine zS_iload dX0_middleTone_15 rfl ?_
  refine zS_bipush (v := (9 : Int32)) dX0_middleTone_17 (by decide) ?_
  refine zS_icmp_ge (tgt := 76) dX0_middleTone_19 (by decide) (fun c19 => ?_) (fun c19 => ?_)
  · rw [if_pos c19] at h
    refine zS_iload_n dX0_middleTone_76 rfl rfl ?_
    refine zS_iconst (v := (4 : Int32)) dX0_middleTone_77 (by decide) ?_
    refine zS_icmp_gt (tgt := 93) dX0_middleTone_78 (by decide) (fun c78 => ?_) (fun c78 => ?_)
    · rw [if_pos c78] at h
      refine zS_iinc (v := x1 + (1 : Int32)) (ls' := [some (zO 8), some (zI (x1 + (1 : Int32))), some (zI x2), some (zI x3), some (zI x4)]) dX0_middleTone_93 rfl rfl (by decide) rfl rfl ?_
      refine zS_goto (tgt := 2) dX0_middleTone_96 (by decide) ?_
      exact zS_wk [some (zO 8), some (zI (x1 + (1 : Int32))), none, none, none] (And.intro rfl (And.intro rfl trivial)) (hk2 (x1 + (1 : Int32)) r h)
    · rw [if_neg c78] at h
      refine zS_iload_n dX0_middleTone_81 rfl rfl ?_
      refine zS_iconst (v := (4 : Int32)) dX0_middleTone_82 (by decide) ?_
      refine zS_icmp_le (tgt := 93) dX0_middleTone_83 (by decide) (fun c83 => ?_) (fun c83 => ?_)
      · rw [if_pos c83] at h
        refine zS_iinc (v := x1 + (1 : Int32)) (ls' := [some (zO 8), some (zI (x1 + (1 : Int32))), some (zI x2), some (zI x3), some (zI x4)]) dX0_middleTone_93 rfl rfl (by decide) rfl rfl ?_
        refine zS_goto (tgt := 2) dX0_middleTone_96 (by decide) ?_
        exact zS_wk [some (zO 8), some (zI (x1 + (1 : Int32))), none, none, none] (And.intro rfl (And.intro rfl trivial)) (hk2 (x1 + (1 : Int32)) r h)
      · rw [if_neg c83] at h
        refine zS_aload_nO dX0_middleTone_86 rfl rfl ?_
        refine gf_8_0 dX0_middleTone_87 zw_290 ?_
        refine zS_iload_n dX0_middleTone_90 rfl rfl ?_
        by_cases b91 : x1 < 0 ∨ 9 ≤ x1.toNatClampNeg
        · rw [if_pos b91] at h; cases h
        rw [if_neg b91] at h
        refine zS_iald b91 dX0_middleTone_91 ?_
        cases h
        exact zS_ireturn dX0_middleTone_92 rfl rfl
  · rw [if_neg c19] at h
    refine zS_iload_n dX0_middleTone_22 rfl rfl ?_
    refine zS_aload_nO dX0_middleTone_23 rfl rfl ?_
    refine gf_8_0 dX0_middleTone_24 zw_290 ?_
    refine zS_iload dX0_middleTone_27 rfl ?_
    by_cases b29 : x4 < 0 ∨ 9 ≤ x4.toNatClampNeg
    · rw [if_pos b29] at h; cases h
    rw [if_neg b29] at h
    refine zS_iald b29 dX0_middleTone_29 ?_
    refine zS_aload_nO dX0_middleTone_30 rfl rfl ?_
    refine gf_8_0 dX0_middleTone_31 zw_290 ?_
    refine zS_iload_n dX0_middleTone_34 rfl rfl ?_
    by_cases b35 : x1 < 0 ∨ 9 ≤ x1.toNatClampNeg
    · rw [if_pos b35] at h; cases h
    rw [if_neg b35] at h
    refine zS_iald b35 dX0_middleTone_35 ?_
    refine zS_icmp_ge (tgt := 43) dX0_middleTone_36 (by decide) (fun c36 => ?_) (fun c36 => ?_)
    · rw [if_pos c36] at h
      refine zS_iconst (v := (0 : Int32)) dX0_middleTone_43 (by decide) ?_
      exact zS_wk [some (zO 8), some (zI x1), none, some (zI x3), some (zI x4)] (And.intro rfl (And.intro rfl (And.intro rfl (And.intro rfl trivial)))) (zc_X0_middleTone_44 x1 x3 x4 (0 : Int32) x2 M hk2 ih h)
    · rw [if_neg c36] at h
      refine zS_iconst (v := (1 : Int32)) dX0_middleTone_39 (by decide) ?_
      refine zS_goto (tgt := 44) dX0_middleTone_40 (by decide) ?_
      exact zS_wk [some (zO 8), some (zI x1), none, some (zI x3), some (zI x4)] (And.intro rfl (And.intro rfl (And.intro rfl (And.intro rfl trivial)))) (zc_X0_middleTone_44 x1 x3 x4 (1 : Int32) x2 M hk2 ih h)
def p_X0_middleTone_2 (M : zM) : Nat → Int32 → Option (Int32)
  | 0, _ => none
  | nn + 1, x1 =>
  if (9 : Int32) ≤ x1 then
    some (0 : Int32)
  else
    p_X0_middleTone_15 (p_X0_middleTone_2 M nn) x1 M 5000 (0 : Int32) (0 : Int32) (0 : Int32)
set_option maxRecDepth 20000 in
set_option maxHeartbeats 4000000 in
theorem zc_X0_middleTone_2 (M : zM) : ∀ (nn : Nat) (x1 : Int32) (r : Int32), p_X0_middleTone_2 M nn x1 = some r → zS Y_X0_middleTone 2 [some (zO 8), some (zI x1), none, none, none] [] M (some r, M) := by
  intro nn
  induction nn with
  | zero => intro x1 r h; cases h
  | succ nn ih =>
  intro x1 r h
  rw [p_X0_middleTone_2] at h
  refine zS_iload_n dX0_middleTone_2 rfl rfl ?_
  refine zS_bipush (v := (9 : Int32)) dX0_middleTone_3 (by decide) ?_
  refine zS_icmp_ge (tgt := 99) dX0_middleTone_5 (by decide) (fun c5 => ?_) (fun c5 => ?_)
  · rw [if_pos c5] at h
    refine zS_iconst (v := (0 : Int32)) dX0_middleTone_99 (by decide) ?_
    cases h
    exact zS_ireturn dX0_middleTone_100 rfl rfl
  · rw [if_neg c5] at h
    refine zS_iconst (v := (0 : Int32)) dX0_middleTone_8 (by decide) ?_
    refine zS_istore_n (ls' := [some (zO 8), some (zI x1), some (zI (0 : Int32)), none, none]) dX0_middleTone_9 rfl (by decide) rfl rfl ?_
    refine zS_iconst (v := (0 : Int32)) dX0_middleTone_10 (by decide) ?_
    refine zS_istore_n (ls' := [some (zO 8), some (zI x1), some (zI (0 : Int32)), some (zI (0 : Int32)), none]) dX0_middleTone_11 rfl (by decide) rfl rfl ?_
    refine zS_iconst (v := (0 : Int32)) dX0_middleTone_12 (by decide) ?_
    refine zS_istore (ls' := [some (zO 8), some (zI x1), some (zI (0 : Int32)), some (zI (0 : Int32)), some (zI (0 : Int32))]) dX0_middleTone_13 (by decide) rfl rfl ?_
    exact zS_wk [some (zO 8), some (zI x1), some (zI (0 : Int32)), some (zI (0 : Int32)), some (zI (0 : Int32))] (And.intro rfl (And.intro rfl (And.intro rfl (And.intro rfl (And.intro rfl trivial))))) (zc_X0_middleTone_15 x1 M ih 5000 (0 : Int32) (0 : Int32) (0 : Int32) r h)
def p_X0_middleTone (M : zM) : Option (Int32) :=
  p_X0_middleTone_2 M 5000 (0 : Int32)
set_option maxRecDepth 20000 in
set_option maxHeartbeats 4000000 in
theorem zc_X0_middleTone (M : zM) {r : Int32} (h : p_X0_middleTone M = some r) : zS Y_X0_middleTone 0 [some (zO 8), none, none, none, none] [] M (some r, M) := by
  rw [p_X0_middleTone] at h
  refine zS_iconst (v := (0 : Int32)) dX0_middleTone_0 (by decide) ?_
  refine zS_istore_n (ls' := [some (zO 8), some (zI (0 : Int32)), none, none, none]) dX0_middleTone_1 rfl (by decide) rfl rfl ?_
  exact zS_wk [some (zO 8), some (zI (0 : Int32)), none, none, none] (And.intro rfl (And.intro rfl trivial)) (zc_X0_middleTone_2 M 5000 (0 : Int32) r h)
def p_X0_mildest (x1 : Int32) (M : zM) : Option (Int32) :=
  (p_X0_middleTone M).bind fun r7 =>
  some (if (-999 : Int32) < if r7 + x1 < (999 : Int32) then r7 + x1 else (999 : Int32) then if r7 + x1 < (999 : Int32) then r7 + x1 else (999 : Int32) else (-999 : Int32))
set_option maxRecDepth 20000 in
set_option maxHeartbeats 4000000 in
theorem zc_X0_mildest (x1 : Int32) (M : zM) {r : Int32} (h : p_X0_mildest x1 M = some r) : zS Y_X0_mildest 0 [some (zO 8), some (zI x1)] [] M (some r, M) := by
  rw [p_X0_mildest] at h
  refine zS_sipush (v := (-999 : Int32)) dX0_mildest_0 (by decide) ?_
  refine zS_sipush (v := (999 : Int32)) dX0_mildest_3 (by decide) ?_
  refine zS_aload_nO dX0_mildest_6 rfl rfl ?_
  obtain ⟨r7, h7, h⟩ := zbind h
  refine zS_callV (as := []) (st := [zI (999 : Int32), zI (-999 : Int32)]) (ls0 := [some (zO 8), none, none, none, none]) dX0_mildest_7 okY_X0_middleTone rfl rfl lay_8 rfl zw_299 zw_300 zw_301 np_X0_middleTone (by decide) (Nat.le_of_ble_eq_true rfl) rfl (Nat.le_of_ble_eq_true rfl) (And.intro rfl trivial) (zc_X0_middleTone M h7) ?_
  refine zS_iload_n dX0_mildest_10 rfl rfl ?_
  refine zS_iadd dX0_mildest_11 ?_
  refine zS_min dX0_mildest_12 zw_302 zw_65 zw_66 zw_67 (by decide) (Nat.le_of_ble_eq_true rfl) ?_
  refine zS_max dX0_mildest_15 zw_303 zw_250 zw_66 zw_251 (by decide) (Nat.le_of_ble_eq_true rfl) ?_
  cases h
  exact zS_ireturn dX0_mildest_18 rfl rfl
