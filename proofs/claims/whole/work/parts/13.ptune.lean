def p_X7_append (x1 : Int32) (x2 : Int32) (x3 : Int32) (M : zM) : Option (Int32 × zM) :=
  if M 2 4 < 0 ∨ 24 ≤ (M 2 4).toNatClampNeg then none else
  if (zset M 22 ((M 2 4).toNatClampNeg) x1) 2 4 < 0 ∨ 24 ≤ ((zset M 22 ((M 2 4).toNatClampNeg) x1) 2 4).toNatClampNeg then none else
  if (zset (zset M 22 ((M 2 4).toNatClampNeg) x1) 23 (((zset M 22 ((M 2 4).toNatClampNeg) x1) 2 4).toNatClampNeg) x2) 2 4 < 0 ∨ 24 ≤ ((zset (zset M 22 ((M 2 4).toNatClampNeg) x1) 23 (((zset M 22 ((M 2 4).toNatClampNeg) x1) 2 4).toNatClampNeg) x2) 2 4).toNatClampNeg then none else
  some ((zset (zset (zset (zset M 22 ((M 2 4).toNatClampNeg) x1) 23 (((zset M 22 ((M 2 4).toNatClampNeg) x1) 2 4).toNatClampNeg) x2) 24 (((zset (zset M 22 ((M 2 4).toNatClampNeg) x1) 23 (((zset M 22 ((M 2 4).toNatClampNeg) x1) 2 4).toNatClampNeg) x2) 2 4).toNatClampNeg) x3) 2 4 (((zset (zset (zset M 22 ((M 2 4).toNatClampNeg) x1) 23 (((zset M 22 ((M 2 4).toNatClampNeg) x1) 2 4).toNatClampNeg) x2) 24 (((zset (zset M 22 ((M 2 4).toNatClampNeg) x1) 23 (((zset M 22 ((M 2 4).toNatClampNeg) x1) 2 4).toNatClampNeg) x2) 2 4).toNatClampNeg) x3) 2 4) + (1 : Int32))) 2 4, zset (zset (zset (zset M 22 ((M 2 4).toNatClampNeg) x1) 23 (((zset M 22 ((M 2 4).toNatClampNeg) x1) 2 4).toNatClampNeg) x2) 24 (((zset (zset M 22 ((M 2 4).toNatClampNeg) x1) 23 (((zset M 22 ((M 2 4).toNatClampNeg) x1) 2 4).toNatClampNeg) x2) 2 4).toNatClampNeg) x3) 2 4 (((zset (zset (zset M 22 ((M 2 4).toNatClampNeg) x1) 23 (((zset M 22 ((M 2 4).toNatClampNeg) x1) 2 4).toNatClampNeg) x2) 24 (((zset (zset M 22 ((M 2 4).toNatClampNeg) x1) 23 (((zset M 22 ((M 2 4).toNatClampNeg) x1) 2 4).toNatClampNeg) x2) 2 4).toNatClampNeg) x3) 2 4) + (1 : Int32)))
set_option maxRecDepth 20000 in
set_option maxHeartbeats 4000000 in
theorem zc_X7_append (x1 : Int32) (x2 : Int32) (x3 : Int32) (M : zM) {r : Int32 × zM} (h : p_X7_append x1 x2 x3 M = some r) : zS Y_X7_append 0 [some (zO 2), some (zI x1), some (zI x2), some (zI x3)] [] M (some r.1, r.2) := by
  rw [p_X7_append] at h
  refine zS_aload_nO dX7_append_0 rfl rfl ?_
  refine gf_2_1 dX7_append_1 zw_33 ?_
  refine zS_aload_nO dX7_append_4 rfl rfl ?_
  refine gf_2_4 dX7_append_5 zw_34 ?_
  refine zS_iload_n dX7_append_8 rfl rfl ?_
  by_cases b9 : M 2 4 < 0 ∨ 24 ≤ (M 2 4).toNatClampNeg
  · rw [if_pos b9] at h; cases h
  rw [if_neg b9] at h
  refine zS_iast b9 dX7_append_9 ?_
  refine zS_aload_nO dX7_append_10 rfl rfl ?_
  refine gf_2_2 dX7_append_11 zw_35 ?_
  refine zS_aload_nO dX7_append_14 rfl rfl ?_
  refine gf_2_4 dX7_append_15 zw_34 ?_
  refine zS_iload_n dX7_append_18 rfl rfl ?_
  by_cases b19 : (zset M 22 ((M 2 4).toNatClampNeg) x1) 2 4 < 0 ∨ 24 ≤ ((zset M 22 ((M 2 4).toNatClampNeg) x1) 2 4).toNatClampNeg
  · rw [if_pos b19] at h; cases h
  rw [if_neg b19] at h
  refine zS_iast b19 dX7_append_19 ?_
  refine zS_aload_nO dX7_append_20 rfl rfl ?_
  refine gf_2_3 dX7_append_21 zw_36 ?_
  refine zS_aload_nO dX7_append_24 rfl rfl ?_
  refine gf_2_4 dX7_append_25 zw_34 ?_
  refine zS_iload_n dX7_append_28 rfl rfl ?_
  by_cases b29 : (zset (zset M 22 ((M 2 4).toNatClampNeg) x1) 23 (((zset M 22 ((M 2 4).toNatClampNeg) x1) 2 4).toNatClampNeg) x2) 2 4 < 0 ∨ 24 ≤ ((zset (zset M 22 ((M 2 4).toNatClampNeg) x1) 23 (((zset M 22 ((M 2 4).toNatClampNeg) x1) 2 4).toNatClampNeg) x2) 2 4).toNatClampNeg
  · rw [if_pos b29] at h; cases h
  rw [if_neg b29] at h
  refine zS_iast b29 dX7_append_29 ?_
  refine zS_aload_nO dX7_append_30 rfl rfl ?_
  refine zS_dup dX7_append_31 rfl ?_
  refine gf_2_4 dX7_append_32 zw_34 ?_
  refine zS_iconst (v := (1 : Int32)) dX7_append_35 (by decide) ?_
  refine zS_iadd dX7_append_36 ?_
  refine pf_2_4 dX7_append_37 zw_34 ?_
  refine zS_aload_nO dX7_append_40 rfl rfl ?_
  refine gf_2_4 dX7_append_41 zw_34 ?_
  cases h
  exact zS_ireturn dX7_append_44 rfl rfl
def p_X7_holdsWith_16 (x1 : Int32) (x2 : Int32) (t0 : Int32) (M : zM) : Option (Int32) :=
  if x1 < 0 ∨ 24 ≤ x1.toNatClampNeg then none else
  (p_X2_joins x2 t0 (M 22 x1.toNatClampNeg) M).bind fun r29 =>
  if r29 = 0 then
    some (0 : Int32)
  else
    if x1 < 0 ∨ 24 ≤ x1.toNatClampNeg then none else
    (p_X2_leavesTime x2 (M 23 x1.toNatClampNeg) M).bind fun r46 =>
    if r46 = 0 then
      some (0 : Int32)
    else
      some (1 : Int32)
set_option maxRecDepth 20000 in
set_option maxHeartbeats 4000000 in
theorem zc_X7_holdsWith_16 (x1 : Int32) (x2 : Int32) (t0 : Int32) (M : zM) {r : Int32} (h : p_X7_holdsWith_16 x1 x2 t0 M = some r) : zS Y_X7_holdsWith 16 [some (zO 2), some (zI x1), some (zI x2), none] [zI t0] M (some r, M) := by
  rw [p_X7_holdsWith_16] at h
  refine zS_istore_n (ls' := [some (zO 2), some (zI x1), some (zI x2), some (zI t0)]) dX7_holdsWith_16 rfl (by decide) rfl rfl ?_
  refine zS_aload_nO dX7_holdsWith_17 rfl rfl ?_
  refine gf_2_0 dX7_holdsWith_18 zw_49 ?_
  refine zS_iload_n dX7_holdsWith_21 rfl rfl ?_
  refine zS_iload_n dX7_holdsWith_22 rfl rfl ?_
  refine zS_aload_nO dX7_holdsWith_23 rfl rfl ?_
  refine gf_2_1 dX7_holdsWith_24 zw_33 ?_
  refine zS_iload_n dX7_holdsWith_27 rfl rfl ?_
  by_cases b28 : x1 < 0 ∨ 24 ≤ x1.toNatClampNeg
  · rw [if_pos b28] at h; cases h
  rw [if_neg b28] at h
  refine zS_iald b28 dX7_holdsWith_28 ?_
  obtain ⟨r29, h29, h⟩ := zbind h
  refine zS_callV (as := [zI x2, zI t0, zI (M 22 x1.toNatClampNeg)]) (st := []) (ls0 := [some (zO 1), some (zI x2), some (zI t0), some (zI (M 22 x1.toNatClampNeg))]) dX7_holdsWith_29 okY_X2_joins rfl rfl lay_1 rfl zw_28 zw_29 zw_50 np_X2_joins (by decide) (Nat.le_of_ble_eq_true rfl) rfl (Nat.le_of_ble_eq_true rfl) (And.intro rfl (And.intro rfl (And.intro rfl (And.intro rfl trivial)))) (zc_X2_joins x2 t0 (M 22 x1.toNatClampNeg) M h29) ?_
  refine zS_if_eq (tgt := 56) dX7_holdsWith_32 (by decide) (fun c32 => ?_) (fun c32 => ?_)
  · rw [if_pos c32] at h
    refine zS_iconst (v := (0 : Int32)) dX7_holdsWith_56 (by decide) ?_
    cases h
    exact zS_ireturn dX7_holdsWith_57 rfl rfl
  · rw [if_neg c32] at h
    refine zS_aload_nO dX7_holdsWith_35 rfl rfl ?_
    refine gf_2_0 dX7_holdsWith_36 zw_49 ?_
    refine zS_iload_n dX7_holdsWith_39 rfl rfl ?_
    refine zS_aload_nO dX7_holdsWith_40 rfl rfl ?_
    refine gf_2_2 dX7_holdsWith_41 zw_35 ?_
    refine zS_iload_n dX7_holdsWith_44 rfl rfl ?_
    by_cases b45 : x1 < 0 ∨ 24 ≤ x1.toNatClampNeg
    · rw [if_pos b45] at h; cases h
    rw [if_neg b45] at h
    refine zS_iald b45 dX7_holdsWith_45 ?_
    obtain ⟨r46, h46, h⟩ := zbind h
    refine zS_callV (as := [zI x2, zI (M 23 x1.toNatClampNeg)]) (st := []) (ls0 := [some (zO 1), some (zI x2), some (zI (M 23 x1.toNatClampNeg))]) dX7_holdsWith_46 okY_X2_leavesTime rfl rfl lay_1 rfl zw_51 zw_52 zw_53 np_X2_leavesTime (by decide) (Nat.le_of_ble_eq_true rfl) rfl (Nat.le_of_ble_eq_true rfl) (And.intro rfl (And.intro rfl (And.intro rfl trivial))) (zc_X2_leavesTime x2 (M 23 x1.toNatClampNeg) M h46) ?_
    refine zS_if_eq (tgt := 56) dX7_holdsWith_49 (by decide) (fun c49 => ?_) (fun c49 => ?_)
    · rw [if_pos c49] at h
      refine zS_iconst (v := (0 : Int32)) dX7_holdsWith_56 (by decide) ?_
      cases h
      exact zS_ireturn dX7_holdsWith_57 rfl rfl
    · rw [if_neg c49] at h
      refine zS_iconst (v := (1 : Int32)) dX7_holdsWith_52 (by decide) ?_
      refine zS_goto (tgt := 57) dX7_holdsWith_53 (by decide) ?_
      cases h
      exact zS_ireturn dX7_holdsWith_57 rfl rfl
def p_X7_holdsWith (x1 : Int32) (x2 : Int32) (M : zM) : Option (Int32) :=
  if x1 = 0 then
    p_X7_holdsWith_16 x1 x2 (-1 : Int32) M
  else
    if x1 - (1 : Int32) < 0 ∨ 24 ≤ (x1 - (1 : Int32)).toNatClampNeg then none else
    p_X7_holdsWith_16 x1 x2 (M 22 (x1 - (1 : Int32)).toNatClampNeg) M
set_option maxRecDepth 20000 in
set_option maxHeartbeats 4000000 in
theorem zc_X7_holdsWith (x1 : Int32) (x2 : Int32) (M : zM) {r : Int32} (h : p_X7_holdsWith x1 x2 M = some r) : zS Y_X7_holdsWith 0 [some (zO 2), some (zI x1), some (zI x2), none] [] M (some r, M) := by
  rw [p_X7_holdsWith] at h
  refine zS_iload_n dX7_holdsWith_0 rfl rfl ?_
  refine zS_if_ne (tgt := 8) dX7_holdsWith_1 (by decide) (fun c1 => ?_) (fun c1 => ?_)
  · rw [if_neg c1] at h
    refine zS_aload_nO dX7_holdsWith_8 rfl rfl ?_
    refine gf_2_1 dX7_holdsWith_9 zw_33 ?_
    refine zS_iload_n dX7_holdsWith_12 rfl rfl ?_
    refine zS_iconst (v := (1 : Int32)) dX7_holdsWith_13 (by decide) ?_
    refine zS_isub dX7_holdsWith_14 ?_
    by_cases b15 : x1 - (1 : Int32) < 0 ∨ 24 ≤ (x1 - (1 : Int32)).toNatClampNeg
    · rw [if_pos b15] at h; cases h
    rw [if_neg b15] at h
    refine zS_iald b15 dX7_holdsWith_15 ?_
    exact zS_wk [some (zO 2), some (zI x1), some (zI x2), none] (And.intro rfl (And.intro rfl (And.intro rfl trivial))) (zc_X7_holdsWith_16 x1 x2 (M 22 (x1 - (1 : Int32)).toNatClampNeg) M h)
  · rw [if_pos c1] at h
    refine zS_iconst (v := (-1 : Int32)) dX7_holdsWith_4 (by decide) ?_
    refine zS_goto (tgt := 16) dX7_holdsWith_5 (by decide) ?_
    exact zS_wk [some (zO 2), some (zI x1), some (zI x2), none] (And.intro rfl (And.intro rfl (And.intro rfl trivial))) (zc_X7_holdsWith_16 x1 x2 (-1 : Int32) M h)
def p_X7_firstWrong_2 (M : zM) : Nat → Int32 → Option (Int32)
  | 0, _ => none
  | nn + 1, x1 =>
  if (M 2 4) ≤ x1 then
    some (-1 : Int32)
  else
    if x1 < 0 ∨ 24 ≤ x1.toNatClampNeg then none else
    if (M 24 x1.toNatClampNeg) = (-1 : Int32) then
      p_X7_firstWrong_2 M nn (x1 + (1 : Int32))
    else
      if x1 < 0 ∨ 24 ≤ x1.toNatClampNeg then none else
      (p_X7_holdsWith x1 (M 24 x1.toNatClampNeg) M).bind fun r28 =>
      if r28 = 0 then
        some x1
      else
        p_X7_firstWrong_2 M nn (x1 + (1 : Int32))
set_option maxRecDepth 20000 in
set_option maxHeartbeats 4000000 in
theorem zc_X7_firstWrong_2 (M : zM) : ∀ (nn : Nat) (x1 : Int32) (r : Int32), p_X7_firstWrong_2 M nn x1 = some r → zS Y_X7_firstWrong 2 [some (zO 2), some (zI x1)] [] M (some r, M) := by
  intro nn
  induction nn with
  | zero => intro x1 r h; cases h
  | succ nn ih =>
  intro x1 r h
  rw [p_X7_firstWrong_2] at h
  refine zS_iload_n dX7_firstWrong_2 rfl rfl ?_
  refine zS_aload_nO dX7_firstWrong_3 rfl rfl ?_
  refine gf_2_4 dX7_firstWrong_4 zw_34 ?_
  refine zS_icmp_ge (tgt := 42) dX7_firstWrong_7 (by decide) (fun c7 => ?_) (fun c7 => ?_)
  · rw [if_pos c7] at h
    refine zS_iconst (v := (-1 : Int32)) dX7_firstWrong_42 (by decide) ?_
    cases h
    exact zS_ireturn dX7_firstWrong_43 rfl rfl
  · rw [if_neg c7] at h
    refine zS_aload_nO dX7_firstWrong_10 rfl rfl ?_
    refine gf_2_3 dX7_firstWrong_11 zw_36 ?_
    refine zS_iload_n dX7_firstWrong_14 rfl rfl ?_
    by_cases b15 : x1 < 0 ∨ 24 ≤ x1.toNatClampNeg
    · rw [if_pos b15] at h; cases h
    rw [if_neg b15] at h
    refine zS_iald b15 dX7_firstWrong_15 ?_
    refine zS_iconst (v := (-1 : Int32)) dX7_firstWrong_16 (by decide) ?_
    refine zS_icmp_eq (tgt := 36) dX7_firstWrong_17 (by decide) (fun c17 => ?_) (fun c17 => ?_)
    · rw [if_pos c17] at h
      refine zS_iinc (v := x1 + (1 : Int32)) (ls' := [some (zO 2), some (zI (x1 + (1 : Int32)))]) dX7_firstWrong_36 rfl rfl (by decide) rfl rfl ?_
      refine zS_goto (tgt := 2) dX7_firstWrong_39 (by decide) ?_
      exact zS_wk [some (zO 2), some (zI (x1 + (1 : Int32)))] (And.intro rfl (And.intro rfl trivial)) (ih (x1 + (1 : Int32)) r h)
    · rw [if_neg c17] at h
      refine zS_aload_nO dX7_firstWrong_20 rfl rfl ?_
      refine zS_iload_n dX7_firstWrong_21 rfl rfl ?_
      refine zS_aload_nO dX7_firstWrong_22 rfl rfl ?_
      refine gf_2_3 dX7_firstWrong_23 zw_36 ?_
      refine zS_iload_n dX7_firstWrong_26 rfl rfl ?_
      by_cases b27 : x1 < 0 ∨ 24 ≤ x1.toNatClampNeg
      · rw [if_pos b27] at h; cases h
      rw [if_neg b27] at h
      refine zS_iald b27 dX7_firstWrong_27 ?_
      obtain ⟨r28, h28, h⟩ := zbind h
      refine zS_callV (as := [zI x1, zI (M 24 x1.toNatClampNeg)]) (st := []) (ls0 := [some (zO 2), some (zI x1), some (zI (M 24 x1.toNatClampNeg)), none]) dX7_firstWrong_28 okY_X7_holdsWith rfl rfl lay_2 rfl zw_54 zw_55 zw_56 np_X7_holdsWith (by decide) (Nat.le_of_ble_eq_true rfl) rfl (Nat.le_of_ble_eq_true rfl) (And.intro rfl (And.intro rfl (And.intro rfl trivial))) (zc_X7_holdsWith x1 (M 24 x1.toNatClampNeg) M h28) ?_
      refine zS_if_ne (tgt := 36) dX7_firstWrong_31 (by decide) (fun c31 => ?_) (fun c31 => ?_)
      · rw [if_neg c31] at h
        refine zS_iinc (v := x1 + (1 : Int32)) (ls' := [some (zO 2), some (zI (x1 + (1 : Int32)))]) dX7_firstWrong_36 rfl rfl (by decide) rfl rfl ?_
        refine zS_goto (tgt := 2) dX7_firstWrong_39 (by decide) ?_
        exact zS_wk [some (zO 2), some (zI (x1 + (1 : Int32)))] (And.intro rfl (And.intro rfl trivial)) (ih (x1 + (1 : Int32)) r h)
      · rw [if_pos c31] at h
        refine zS_iload_n dX7_firstWrong_34 rfl rfl ?_
        cases h
        exact zS_ireturn dX7_firstWrong_35 rfl rfl
def p_X7_firstWrong (M : zM) : Option (Int32) :=
  p_X7_firstWrong_2 M 5000 (0 : Int32)
set_option maxRecDepth 20000 in
set_option maxHeartbeats 4000000 in
theorem zc_X7_firstWrong (M : zM) {r : Int32} (h : p_X7_firstWrong M = some r) : zS Y_X7_firstWrong 0 [some (zO 2), none] [] M (some r, M) := by
  rw [p_X7_firstWrong] at h
  refine zS_iconst (v := (0 : Int32)) dX7_firstWrong_0 (by decide) ?_
  refine zS_istore_n (ls' := [some (zO 2), some (zI (0 : Int32))]) dX7_firstWrong_1 rfl (by decide) rfl rfl ?_
  exact zS_wk [some (zO 2), some (zI (0 : Int32))] (And.intro rfl (And.intro rfl trivial)) (zc_X7_firstWrong_2 M 5000 (0 : Int32) r h)
def p_X7_waysAt_34 (x1 : Int32) (M : zM) : Nat → Int32 → Int32 → Option (Int32)
  | 0, _, _ => none
  | nn + 1, x2, x3 =>
  if (8 : Int32) ≤ x3 then
    some x2
  else
    (p_X7_holdsWith x1 x3 M).bind fun r43 =>
    if r43 = 0 then
      p_X7_waysAt_34 x1 M nn x2 (x3 + (1 : Int32))
    else
      p_X7_waysAt_34 x1 M nn (x2 + (1 : Int32)) (x3 + (1 : Int32))
set_option maxRecDepth 20000 in
set_option maxHeartbeats 4000000 in
theorem zc_X7_waysAt_34 (x1 : Int32) (M : zM) : ∀ (nn : Nat) (x2 : Int32) (x3 : Int32) (r : Int32), p_X7_waysAt_34 x1 M nn x2 x3 = some r → zS Y_X7_waysAt 34 [some (zO 2), some (zI x1), some (zI x2), some (zI x3)] [] M (some r, M) := by
  intro nn
  induction nn with
  | zero => intro x2 x3 r h; cases h
  | succ nn ih =>
  intro x2 x3 r h
  rw [p_X7_waysAt_34] at h
  refine zS_iload_n dX7_waysAt_34 rfl rfl ?_
  refine zS_bipush (v := (8 : Int32)) dX7_waysAt_35 (by decide) ?_
  refine zS_icmp_ge (tgt := 58) dX7_waysAt_37 (by decide) (fun c37 => ?_) (fun c37 => ?_)
  · rw [if_pos c37] at h
    refine zS_iload_n dX7_waysAt_58 rfl rfl ?_
    cases h
    exact zS_ireturn dX7_waysAt_59 rfl rfl
  · rw [if_neg c37] at h
    refine zS_aload_nO dX7_waysAt_40 rfl rfl ?_
    refine zS_iload_n dX7_waysAt_41 rfl rfl ?_
    refine zS_iload_n dX7_waysAt_42 rfl rfl ?_
    obtain ⟨r43, h43, h⟩ := zbind h
    refine zS_callV (as := [zI x1, zI x3]) (st := []) (ls0 := [some (zO 2), some (zI x1), some (zI x3), none]) dX7_waysAt_43 okY_X7_holdsWith rfl rfl lay_2 rfl zw_54 zw_55 zw_56 np_X7_holdsWith (by decide) (Nat.le_of_ble_eq_true rfl) rfl (Nat.le_of_ble_eq_true rfl) (And.intro rfl (And.intro rfl (And.intro rfl trivial))) (zc_X7_holdsWith x1 x3 M h43) ?_
    refine zS_if_eq (tgt := 52) dX7_waysAt_46 (by decide) (fun c46 => ?_) (fun c46 => ?_)
    · rw [if_pos c46] at h
      refine zS_iinc (v := x3 + (1 : Int32)) (ls' := [some (zO 2), some (zI x1), some (zI x2), some (zI (x3 + (1 : Int32)))]) dX7_waysAt_52 rfl rfl (by decide) rfl rfl ?_
      refine zS_goto (tgt := 34) dX7_waysAt_55 (by decide) ?_
      exact zS_wk [some (zO 2), some (zI x1), some (zI x2), some (zI (x3 + (1 : Int32)))] (And.intro rfl (And.intro rfl (And.intro rfl (And.intro rfl trivial)))) (ih x2 (x3 + (1 : Int32)) r h)
    · rw [if_neg c46] at h
      refine zS_iinc (v := x2 + (1 : Int32)) (ls' := [some (zO 2), some (zI x1), some (zI (x2 + (1 : Int32))), some (zI x3)]) dX7_waysAt_49 rfl rfl (by decide) rfl rfl ?_
      refine zS_iinc (v := x3 + (1 : Int32)) (ls' := [some (zO 2), some (zI x1), some (zI (x2 + (1 : Int32))), some (zI (x3 + (1 : Int32)))]) dX7_waysAt_52 rfl rfl (by decide) rfl rfl ?_
      refine zS_goto (tgt := 34) dX7_waysAt_55 (by decide) ?_
      exact zS_wk [some (zO 2), some (zI x1), some (zI (x2 + (1 : Int32))), some (zI (x3 + (1 : Int32)))] (And.intro rfl (And.intro rfl (And.intro rfl (And.intro rfl trivial)))) (ih (x2 + (1 : Int32)) (x3 + (1 : Int32)) r h)
def p_X7_waysAt (x1 : Int32) (M : zM) : Option (Int32) :=
  if x1 < 0 ∨ 24 ≤ x1.toNatClampNeg then none else
  if (M 24 x1.toNatClampNeg) = (-1 : Int32) then
    p_X7_waysAt_34 x1 M 5000 (0 : Int32) (0 : Int32)
  else
    if x1 < 0 ∨ 24 ≤ x1.toNatClampNeg then none else
    (p_X7_holdsWith x1 (M 24 x1.toNatClampNeg) M).bind fun r18 =>
    if r18 = 0 then
      some (0 : Int32)
    else
      some (1 : Int32)
set_option maxRecDepth 20000 in
set_option maxHeartbeats 4000000 in
theorem zc_X7_waysAt (x1 : Int32) (M : zM) {r : Int32} (h : p_X7_waysAt x1 M = some r) : zS Y_X7_waysAt 0 [some (zO 2), some (zI x1), none, none] [] M (some r, M) := by
  rw [p_X7_waysAt] at h
  refine zS_aload_nO dX7_waysAt_0 rfl rfl ?_
  refine gf_2_3 dX7_waysAt_1 zw_36 ?_
  refine zS_iload_n dX7_waysAt_4 rfl rfl ?_
  by_cases b5 : x1 < 0 ∨ 24 ≤ x1.toNatClampNeg
  · rw [if_pos b5] at h; cases h
  rw [if_neg b5] at h
  refine zS_iald b5 dX7_waysAt_5 ?_
  refine zS_iconst (v := (-1 : Int32)) dX7_waysAt_6 (by decide) ?_
  refine zS_icmp_eq (tgt := 30) dX7_waysAt_7 (by decide) (fun c7 => ?_) (fun c7 => ?_)
  · rw [if_pos c7] at h
    refine zS_iconst (v := (0 : Int32)) dX7_waysAt_30 (by decide) ?_
    refine zS_istore_n (ls' := [some (zO 2), some (zI x1), some (zI (0 : Int32)), none]) dX7_waysAt_31 rfl (by decide) rfl rfl ?_
    refine zS_iconst (v := (0 : Int32)) dX7_waysAt_32 (by decide) ?_
    refine zS_istore_n (ls' := [some (zO 2), some (zI x1), some (zI (0 : Int32)), some (zI (0 : Int32))]) dX7_waysAt_33 rfl (by decide) rfl rfl ?_
    exact zS_wk [some (zO 2), some (zI x1), some (zI (0 : Int32)), some (zI (0 : Int32))] (And.intro rfl (And.intro rfl (And.intro rfl (And.intro rfl trivial)))) (zc_X7_waysAt_34 x1 M 5000 (0 : Int32) (0 : Int32) r h)
  · rw [if_neg c7] at h
    refine zS_aload_nO dX7_waysAt_10 rfl rfl ?_
    refine zS_iload_n dX7_waysAt_11 rfl rfl ?_
    refine zS_aload_nO dX7_waysAt_12 rfl rfl ?_
    refine gf_2_3 dX7_waysAt_13 zw_36 ?_
    refine zS_iload_n dX7_waysAt_16 rfl rfl ?_
    by_cases b17 : x1 < 0 ∨ 24 ≤ x1.toNatClampNeg
    · rw [if_pos b17] at h; cases h
    rw [if_neg b17] at h
    refine zS_iald b17 dX7_waysAt_17 ?_
    obtain ⟨r18, h18, h⟩ := zbind h
    refine zS_callV (as := [zI x1, zI (M 24 x1.toNatClampNeg)]) (st := []) (ls0 := [some (zO 2), some (zI x1), some (zI (M 24 x1.toNatClampNeg)), none]) dX7_waysAt_18 okY_X7_holdsWith rfl rfl lay_2 rfl zw_54 zw_55 zw_56 np_X7_holdsWith (by decide) (Nat.le_of_ble_eq_true rfl) rfl (Nat.le_of_ble_eq_true rfl) (And.intro rfl (And.intro rfl (And.intro rfl trivial))) (zc_X7_holdsWith x1 (M 24 x1.toNatClampNeg) M h18) ?_
    refine zS_if_eq (tgt := 28) dX7_waysAt_21 (by decide) (fun c21 => ?_) (fun c21 => ?_)
    · rw [if_pos c21] at h
      refine zS_iconst (v := (0 : Int32)) dX7_waysAt_28 (by decide) ?_
      cases h
      exact zS_ireturn dX7_waysAt_29 rfl rfl
    · rw [if_neg c21] at h
      refine zS_iconst (v := (1 : Int32)) dX7_waysAt_24 (by decide) ?_
      refine zS_goto (tgt := 29) dX7_waysAt_25 (by decide) ?_
      cases h
      exact zS_ireturn dX7_waysAt_29 rfl rfl
def p_X7_fillingCount_4 (M : zM) : Nat → Int32 → Int32 → Option (Int32)
  | 0, _, _ => none
  | nn + 1, x1, x2 =>
  if (M 2 4) ≤ x2 then
    some x1
  else
    (p_X7_waysAt x2 M).bind fun r17 =>
    p_X7_fillingCount_4 M nn (if x1 * r17 < (1000001 : Int32) then x1 * r17 else (1000001 : Int32)) (x2 + (1 : Int32))
set_option maxRecDepth 20000 in
set_option maxHeartbeats 4000000 in
theorem zc_X7_fillingCount_4 (M : zM) : ∀ (nn : Nat) (x1 : Int32) (x2 : Int32) (r : Int32), p_X7_fillingCount_4 M nn x1 x2 = some r → zS Y_X7_fillingCount 4 [some (zO 2), some (zI x1), some (zI x2)] [] M (some r, M) := by
  intro nn
  induction nn with
  | zero => intro x1 x2 r h; cases h
  | succ nn ih =>
  intro x1 x2 r h
  rw [p_X7_fillingCount_4] at h
  refine zS_iload_n dX7_fillingCount_4 rfl rfl ?_
  refine zS_aload_nO dX7_fillingCount_5 rfl rfl ?_
  refine gf_2_4 dX7_fillingCount_6 zw_34 ?_
  refine zS_icmp_ge (tgt := 31) dX7_fillingCount_9 (by decide) (fun c9 => ?_) (fun c9 => ?_)
  · rw [if_pos c9] at h
    refine zS_iload_n dX7_fillingCount_31 rfl rfl ?_
    cases h
    exact zS_ireturn dX7_fillingCount_32 rfl rfl
  · rw [if_neg c9] at h
    refine zS_ldc (v := (1000001 : Int32)) dX7_fillingCount_12 zw_60 ?_
    refine zS_iload_n dX7_fillingCount_14 rfl rfl ?_
    refine zS_aload_nO dX7_fillingCount_15 rfl rfl ?_
    refine zS_iload_n dX7_fillingCount_16 rfl rfl ?_
    obtain ⟨r17, h17, h⟩ := zbind h
    refine zS_callV (as := [zI x2]) (st := [zI x1, zI (1000001 : Int32)]) (ls0 := [some (zO 2), some (zI x2), none, none]) dX7_fillingCount_17 okY_X7_waysAt rfl rfl lay_2 rfl zw_61 zw_62 zw_63 np_X7_waysAt (by decide) (Nat.le_of_ble_eq_true rfl) rfl (Nat.le_of_ble_eq_true rfl) (And.intro rfl (And.intro rfl trivial)) (zc_X7_waysAt x2 M h17) ?_
    refine zS_imul dX7_fillingCount_20 ?_
    refine zS_min dX7_fillingCount_21 zw_64 zw_65 zw_66 zw_67 (by decide) (Nat.le_of_ble_eq_true rfl) ?_
    refine zS_istore_n (ls' := [some (zO 2), some (zI (if x1 * r17 < (1000001 : Int32) then x1 * r17 else (1000001 : Int32))), some (zI x2)]) dX7_fillingCount_24 rfl (by decide) rfl rfl ?_
    refine zS_iinc (v := x2 + (1 : Int32)) (ls' := [some (zO 2), some (zI (if x1 * r17 < (1000001 : Int32) then x1 * r17 else (1000001 : Int32))), some (zI (x2 + (1 : Int32)))]) dX7_fillingCount_25 rfl rfl (by decide) rfl rfl ?_
    refine zS_goto (tgt := 4) dX7_fillingCount_28 (by decide) ?_
    exact zS_wk [some (zO 2), some (zI (if x1 * r17 < (1000001 : Int32) then x1 * r17 else (1000001 : Int32))), some (zI (x2 + (1 : Int32)))] (And.intro rfl (And.intro rfl (And.intro rfl trivial))) (ih (if x1 * r17 < (1000001 : Int32) then x1 * r17 else (1000001 : Int32)) (x2 + (1 : Int32)) r h)
def p_X7_fillingCount (M : zM) : Option (Int32) :=
  p_X7_fillingCount_4 M 5000 (1 : Int32) (0 : Int32)
set_option maxRecDepth 20000 in
set_option maxHeartbeats 4000000 in
theorem zc_X7_fillingCount (M : zM) {r : Int32} (h : p_X7_fillingCount M = some r) : zS Y_X7_fillingCount 0 [some (zO 2), none, none] [] M (some r, M) := by
  rw [p_X7_fillingCount] at h
  refine zS_iconst (v := (1 : Int32)) dX7_fillingCount_0 (by decide) ?_
  refine zS_istore_n (ls' := [some (zO 2), some (zI (1 : Int32)), none]) dX7_fillingCount_1 rfl (by decide) rfl rfl ?_
  refine zS_iconst (v := (0 : Int32)) dX7_fillingCount_2 (by decide) ?_
  refine zS_istore_n (ls' := [some (zO 2), some (zI (1 : Int32)), some (zI (0 : Int32))]) dX7_fillingCount_3 rfl (by decide) rfl rfl ?_
  exact zS_wk [some (zO 2), some (zI (1 : Int32)), some (zI (0 : Int32))] (And.intro rfl (And.intro rfl (And.intro rfl trivial))) (zc_X7_fillingCount_4 M 5000 (1 : Int32) (0 : Int32) r h)
def p_X7_quickestAt_21 (x1 : Int32) (M : zM) : Nat → Int32 → Int32 → Option (Int32)
  | 0, _, _ => none
  | nn + 1, x2, x3 =>
  if (8 : Int32) ≤ x3 then
    some x2
  else
    (p_X7_holdsWith x1 x3 M).bind fun r30 =>
    if r30 = 0 then
      p_X7_quickestAt_21 x1 M nn x2 (x3 + (1 : Int32))
    else
      if x2 = (-1 : Int32) then
        p_X7_quickestAt_21 x1 M nn x3 (x3 + (1 : Int32))
      else
        if x3 < 0 ∨ 8 ≤ x3.toNatClampNeg then none else
        if x2 < 0 ∨ 8 ≤ x2.toNatClampNeg then none else
        if (M 10 x2.toNatClampNeg) ≤ (M 10 x3.toNatClampNeg) then
          p_X7_quickestAt_21 x1 M nn x2 (x3 + (1 : Int32))
        else
          p_X7_quickestAt_21 x1 M nn x3 (x3 + (1 : Int32))
set_option maxRecDepth 20000 in
set_option maxHeartbeats 4000000 in
theorem zc_X7_quickestAt_21 (x1 : Int32) (M : zM) : ∀ (nn : Nat) (x2 : Int32) (x3 : Int32) (r : Int32), p_X7_quickestAt_21 x1 M nn x2 x3 = some r → zS Y_X7_quickestAt 21 [some (zO 2), some (zI x1), some (zI x2), some (zI x3)] [] M (some r, M) := by
  intro nn
  induction nn with
  | zero => intro x2 x3 r h; cases h
  | succ nn ih =>
  intro x2 x3 r h
  rw [p_X7_quickestAt_21] at h
  refine zS_iload_n dX7_quickestAt_21 rfl rfl ?_
  refine zS_bipush (v := (8 : Int32)) dX7_quickestAt_22 (by decide) ?_
  refine zS_icmp_ge (tgt := 70) dX7_quickestAt_24 (by decide) (fun c24 => ?_) (fun c24 => ?_)
  · rw [if_pos c24] at h
    refine zS_iload_n dX7_quickestAt_70 rfl rfl ?_
    cases h
    exact zS_ireturn dX7_quickestAt_71 rfl rfl
  · rw [if_neg c24] at h
    refine zS_aload_nO dX7_quickestAt_27 rfl rfl ?_
    refine zS_iload_n dX7_quickestAt_28 rfl rfl ?_
    refine zS_iload_n dX7_quickestAt_29 rfl rfl ?_
    obtain ⟨r30, h30, h⟩ := zbind h
    refine zS_callV (as := [zI x1, zI x3]) (st := []) (ls0 := [some (zO 2), some (zI x1), some (zI x3), none]) dX7_quickestAt_30 okY_X7_holdsWith rfl rfl lay_2 rfl zw_54 zw_55 zw_56 np_X7_holdsWith (by decide) (Nat.le_of_ble_eq_true rfl) rfl (Nat.le_of_ble_eq_true rfl) (And.intro rfl (And.intro rfl (And.intro rfl trivial))) (zc_X7_holdsWith x1 x3 M h30) ?_
    refine zS_if_eq (tgt := 64) dX7_quickestAt_33 (by decide) (fun c33 => ?_) (fun c33 => ?_)
    · rw [if_pos c33] at h
      refine zS_iinc (v := x3 + (1 : Int32)) (ls' := [some (zO 2), some (zI x1), some (zI x2), some (zI (x3 + (1 : Int32)))]) dX7_quickestAt_64 rfl rfl (by decide) rfl rfl ?_
      refine zS_goto (tgt := 21) dX7_quickestAt_67 (by decide) ?_
      exact zS_wk [some (zO 2), some (zI x1), some (zI x2), some (zI (x3 + (1 : Int32)))] (And.intro rfl (And.intro rfl (And.intro rfl (And.intro rfl trivial)))) (ih x2 (x3 + (1 : Int32)) r h)
    · rw [if_neg c33] at h
      refine zS_iload_n dX7_quickestAt_36 rfl rfl ?_
      refine zS_iconst (v := (-1 : Int32)) dX7_quickestAt_37 (by decide) ?_
      refine zS_icmp_eq (tgt := 62) dX7_quickestAt_38 (by decide) (fun c38 => ?_) (fun c38 => ?_)
      · rw [if_pos c38] at h
        refine zS_iload_n dX7_quickestAt_62 rfl rfl ?_
        refine zS_istore_n (ls' := [some (zO 2), some (zI x1), some (zI x3), some (zI x3)]) dX7_quickestAt_63 rfl (by decide) rfl rfl ?_
        refine zS_iinc (v := x3 + (1 : Int32)) (ls' := [some (zO 2), some (zI x1), some (zI x3), some (zI (x3 + (1 : Int32)))]) dX7_quickestAt_64 rfl rfl (by decide) rfl rfl ?_
        refine zS_goto (tgt := 21) dX7_quickestAt_67 (by decide) ?_
        exact zS_wk [some (zO 2), some (zI x1), some (zI x3), some (zI (x3 + (1 : Int32)))] (And.intro rfl (And.intro rfl (And.intro rfl (And.intro rfl trivial)))) (ih x3 (x3 + (1 : Int32)) r h)
      · rw [if_neg c38] at h
        refine zS_aload_nO dX7_quickestAt_41 rfl rfl ?_
        refine gf_2_0 dX7_quickestAt_42 zw_49 ?_
        refine gf_1_0 dX7_quickestAt_45 zw_71 ?_
        refine zS_iload_n dX7_quickestAt_48 rfl rfl ?_
        by_cases b49 : x3 < 0 ∨ 8 ≤ x3.toNatClampNeg
        · rw [if_pos b49] at h; cases h
        rw [if_neg b49] at h
        refine zS_iald b49 dX7_quickestAt_49 ?_
        refine zS_aload_nO dX7_quickestAt_50 rfl rfl ?_
        refine gf_2_0 dX7_quickestAt_51 zw_49 ?_
        refine gf_1_0 dX7_quickestAt_54 zw_71 ?_
        refine zS_iload_n dX7_quickestAt_57 rfl rfl ?_
        by_cases b58 : x2 < 0 ∨ 8 ≤ x2.toNatClampNeg
        · rw [if_pos b58] at h; cases h
        rw [if_neg b58] at h
        refine zS_iald b58 dX7_quickestAt_58 ?_
        refine zS_icmp_ge (tgt := 64) dX7_quickestAt_59 (by decide) (fun c59 => ?_) (fun c59 => ?_)
        · rw [if_pos c59] at h
          refine zS_iinc (v := x3 + (1 : Int32)) (ls' := [some (zO 2), some (zI x1), some (zI x2), some (zI (x3 + (1 : Int32)))]) dX7_quickestAt_64 rfl rfl (by decide) rfl rfl ?_
          refine zS_goto (tgt := 21) dX7_quickestAt_67 (by decide) ?_
          exact zS_wk [some (zO 2), some (zI x1), some (zI x2), some (zI (x3 + (1 : Int32)))] (And.intro rfl (And.intro rfl (And.intro rfl (And.intro rfl trivial)))) (ih x2 (x3 + (1 : Int32)) r h)
        · rw [if_neg c59] at h
          refine zS_iload_n dX7_quickestAt_62 rfl rfl ?_
          refine zS_istore_n (ls' := [some (zO 2), some (zI x1), some (zI x3), some (zI x3)]) dX7_quickestAt_63 rfl (by decide) rfl rfl ?_
          refine zS_iinc (v := x3 + (1 : Int32)) (ls' := [some (zO 2), some (zI x1), some (zI x3), some (zI (x3 + (1 : Int32)))]) dX7_quickestAt_64 rfl rfl (by decide) rfl rfl ?_
          refine zS_goto (tgt := 21) dX7_quickestAt_67 (by decide) ?_
          exact zS_wk [some (zO 2), some (zI x1), some (zI x3), some (zI (x3 + (1 : Int32)))] (And.intro rfl (And.intro rfl (And.intro rfl (And.intro rfl trivial)))) (ih x3 (x3 + (1 : Int32)) r h)
def p_X7_quickestAt (x1 : Int32) (M : zM) : Option (Int32) :=
  if x1 < 0 ∨ 24 ≤ x1.toNatClampNeg then none else
  if (M 24 x1.toNatClampNeg) = (-1 : Int32) then
    p_X7_quickestAt_21 x1 M 5000 (-1 : Int32) (0 : Int32)
  else
    if x1 < 0 ∨ 24 ≤ x1.toNatClampNeg then none else
    some (M 24 x1.toNatClampNeg)
set_option maxRecDepth 20000 in
set_option maxHeartbeats 4000000 in
theorem zc_X7_quickestAt (x1 : Int32) (M : zM) {r : Int32} (h : p_X7_quickestAt x1 M = some r) : zS Y_X7_quickestAt 0 [some (zO 2), some (zI x1), none, none] [] M (some r, M) := by
  rw [p_X7_quickestAt] at h
  refine zS_aload_nO dX7_quickestAt_0 rfl rfl ?_
  refine gf_2_3 dX7_quickestAt_1 zw_36 ?_
  refine zS_iload_n dX7_quickestAt_4 rfl rfl ?_
  by_cases b5 : x1 < 0 ∨ 24 ≤ x1.toNatClampNeg
  · rw [if_pos b5] at h; cases h
  rw [if_neg b5] at h
  refine zS_iald b5 dX7_quickestAt_5 ?_
  refine zS_iconst (v := (-1 : Int32)) dX7_quickestAt_6 (by decide) ?_
  refine zS_icmp_eq (tgt := 17) dX7_quickestAt_7 (by decide) (fun c7 => ?_) (fun c7 => ?_)
  · rw [if_pos c7] at h
    refine zS_iconst (v := (-1 : Int32)) dX7_quickestAt_17 (by decide) ?_
    refine zS_istore_n (ls' := [some (zO 2), some (zI x1), some (zI (-1 : Int32)), none]) dX7_quickestAt_18 rfl (by decide) rfl rfl ?_
    refine zS_iconst (v := (0 : Int32)) dX7_quickestAt_19 (by decide) ?_
    refine zS_istore_n (ls' := [some (zO 2), some (zI x1), some (zI (-1 : Int32)), some (zI (0 : Int32))]) dX7_quickestAt_20 rfl (by decide) rfl rfl ?_
    exact zS_wk [some (zO 2), some (zI x1), some (zI (-1 : Int32)), some (zI (0 : Int32))] (And.intro rfl (And.intro rfl (And.intro rfl (And.intro rfl trivial)))) (zc_X7_quickestAt_21 x1 M 5000 (-1 : Int32) (0 : Int32) r h)
  · rw [if_neg c7] at h
    refine zS_aload_nO dX7_quickestAt_10 rfl rfl ?_
    refine gf_2_3 dX7_quickestAt_11 zw_36 ?_
    refine zS_iload_n dX7_quickestAt_14 rfl rfl ?_
    by_cases b15 : x1 < 0 ∨ 24 ≤ x1.toNatClampNeg
    · rw [if_pos b15] at h; cases h
    rw [if_neg b15] at h
    refine zS_iald b15 dX7_quickestAt_15 ?_
    cases h
    exact zS_ireturn dX7_quickestAt_16 rfl rfl
def p_X7_quickestGraces_4 (M : zM) : Nat → Int32 → Int32 → Option (Int32)
  | 0, _, _ => none
  | nn + 1, x1, x2 =>
  if (M 2 4) ≤ x2 then
    some x1
  else
    (p_X7_quickestAt x2 M).bind fun r14 =>
    if r14 = (-1 : Int32) then
      p_X7_quickestGraces_4 M nn (x1 + (0 : Int32)) (x2 + (1 : Int32))
    else
      if r14 < 0 ∨ 8 ≤ r14.toNatClampNeg then none else
      p_X7_quickestGraces_4 M nn (x1 + (M 10 r14.toNatClampNeg)) (x2 + (1 : Int32))
set_option maxRecDepth 20000 in
set_option maxHeartbeats 4000000 in
theorem zc_X7_quickestGraces_4 (M : zM) : ∀ (nn : Nat) (x1 : Int32) (x2 : Int32) (r : Int32), p_X7_quickestGraces_4 M nn x1 x2 = some r → zS Y_X7_quickestGraces 4 [some (zO 2), some (zI x1), some (zI x2), none] [] M (some r, M) := by
  intro nn
  induction nn with
  | zero => intro x1 x2 r h; cases h
  | succ nn ih =>
  intro x1 x2 r h
  rw [p_X7_quickestGraces_4] at h
  refine zS_iload_n dX7_quickestGraces_4 rfl rfl ?_
  refine zS_aload_nO dX7_quickestGraces_5 rfl rfl ?_
  refine gf_2_4 dX7_quickestGraces_6 zw_34 ?_
  refine zS_icmp_ge (tgt := 45) dX7_quickestGraces_9 (by decide) (fun c9 => ?_) (fun c9 => ?_)
  · rw [if_pos c9] at h
    refine zS_iload_n dX7_quickestGraces_45 rfl rfl ?_
    cases h
    exact zS_ireturn dX7_quickestGraces_46 rfl rfl
  · rw [if_neg c9] at h
    refine zS_aload_nO dX7_quickestGraces_12 rfl rfl ?_
    refine zS_iload_n dX7_quickestGraces_13 rfl rfl ?_
    obtain ⟨r14, h14, h⟩ := zbind h
    refine zS_callV (as := [zI x2]) (st := []) (ls0 := [some (zO 2), some (zI x2), none, none]) dX7_quickestGraces_14 okY_X7_quickestAt rfl rfl lay_2 rfl zw_72 zw_73 zw_75 np_X7_quickestAt (by decide) (Nat.le_of_ble_eq_true rfl) rfl (Nat.le_of_ble_eq_true rfl) (And.intro rfl (And.intro rfl trivial)) (zc_X7_quickestAt x2 M h14) ?_
    refine zS_istore_n (ls' := [some (zO 2), some (zI x1), some (zI x2), some (zI r14)]) dX7_quickestGraces_17 rfl (by decide) rfl rfl ?_
    refine zS_iload_n dX7_quickestGraces_18 rfl rfl ?_
    refine zS_iload_n dX7_quickestGraces_19 rfl rfl ?_
    refine zS_iconst (v := (-1 : Int32)) dX7_quickestGraces_20 (by decide) ?_
    refine zS_icmp_ne (tgt := 28) dX7_quickestGraces_21 (by decide) (fun c21 => ?_) (fun c21 => ?_)
    · rw [if_neg c21] at h
      refine zS_aload_nO dX7_quickestGraces_28 rfl rfl ?_
      refine gf_2_0 dX7_quickestGraces_29 zw_49 ?_
      refine gf_1_0 dX7_quickestGraces_32 zw_71 ?_
      refine zS_iload_n dX7_quickestGraces_35 rfl rfl ?_
      by_cases b36 : r14 < 0 ∨ 8 ≤ r14.toNatClampNeg
      · rw [if_pos b36] at h; cases h
      rw [if_neg b36] at h
      refine zS_iald b36 dX7_quickestGraces_36 ?_
      refine zS_iadd dX7_quickestGraces_37 ?_
      refine zS_istore_n (ls' := [some (zO 2), some (zI (x1 + (M 10 r14.toNatClampNeg))), some (zI x2), some (zI r14)]) dX7_quickestGraces_38 rfl (by decide) rfl rfl ?_
      refine zS_iinc (v := x2 + (1 : Int32)) (ls' := [some (zO 2), some (zI (x1 + (M 10 r14.toNatClampNeg))), some (zI (x2 + (1 : Int32))), some (zI r14)]) dX7_quickestGraces_39 rfl rfl (by decide) rfl rfl ?_
      refine zS_goto (tgt := 4) dX7_quickestGraces_42 (by decide) ?_
      exact zS_wk [some (zO 2), some (zI (x1 + (M 10 r14.toNatClampNeg))), some (zI (x2 + (1 : Int32))), none] (And.intro rfl (And.intro rfl (And.intro rfl trivial))) (ih (x1 + (M 10 r14.toNatClampNeg)) (x2 + (1 : Int32)) r h)
    · rw [if_pos c21] at h
      refine zS_iconst (v := (0 : Int32)) dX7_quickestGraces_24 (by decide) ?_
      refine zS_goto (tgt := 37) dX7_quickestGraces_25 (by decide) ?_
      refine zS_iadd dX7_quickestGraces_37 ?_
      refine zS_istore_n (ls' := [some (zO 2), some (zI (x1 + (0 : Int32))), some (zI x2), some (zI r14)]) dX7_quickestGraces_38 rfl (by decide) rfl rfl ?_
      refine zS_iinc (v := x2 + (1 : Int32)) (ls' := [some (zO 2), some (zI (x1 + (0 : Int32))), some (zI (x2 + (1 : Int32))), some (zI r14)]) dX7_quickestGraces_39 rfl rfl (by decide) rfl rfl ?_
      refine zS_goto (tgt := 4) dX7_quickestGraces_42 (by decide) ?_
      exact zS_wk [some (zO 2), some (zI (x1 + (0 : Int32))), some (zI (x2 + (1 : Int32))), none] (And.intro rfl (And.intro rfl (And.intro rfl trivial))) (ih (x1 + (0 : Int32)) (x2 + (1 : Int32)) r h)
def p_X7_quickestGraces (M : zM) : Option (Int32) :=
  p_X7_quickestGraces_4 M 5000 (0 : Int32) (0 : Int32)
set_option maxRecDepth 20000 in
set_option maxHeartbeats 4000000 in
theorem zc_X7_quickestGraces (M : zM) {r : Int32} (h : p_X7_quickestGraces M = some r) : zS Y_X7_quickestGraces 0 [some (zO 2), none, none, none] [] M (some r, M) := by
  rw [p_X7_quickestGraces] at h
  refine zS_iconst (v := (0 : Int32)) dX7_quickestGraces_0 (by decide) ?_
  refine zS_istore_n (ls' := [some (zO 2), some (zI (0 : Int32)), none, none]) dX7_quickestGraces_1 rfl (by decide) rfl rfl ?_
  refine zS_iconst (v := (0 : Int32)) dX7_quickestGraces_2 (by decide) ?_
  refine zS_istore_n (ls' := [some (zO 2), some (zI (0 : Int32)), some (zI (0 : Int32)), none]) dX7_quickestGraces_3 rfl (by decide) rfl rfl ?_
  exact zS_wk [some (zO 2), some (zI (0 : Int32)), some (zI (0 : Int32)), none] (And.intro rfl (And.intro rfl (And.intro rfl trivial))) (zc_X7_quickestGraces_4 M 5000 (0 : Int32) (0 : Int32) r h)
def p_X7_lostOnes_4 (M : zM) : Nat → Int32 → Int32 → Option (Int32)
  | 0, _, _ => none
  | nn + 1, x1, x2 =>
  if (M 2 4) ≤ x2 then
    some x1
  else
    if x2 < 0 ∨ 24 ≤ x2.toNatClampNeg then none else
    if (M 24 x2.toNatClampNeg) = (-1 : Int32) then
      p_X7_lostOnes_4 M nn (x1 + (1 : Int32)) (x2 + (1 : Int32))
    else
      p_X7_lostOnes_4 M nn x1 (x2 + (1 : Int32))
set_option maxRecDepth 20000 in
set_option maxHeartbeats 4000000 in
theorem zc_X7_lostOnes_4 (M : zM) : ∀ (nn : Nat) (x1 : Int32) (x2 : Int32) (r : Int32), p_X7_lostOnes_4 M nn x1 x2 = some r → zS Y_X7_lostOnes 4 [some (zO 2), some (zI x1), some (zI x2)] [] M (some r, M) := by
  intro nn
  induction nn with
  | zero => intro x1 x2 r h; cases h
  | succ nn ih =>
  intro x1 x2 r h
  rw [p_X7_lostOnes_4] at h
  refine zS_iload_n dX7_lostOnes_4 rfl rfl ?_
  refine zS_aload_nO dX7_lostOnes_5 rfl rfl ?_
  refine gf_2_4 dX7_lostOnes_6 zw_34 ?_
  refine zS_icmp_ge (tgt := 31) dX7_lostOnes_9 (by decide) (fun c9 => ?_) (fun c9 => ?_)
  · rw [if_pos c9] at h
    refine zS_iload_n dX7_lostOnes_31 rfl rfl ?_
    cases h
    exact zS_ireturn dX7_lostOnes_32 rfl rfl
  · rw [if_neg c9] at h
    refine zS_aload_nO dX7_lostOnes_12 rfl rfl ?_
    refine gf_2_3 dX7_lostOnes_13 zw_36 ?_
    refine zS_iload_n dX7_lostOnes_16 rfl rfl ?_
    by_cases b17 : x2 < 0 ∨ 24 ≤ x2.toNatClampNeg
    · rw [if_pos b17] at h; cases h
    rw [if_neg b17] at h
    refine zS_iald b17 dX7_lostOnes_17 ?_
    refine zS_iconst (v := (-1 : Int32)) dX7_lostOnes_18 (by decide) ?_
    refine zS_icmp_ne (tgt := 25) dX7_lostOnes_19 (by decide) (fun c19 => ?_) (fun c19 => ?_)
    · rw [if_neg c19] at h
      refine zS_iinc (v := x2 + (1 : Int32)) (ls' := [some (zO 2), some (zI x1), some (zI (x2 + (1 : Int32)))]) dX7_lostOnes_25 rfl rfl (by decide) rfl rfl ?_
      refine zS_goto (tgt := 4) dX7_lostOnes_28 (by decide) ?_
      exact zS_wk [some (zO 2), some (zI x1), some (zI (x2 + (1 : Int32)))] (And.intro rfl (And.intro rfl (And.intro rfl trivial))) (ih x1 (x2 + (1 : Int32)) r h)
    · rw [if_pos c19] at h
      refine zS_iinc (v := x1 + (1 : Int32)) (ls' := [some (zO 2), some (zI (x1 + (1 : Int32))), some (zI x2)]) dX7_lostOnes_22 rfl rfl (by decide) rfl rfl ?_
      refine zS_iinc (v := x2 + (1 : Int32)) (ls' := [some (zO 2), some (zI (x1 + (1 : Int32))), some (zI (x2 + (1 : Int32)))]) dX7_lostOnes_25 rfl rfl (by decide) rfl rfl ?_
      refine zS_goto (tgt := 4) dX7_lostOnes_28 (by decide) ?_
      exact zS_wk [some (zO 2), some (zI (x1 + (1 : Int32))), some (zI (x2 + (1 : Int32)))] (And.intro rfl (And.intro rfl (And.intro rfl trivial))) (ih (x1 + (1 : Int32)) (x2 + (1 : Int32)) r h)
def p_X7_lostOnes (M : zM) : Option (Int32) :=
  p_X7_lostOnes_4 M 5000 (0 : Int32) (0 : Int32)
set_option maxRecDepth 20000 in
set_option maxHeartbeats 4000000 in
theorem zc_X7_lostOnes (M : zM) {r : Int32} (h : p_X7_lostOnes M = some r) : zS Y_X7_lostOnes 0 [some (zO 2), none, none] [] M (some r, M) := by
  rw [p_X7_lostOnes] at h
  refine zS_iconst (v := (0 : Int32)) dX7_lostOnes_0 (by decide) ?_
  refine zS_istore_n (ls' := [some (zO 2), some (zI (0 : Int32)), none]) dX7_lostOnes_1 rfl (by decide) rfl rfl ?_
  refine zS_iconst (v := (0 : Int32)) dX7_lostOnes_2 (by decide) ?_
  refine zS_istore_n (ls' := [some (zO 2), some (zI (0 : Int32)), some (zI (0 : Int32))]) dX7_lostOnes_3 rfl (by decide) rfl rfl ?_
  exact zS_wk [some (zO 2), some (zI (0 : Int32)), some (zI (0 : Int32))] (And.intro rfl (And.intro rfl (And.intro rfl trivial))) (zc_X7_lostOnes_4 M 5000 (0 : Int32) (0 : Int32) r h)
