def p_X2_become_10 (x1 : Int32) (x2 : Int32) (x3 : Int32) : Nat → Int32 → zM → Option (zM)
  | 0, _, _ => none
  | nn + 1, x4, M =>
  if x2 ≤ x4 then
    some M
  else
    if x1 < 0 ∨ 8 ≤ x1.toNatClampNeg then none else
    (p_X8_nibble x3 x4).bind fun r27 =>
    if x4 < 0 ∨ 4 ≤ x4.toNatClampNeg then none else
    p_X2_become_10 x1 x2 x3 nn (x4 + (1 : Int32)) (zset M (12 + x1.toNatClampNeg) x4.toNatClampNeg r27)
set_option maxRecDepth 20000 in
set_option maxHeartbeats 4000000 in
theorem zc_X2_become_10 (x1 : Int32) (x2 : Int32) (x3 : Int32) : ∀ (nn : Nat) (x4 : Int32) (M : zM) (r : zM), p_X2_become_10 x1 x2 x3 nn x4 M = some r → zS Y_X2_become 10 [some (zO 1), some (zI x1), some (zI x2), some (zI x3), some (zI x4)] [] M (none, r) := by
  intro nn
  induction nn with
  | zero => intro x4 M r h; cases h
  | succ nn ih =>
  intro x4 M r h
  rw [p_X2_become_10] at h
  refine zS_iload dX2_become_10 rfl ?_
  refine zS_iload_n dX2_become_12 rfl rfl ?_
  refine zS_icmp_ge (tgt := 37) dX2_become_13 (by decide) (fun c13 => ?_) (fun c13 => ?_)
  · rw [if_pos c13] at h
    cases h
    exact zS_return dX2_become_37
  · rw [if_neg c13] at h
    refine zS_aload_nO dX2_become_16 rfl rfl ?_
    refine gf_1_1 dX2_become_17 zw_4 ?_
    refine zS_iload_n dX2_become_20 rfl rfl ?_
    by_cases b21 : x1 < 0 ∨ 8 ≤ x1.toNatClampNeg
    · rw [if_pos b21] at h; cases h
    rw [if_neg b21] at h
    refine zS_aald lay_11 b21 dX2_become_21 ?_
    refine zS_iload dX2_become_22 rfl ?_
    refine zS_iload_n dX2_become_24 rfl rfl ?_
    refine zS_iload dX2_become_25 rfl ?_
    obtain ⟨r27, h27, h⟩ := zbind h
    refine zS_callN (as := [zI x3, zI x4]) (st := [zI x4, zA (12 + x1.toNatClampNeg) 4]) (ls0 := [some (zI x3), some (zI x4)]) dX2_become_27 okY_X8_nibble rfl rfl zw_2 nw_X2_30 np_X8_nibble (by decide) (Nat.le_of_ble_eq_true rfl) rfl (Nat.le_of_ble_eq_true rfl) (And.intro rfl (And.intro rfl trivial)) (zc_X8_nibble x3 x4 M h27) ?_
    by_cases b30 : x4 < 0 ∨ 4 ≤ x4.toNatClampNeg
    · rw [if_pos b30] at h; cases h
    rw [if_neg b30] at h
    refine zS_iast b30 dX2_become_30 ?_
    refine zS_iinc (v := x4 + (1 : Int32)) (ls' := [some (zO 1), some (zI x1), some (zI x2), some (zI x3), some (zI (x4 + (1 : Int32)))]) dX2_become_31 rfl rfl (by decide) rfl rfl ?_
    refine zS_goto (tgt := 10) dX2_become_34 (by decide) ?_
    exact zS_wk [some (zO 1), some (zI x1), some (zI x2), some (zI x3), some (zI (x4 + (1 : Int32)))] (And.intro rfl (And.intro rfl (And.intro rfl (And.intro rfl (And.intro rfl trivial))))) (ih (x4 + (1 : Int32)) (zset M (12 + x1.toNatClampNeg) x4.toNatClampNeg r27) r h)
def p_X2_become (x1 : Int32) (x2 : Int32) (x3 : Int32) (M : zM) : Option (zM) :=
  if x1 < 0 ∨ 8 ≤ x1.toNatClampNeg then none else
  p_X2_become_10 x1 x2 x3 5000 (0 : Int32) (zset M 10 x1.toNatClampNeg x2)
set_option maxRecDepth 20000 in
set_option maxHeartbeats 4000000 in
theorem zc_X2_become (x1 : Int32) (x2 : Int32) (x3 : Int32) (M : zM) {r : zM} (h : p_X2_become x1 x2 x3 M = some r) : zS Y_X2_become 0 [some (zO 1), some (zI x1), some (zI x2), some (zI x3), none] [] M (none, r) := by
  rw [p_X2_become] at h
  refine zS_aload_nO dX2_become_0 rfl rfl ?_
  refine gf_1_0 dX2_become_1 zw_5 ?_
  refine zS_iload_n dX2_become_4 rfl rfl ?_
  refine zS_iload_n dX2_become_5 rfl rfl ?_
  by_cases b6 : x1 < 0 ∨ 8 ≤ x1.toNatClampNeg
  · rw [if_pos b6] at h; cases h
  rw [if_neg b6] at h
  refine zS_iast b6 dX2_become_6 ?_
  refine zS_iconst (v := (0 : Int32)) dX2_become_7 (by decide) ?_
  refine zS_istore (ls' := [some (zO 1), some (zI x1), some (zI x2), some (zI x3), some (zI (0 : Int32))]) dX2_become_8 (by decide) rfl rfl ?_
  exact zS_wk [some (zO 1), some (zI x1), some (zI x2), some (zI x3), some (zI (0 : Int32))] (And.intro rfl (And.intro rfl (And.intro rfl (And.intro rfl (And.intro rfl trivial))))) (zc_X2_become_10 x1 x2 x3 5000 (0 : Int32) (zset M 10 x1.toNatClampNeg x2) r h)
def p_X2_repeatsGrace_2 (x1 : Int32) (M : zM) : Nat → Int32 → Option (Int32)
  | 0, _ => none
  | nn + 1, x2 =>
  if x1 < 0 ∨ 8 ≤ x1.toNatClampNeg then none else
  if (M 10 x1.toNatClampNeg) ≤ x2 then
    some (0 : Int32)
  else
    if x1 < 0 ∨ 8 ≤ x1.toNatClampNeg then none else
    if x2 < 0 ∨ 4 ≤ x2.toNatClampNeg then none else
    if x1 < 0 ∨ 8 ≤ x1.toNatClampNeg then none else
    if x2 - (1 : Int32) < 0 ∨ 4 ≤ (x2 - (1 : Int32)).toNatClampNeg then none else
    if (M (12 + x1.toNatClampNeg) x2.toNatClampNeg) = (M (12 + x1.toNatClampNeg) (x2 - (1 : Int32)).toNatClampNeg) then
      some (1 : Int32)
    else
      p_X2_repeatsGrace_2 x1 M nn (x2 + (1 : Int32))
set_option maxRecDepth 20000 in
set_option maxHeartbeats 4000000 in
theorem zc_X2_repeatsGrace_2 (x1 : Int32) (M : zM) : ∀ (nn : Nat) (x2 : Int32) (r : Int32), p_X2_repeatsGrace_2 x1 M nn x2 = some r → zS Y_X2_repeatsGrace 2 [some (zO 1), some (zI x1), some (zI x2)] [] M (some r, M) := by
  intro nn
  induction nn with
  | zero => intro x2 r h; cases h
  | succ nn ih =>
  intro x2 r h
  rw [p_X2_repeatsGrace_2] at h
  refine zS_iload_n dX2_repeatsGrace_2 rfl rfl ?_
  refine zS_aload_nO dX2_repeatsGrace_3 rfl rfl ?_
  refine gf_1_0 dX2_repeatsGrace_4 zw_5 ?_
  refine zS_iload_n dX2_repeatsGrace_7 rfl rfl ?_
  by_cases b8 : x1 < 0 ∨ 8 ≤ x1.toNatClampNeg
  · rw [if_pos b8] at h; cases h
  rw [if_neg b8] at h
  refine zS_iald b8 dX2_repeatsGrace_8 ?_
  refine zS_icmp_ge (tgt := 41) dX2_repeatsGrace_9 (by decide) (fun c9 => ?_) (fun c9 => ?_)
  · rw [if_pos c9] at h
    refine zS_iconst (v := (0 : Int32)) dX2_repeatsGrace_41 (by decide) ?_
    cases h
    exact zS_ireturn dX2_repeatsGrace_42 rfl rfl
  · rw [if_neg c9] at h
    refine zS_aload_nO dX2_repeatsGrace_12 rfl rfl ?_
    refine gf_1_1 dX2_repeatsGrace_13 zw_4 ?_
    refine zS_iload_n dX2_repeatsGrace_16 rfl rfl ?_
    by_cases b17 : x1 < 0 ∨ 8 ≤ x1.toNatClampNeg
    · rw [if_pos b17] at h; cases h
    rw [if_neg b17] at h
    refine zS_aald lay_11 b17 dX2_repeatsGrace_17 ?_
    refine zS_iload_n dX2_repeatsGrace_18 rfl rfl ?_
    by_cases b19 : x2 < 0 ∨ 4 ≤ x2.toNatClampNeg
    · rw [if_pos b19] at h; cases h
    rw [if_neg b19] at h
    refine zS_iald b19 dX2_repeatsGrace_19 ?_
    refine zS_aload_nO dX2_repeatsGrace_20 rfl rfl ?_
    refine gf_1_1 dX2_repeatsGrace_21 zw_4 ?_
    refine zS_iload_n dX2_repeatsGrace_24 rfl rfl ?_
    by_cases b25 : x1 < 0 ∨ 8 ≤ x1.toNatClampNeg
    · rw [if_pos b25] at h; cases h
    rw [if_neg b25] at h
    refine zS_aald lay_11 b25 dX2_repeatsGrace_25 ?_
    refine zS_iload_n dX2_repeatsGrace_26 rfl rfl ?_
    refine zS_iconst (v := (1 : Int32)) dX2_repeatsGrace_27 (by decide) ?_
    refine zS_isub dX2_repeatsGrace_28 ?_
    by_cases b29 : x2 - (1 : Int32) < 0 ∨ 4 ≤ (x2 - (1 : Int32)).toNatClampNeg
    · rw [if_pos b29] at h; cases h
    rw [if_neg b29] at h
    refine zS_iald b29 dX2_repeatsGrace_29 ?_
    refine zS_icmp_ne (tgt := 35) dX2_repeatsGrace_30 (by decide) (fun c30 => ?_) (fun c30 => ?_)
    · rw [if_neg c30] at h
      refine zS_iinc (v := x2 + (1 : Int32)) (ls' := [some (zO 1), some (zI x1), some (zI (x2 + (1 : Int32)))]) dX2_repeatsGrace_35 rfl rfl (by decide) rfl rfl ?_
      refine zS_goto (tgt := 2) dX2_repeatsGrace_38 (by decide) ?_
      exact zS_wk [some (zO 1), some (zI x1), some (zI (x2 + (1 : Int32)))] (And.intro rfl (And.intro rfl (And.intro rfl trivial))) (ih (x2 + (1 : Int32)) r h)
    · rw [if_pos c30] at h
      refine zS_iconst (v := (1 : Int32)) dX2_repeatsGrace_33 (by decide) ?_
      cases h
      exact zS_ireturn dX2_repeatsGrace_34 rfl rfl
def p_X2_repeatsGrace (x1 : Int32) (M : zM) : Option (Int32) :=
  p_X2_repeatsGrace_2 x1 M 5000 (1 : Int32)
set_option maxRecDepth 20000 in
set_option maxHeartbeats 4000000 in
theorem zc_X2_repeatsGrace (x1 : Int32) (M : zM) {r : Int32} (h : p_X2_repeatsGrace x1 M = some r) : zS Y_X2_repeatsGrace 0 [some (zO 1), some (zI x1), none] [] M (some r, M) := by
  rw [p_X2_repeatsGrace] at h
  refine zS_iconst (v := (1 : Int32)) dX2_repeatsGrace_0 (by decide) ?_
  refine zS_istore_n (ls' := [some (zO 1), some (zI x1), some (zI (1 : Int32))]) dX2_repeatsGrace_1 rfl (by decide) rfl rfl ?_
  exact zS_wk [some (zO 1), some (zI x1), some (zI (1 : Int32))] (And.intro rfl (And.intro rfl (And.intro rfl trivial))) (zc_X2_repeatsGrace_2 x1 M 5000 (1 : Int32) r h)
def p_X2_leadsTo_20 (x1 : Int32) (x2 : Int32) (M : zM) : Option (Int32) :=
  if x1 < 0 ∨ 8 ≤ x1.toNatClampNeg then none else
  if (M 10 x1.toNatClampNeg) = 0 then
    if x2 = (-1 : Int32) then
      if x1 < 0 ∨ 8 ≤ x1.toNatClampNeg then none else
      some (M 21 x1.toNatClampNeg)
    else
      if x1 < 0 ∨ 8 ≤ x1.toNatClampNeg then none else
      some ((M 21 x1.toNatClampNeg) &&& (((1 : Int32) <<< (x2 &&& 31)) ^^^ (-1 : Int32)))
  else
    if x1 < 0 ∨ 8 ≤ x1.toNatClampNeg then none else
    if x2 = (M (12 + x1.toNatClampNeg) (0 : Int32).toNatClampNeg) then
      some (0 : Int32)
    else
      (p_X2_repeatsGrace x1 M).bind fun r72 =>
      if r72 = 0 then
        if x1 < 0 ∨ 8 ≤ x1.toNatClampNeg then none else
        if x1 < 0 ∨ 8 ≤ x1.toNatClampNeg then none else
        if (M 10 x1.toNatClampNeg) - (1 : Int32) < 0 ∨ 4 ≤ ((M 10 x1.toNatClampNeg) - (1 : Int32)).toNatClampNeg then none else
        some ((M 21 x1.toNatClampNeg) &&& (((1 : Int32) <<< ((M (12 + x1.toNatClampNeg) ((M 10 x1.toNatClampNeg) - (1 : Int32)).toNatClampNeg) &&& 31)) ^^^ (-1 : Int32)))
      else
        some (0 : Int32)
set_option maxRecDepth 20000 in
set_option maxHeartbeats 4000000 in
theorem zc_X2_leadsTo_20 (x1 : Int32) (x2 : Int32) (M : zM) {r : Int32} (h : p_X2_leadsTo_20 x1 x2 M = some r) : zS Y_X2_leadsTo 20 [some (zO 1), some (zI x1), some (zI x2), none] [] M (some r, M) := by
  rw [p_X2_leadsTo_20] at h
  refine zS_aload_nO dX2_leadsTo_20 rfl rfl ?_
  refine gf_1_0 dX2_leadsTo_21 zw_5 ?_
  refine zS_iload_n dX2_leadsTo_24 rfl rfl ?_
  by_cases b25 : x1 < 0 ∨ 8 ≤ x1.toNatClampNeg
  · rw [if_pos b25] at h; cases h
  rw [if_neg b25] at h
  refine zS_iald b25 dX2_leadsTo_25 ?_
  refine zS_istore_n (ls' := [some (zO 1), some (zI x1), some (zI x2), some (zI (M 10 x1.toNatClampNeg))]) dX2_leadsTo_26 rfl (by decide) rfl rfl ?_
  refine zS_iload_n dX2_leadsTo_27 rfl rfl ?_
  refine zS_if_ne (tgt := 58) dX2_leadsTo_28 (by decide) (fun c28 => ?_) (fun c28 => ?_)
  · rw [if_neg c28] at h
    refine zS_iload_n dX2_leadsTo_58 rfl rfl ?_
    refine zS_aload_nO dX2_leadsTo_59 rfl rfl ?_
    refine gf_1_1 dX2_leadsTo_60 zw_4 ?_
    refine zS_iload_n dX2_leadsTo_63 rfl rfl ?_
    by_cases b64 : x1 < 0 ∨ 8 ≤ x1.toNatClampNeg
    · rw [if_pos b64] at h; cases h
    rw [if_neg b64] at h
    refine zS_aald lay_11 b64 dX2_leadsTo_64 ?_
    refine zS_iconst (v := (0 : Int32)) dX2_leadsTo_65 (by decide) ?_
    refine zS_iald (by decide) dX2_leadsTo_66 ?_
    refine zS_icmp_eq (tgt := 78) dX2_leadsTo_67 (by decide) (fun c67 => ?_) (fun c67 => ?_)
    · rw [if_pos c67] at h
      refine zS_iconst (v := (0 : Int32)) dX2_leadsTo_78 (by decide) ?_
      cases h
      exact zS_ireturn dX2_leadsTo_79 rfl rfl
    · rw [if_neg c67] at h
      refine zS_aload_nO dX2_leadsTo_70 rfl rfl ?_
      refine zS_iload_n dX2_leadsTo_71 rfl rfl ?_
      obtain ⟨r72, h72, h⟩ := zbind h
      refine zS_callV (as := [zI x1]) (st := []) (ls0 := [some (zO 1), some (zI x1), none]) dX2_leadsTo_72 okY_X2_repeatsGrace rfl rfl lay_1 rfl zw_19 zw_20 zw_21 np_X2_repeatsGrace (by decide) (Nat.le_of_ble_eq_true rfl) rfl (Nat.le_of_ble_eq_true rfl) (And.intro rfl (And.intro rfl trivial)) (zc_X2_repeatsGrace x1 M h72) ?_
      refine zS_if_eq (tgt := 80) dX2_leadsTo_75 (by decide) (fun c75 => ?_) (fun c75 => ?_)
      · rw [if_pos c75] at h
        refine zS_aload_nO dX2_leadsTo_80 rfl rfl ?_
        refine gf_1_3 dX2_leadsTo_81 zw_22 ?_
        refine zS_iload_n dX2_leadsTo_84 rfl rfl ?_
        by_cases b85 : x1 < 0 ∨ 8 ≤ x1.toNatClampNeg
        · rw [if_pos b85] at h; cases h
        rw [if_neg b85] at h
        refine zS_iald b85 dX2_leadsTo_85 ?_
        refine zS_iconst (v := (1 : Int32)) dX2_leadsTo_86 (by decide) ?_
        refine zS_aload_nO dX2_leadsTo_87 rfl rfl ?_
        refine gf_1_1 dX2_leadsTo_88 zw_4 ?_
        refine zS_iload_n dX2_leadsTo_91 rfl rfl ?_
        by_cases b92 : x1 < 0 ∨ 8 ≤ x1.toNatClampNeg
        · rw [if_pos b92] at h; cases h
        rw [if_neg b92] at h
        refine zS_aald lay_11 b92 dX2_leadsTo_92 ?_
        refine zS_iload_n dX2_leadsTo_93 rfl rfl ?_
        refine zS_iconst (v := (1 : Int32)) dX2_leadsTo_94 (by decide) ?_
        refine zS_isub dX2_leadsTo_95 ?_
        by_cases b96 : (M 10 x1.toNatClampNeg) - (1 : Int32) < 0 ∨ 4 ≤ ((M 10 x1.toNatClampNeg) - (1 : Int32)).toNatClampNeg
        · rw [if_pos b96] at h; cases h
        rw [if_neg b96] at h
        refine zS_iald b96 dX2_leadsTo_96 ?_
        refine zS_ishl dX2_leadsTo_97 ?_
        refine zS_iconst (v := (-1 : Int32)) dX2_leadsTo_98 (by decide) ?_
        refine zS_ixor dX2_leadsTo_99 ?_
        refine zS_iand dX2_leadsTo_100 ?_
        cases h
        exact zS_ireturn dX2_leadsTo_101 rfl rfl
      · rw [if_neg c75] at h
        refine zS_iconst (v := (0 : Int32)) dX2_leadsTo_78 (by decide) ?_
        cases h
        exact zS_ireturn dX2_leadsTo_79 rfl rfl
  · rw [if_pos c28] at h
    refine zS_iload_n dX2_leadsTo_31 rfl rfl ?_
    refine zS_iconst (v := (-1 : Int32)) dX2_leadsTo_32 (by decide) ?_
    refine zS_icmp_ne (tgt := 45) dX2_leadsTo_33 (by decide) (fun c33 => ?_) (fun c33 => ?_)
    · rw [if_neg c33] at h
      refine zS_aload_nO dX2_leadsTo_45 rfl rfl ?_
      refine gf_1_3 dX2_leadsTo_46 zw_22 ?_
      refine zS_iload_n dX2_leadsTo_49 rfl rfl ?_
      by_cases b50 : x1 < 0 ∨ 8 ≤ x1.toNatClampNeg
      · rw [if_pos b50] at h; cases h
      rw [if_neg b50] at h
      refine zS_iald b50 dX2_leadsTo_50 ?_
      refine zS_iconst (v := (1 : Int32)) dX2_leadsTo_51 (by decide) ?_
      refine zS_iload_n dX2_leadsTo_52 rfl rfl ?_
      refine zS_ishl dX2_leadsTo_53 ?_
      refine zS_iconst (v := (-1 : Int32)) dX2_leadsTo_54 (by decide) ?_
      refine zS_ixor dX2_leadsTo_55 ?_
      refine zS_iand dX2_leadsTo_56 ?_
      cases h
      exact zS_ireturn dX2_leadsTo_57 rfl rfl
    · rw [if_pos c33] at h
      refine zS_aload_nO dX2_leadsTo_36 rfl rfl ?_
      refine gf_1_3 dX2_leadsTo_37 zw_22 ?_
      refine zS_iload_n dX2_leadsTo_40 rfl rfl ?_
      by_cases b41 : x1 < 0 ∨ 8 ≤ x1.toNatClampNeg
      · rw [if_pos b41] at h; cases h
      rw [if_neg b41] at h
      refine zS_iald b41 dX2_leadsTo_41 ?_
      refine zS_goto (tgt := 57) dX2_leadsTo_42 (by decide) ?_
      cases h
      exact zS_ireturn dX2_leadsTo_57 rfl rfl
def p_X2_leadsTo (x1 : Int32) (x2 : Int32) (M : zM) : Option (Int32) :=
  if x2 = (-1 : Int32) then
    p_X2_leadsTo_20 x1 x2 M
  else
    if x1 < 0 ∨ 8 ≤ x1.toNatClampNeg then none else
    (p_X8_hasBit (M 20 x1.toNatClampNeg) x2).bind fun r12 =>
    if r12 = 0 then
      some (0 : Int32)
    else
      p_X2_leadsTo_20 x1 x2 M
set_option maxRecDepth 20000 in
set_option maxHeartbeats 4000000 in
theorem zc_X2_leadsTo (x1 : Int32) (x2 : Int32) (M : zM) {r : Int32} (h : p_X2_leadsTo x1 x2 M = some r) : zS Y_X2_leadsTo 0 [some (zO 1), some (zI x1), some (zI x2), none] [] M (some r, M) := by
  rw [p_X2_leadsTo] at h
  refine zS_iload_n dX2_leadsTo_0 rfl rfl ?_
  refine zS_iconst (v := (-1 : Int32)) dX2_leadsTo_1 (by decide) ?_
  refine zS_icmp_eq (tgt := 20) dX2_leadsTo_2 (by decide) (fun c2 => ?_) (fun c2 => ?_)
  · rw [if_pos c2] at h
    exact zS_wk [some (zO 1), some (zI x1), some (zI x2), none] (And.intro rfl (And.intro rfl (And.intro rfl trivial))) (zc_X2_leadsTo_20 x1 x2 M h)
  · rw [if_neg c2] at h
    refine zS_aload_nO dX2_leadsTo_5 rfl rfl ?_
    refine gf_1_2 dX2_leadsTo_6 zw_23 ?_
    refine zS_iload_n dX2_leadsTo_9 rfl rfl ?_
    by_cases b10 : x1 < 0 ∨ 8 ≤ x1.toNatClampNeg
    · rw [if_pos b10] at h; cases h
    rw [if_neg b10] at h
    refine zS_iald b10 dX2_leadsTo_10 ?_
    refine zS_iload_n dX2_leadsTo_11 rfl rfl ?_
    obtain ⟨r12, h12, h⟩ := zbind h
    refine zS_callN (as := [zI (M 20 x1.toNatClampNeg), zI x2]) (st := []) (ls0 := [some (zI (M 20 x1.toNatClampNeg)), some (zI x2)]) dX2_leadsTo_12 okY_X8_hasBit rfl rfl zw_24 nw_X2_34 np_X8_hasBit (by decide) (Nat.le_of_ble_eq_true rfl) rfl (Nat.le_of_ble_eq_true rfl) (And.intro rfl (And.intro rfl trivial)) (zc_X8_hasBit (M 20 x1.toNatClampNeg) x2 M h12) ?_
    refine zS_if_ne (tgt := 20) dX2_leadsTo_15 (by decide) (fun c15 => ?_) (fun c15 => ?_)
    · rw [if_neg c15] at h
      exact zS_wk [some (zO 1), some (zI x1), some (zI x2), none] (And.intro rfl (And.intro rfl (And.intro rfl trivial))) (zc_X2_leadsTo_20 x1 x2 M h)
    · rw [if_pos c15] at h
      refine zS_iconst (v := (0 : Int32)) dX2_leadsTo_18 (by decide) ?_
      cases h
      exact zS_ireturn dX2_leadsTo_19 rfl rfl
def p_X2_joins (x1 : Int32) (x2 : Int32) (x3 : Int32) (M : zM) : Option (Int32) :=
  (p_X2_leadsTo x1 x2 M).bind fun r3 =>
  (p_X8_hasBit r3 x3).bind fun r7 =>
  if r7 = 0 ∨ r7 = 1 then
  some r7
  else none
set_option maxRecDepth 20000 in
set_option maxHeartbeats 4000000 in
theorem zc_X2_joins (x1 : Int32) (x2 : Int32) (x3 : Int32) (M : zM) {r : Int32} (h : p_X2_joins x1 x2 x3 M = some r) : zS Y_X2_joins 0 [some (zO 1), some (zI x1), some (zI x2), some (zI x3)] [] M (some r, M) := by
  rw [p_X2_joins] at h
  refine zS_aload_nO dX2_joins_0 rfl rfl ?_
  refine zS_iload_n dX2_joins_1 rfl rfl ?_
  refine zS_iload_n dX2_joins_2 rfl rfl ?_
  obtain ⟨r3, h3, h⟩ := zbind h
  refine zS_callV (as := [zI x1, zI x2]) (st := []) (ls0 := [some (zO 1), some (zI x1), some (zI x2), none]) dX2_joins_3 okY_X2_leadsTo rfl rfl lay_1 rfl zw_25 zw_26 zw_27 np_X2_leadsTo (by decide) (Nat.le_of_ble_eq_true rfl) rfl (Nat.le_of_ble_eq_true rfl) (And.intro rfl (And.intro rfl (And.intro rfl trivial))) (zc_X2_leadsTo x1 x2 M h3) ?_
  refine zS_iload_n dX2_joins_6 rfl rfl ?_
  obtain ⟨r7, h7, h⟩ := zbind h
  refine zS_callN (as := [zI r3, zI x3]) (st := []) (ls0 := [some (zI r3), some (zI x3)]) dX2_joins_7 okY_X8_hasBit rfl rfl zw_24 nw_X2_34 np_X8_hasBit (by decide) (Nat.le_of_ble_eq_true rfl) rfl (Nat.le_of_ble_eq_true rfl) (And.intro rfl (And.intro rfl trivial)) (zc_X8_hasBit r3 x3 M h7) ?_
  by_cases z10 : r7 = 0 ∨ r7 = 1
  rotate_left
  · rw [if_neg z10] at h; cases h
  rw [if_pos z10] at h
  cases h
  exact zS_ireturn dX2_joins_10 rfl (zbool z10)
def p_X2_leavesTime (x1 : Int32) (x2 : Int32) (M : zM) : Option (Int32) :=
  if x1 < 0 ∨ 8 ≤ x1.toNatClampNeg then none else
  if x2 ≤ ((M 1 4) * (M 10 x1.toNatClampNeg)) then
    some (0 : Int32)
  else
    some (1 : Int32)
set_option maxRecDepth 20000 in
set_option maxHeartbeats 4000000 in
theorem zc_X2_leavesTime (x1 : Int32) (x2 : Int32) (M : zM) {r : Int32} (h : p_X2_leavesTime x1 x2 M = some r) : zS Y_X2_leavesTime 0 [some (zO 1), some (zI x1), some (zI x2)] [] M (some r, M) := by
  rw [p_X2_leavesTime] at h
  refine zS_iload_n dX2_leavesTime_0 rfl rfl ?_
  refine zS_aload_nO dX2_leavesTime_1 rfl rfl ?_
  refine gf_1_4 dX2_leavesTime_2 zw_48 ?_
  refine zS_aload_nO dX2_leavesTime_5 rfl rfl ?_
  refine gf_1_0 dX2_leavesTime_6 zw_5 ?_
  refine zS_iload_n dX2_leavesTime_9 rfl rfl ?_
  by_cases b10 : x1 < 0 ∨ 8 ≤ x1.toNatClampNeg
  · rw [if_pos b10] at h; cases h
  rw [if_neg b10] at h
  refine zS_iald b10 dX2_leavesTime_10 ?_
  refine zS_imul dX2_leavesTime_11 ?_
  refine zS_icmp_le (tgt := 19) dX2_leavesTime_12 (by decide) (fun c12 => ?_) (fun c12 => ?_)
  · rw [if_pos c12] at h
    refine zS_iconst (v := (0 : Int32)) dX2_leavesTime_19 (by decide) ?_
    cases h
    exact zS_ireturn dX2_leavesTime_20 rfl rfl
  · rw [if_neg c12] at h
    refine zS_iconst (v := (1 : Int32)) dX2_leavesTime_15 (by decide) ?_
    refine zS_goto (tgt := 20) dX2_leavesTime_16 (by decide) ?_
    cases h
    exact zS_ireturn dX2_leavesTime_20 rfl rfl
