def p_X4_become_10 (x1 : Int32) (x2 : Int32) (x3 : Int32) : Nat → Int32 → zM → Option (zM)
  | 0, _, _ => none
  | nn + 1, x4, M =>
  if x2 ≤ x4 then
    some M
  else
    if x1 < 0 ∨ 5 ≤ x1.toNatClampNeg then none else
    (p_X8_nibble x3 x4).bind fun r27 =>
    if x4 < 0 ∨ 4 ≤ x4.toNatClampNeg then none else
    p_X4_become_10 x1 x2 x3 nn (x4 + (1 : Int32)) (zset M (39 + x1.toNatClampNeg) x4.toNatClampNeg r27)
set_option maxRecDepth 20000 in
set_option maxHeartbeats 4000000 in
theorem zc_X4_become_10 (x1 : Int32) (x2 : Int32) (x3 : Int32) : ∀ (nn : Nat) (x4 : Int32) (M : zM) (r : zM), p_X4_become_10 x1 x2 x3 nn x4 M = some r → zS Y_X4_become 10 [some (zO 4), some (zI x1), some (zI x2), some (zI x3), some (zI x4)] [] M (none, r) := by
  intro nn
  induction nn with
  | zero => intro x4 M r h; cases h
  | succ nn ih =>
  intro x4 M r h
  rw [p_X4_become_10] at h
  refine zS_iload dX4_become_10 rfl ?_
  refine zS_iload_n dX4_become_12 rfl rfl ?_
  refine zS_icmp_ge (tgt := 37) dX4_become_13 (by decide) (fun c13 => ?_) (fun c13 => ?_)
  · rw [if_pos c13] at h
    cases h
    exact zS_return dX4_become_37
  · rw [if_neg c13] at h
    refine zS_aload_nO dX4_become_16 rfl rfl ?_
    refine gf_4_1 dX4_become_17 zw_146 ?_
    refine zS_iload_n dX4_become_20 rfl rfl ?_
    by_cases b21 : x1 < 0 ∨ 5 ≤ x1.toNatClampNeg
    · rw [if_pos b21] at h; cases h
    rw [if_neg b21] at h
    refine zS_aald lay_38 b21 dX4_become_21 ?_
    refine zS_iload dX4_become_22 rfl ?_
    refine zS_iload_n dX4_become_24 rfl rfl ?_
    refine zS_iload dX4_become_25 rfl ?_
    obtain ⟨r27, h27, h⟩ := zbind h
    refine zS_callN (as := [zI x3, zI x4]) (st := [zI x4, zA (39 + x1.toNatClampNeg) 4]) (ls0 := [some (zI x3), some (zI x4)]) dX4_become_27 okY_X8_nibble rfl rfl zw_2 nw_X4_20 np_X8_nibble (by decide) (Nat.le_of_ble_eq_true rfl) rfl (Nat.le_of_ble_eq_true rfl) (And.intro rfl (And.intro rfl trivial)) (zc_X8_nibble x3 x4 M h27) ?_
    by_cases b30 : x4 < 0 ∨ 4 ≤ x4.toNatClampNeg
    · rw [if_pos b30] at h; cases h
    rw [if_neg b30] at h
    refine zS_iast b30 dX4_become_30 ?_
    refine zS_iinc (v := x4 + (1 : Int32)) (ls' := [some (zO 4), some (zI x1), some (zI x2), some (zI x3), some (zI (x4 + (1 : Int32)))]) dX4_become_31 rfl rfl (by decide) rfl rfl ?_
    refine zS_goto (tgt := 10) dX4_become_34 (by decide) ?_
    exact zS_wk [some (zO 4), some (zI x1), some (zI x2), some (zI x3), some (zI (x4 + (1 : Int32)))] (And.intro rfl (And.intro rfl (And.intro rfl (And.intro rfl (And.intro rfl trivial))))) (ih (x4 + (1 : Int32)) (zset M (39 + x1.toNatClampNeg) x4.toNatClampNeg r27) r h)
def p_X4_become (x1 : Int32) (x2 : Int32) (x3 : Int32) (M : zM) : Option (zM) :=
  if x1 < 0 ∨ 5 ≤ x1.toNatClampNeg then none else
  p_X4_become_10 x1 x2 x3 5000 (0 : Int32) (zset M 37 x1.toNatClampNeg x2)
set_option maxRecDepth 20000 in
set_option maxHeartbeats 4000000 in
theorem zc_X4_become (x1 : Int32) (x2 : Int32) (x3 : Int32) (M : zM) {r : zM} (h : p_X4_become x1 x2 x3 M = some r) : zS Y_X4_become 0 [some (zO 4), some (zI x1), some (zI x2), some (zI x3), none] [] M (none, r) := by
  rw [p_X4_become] at h
  refine zS_aload_nO dX4_become_0 rfl rfl ?_
  refine gf_4_0 dX4_become_1 zw_147 ?_
  refine zS_iload_n dX4_become_4 rfl rfl ?_
  refine zS_iload_n dX4_become_5 rfl rfl ?_
  by_cases b6 : x1 < 0 ∨ 5 ≤ x1.toNatClampNeg
  · rw [if_pos b6] at h; cases h
  rw [if_neg b6] at h
  refine zS_iast b6 dX4_become_6 ?_
  refine zS_iconst (v := (0 : Int32)) dX4_become_7 (by decide) ?_
  refine zS_istore (ls' := [some (zO 4), some (zI x1), some (zI x2), some (zI x3), some (zI (0 : Int32))]) dX4_become_8 (by decide) rfl rfl ?_
  exact zS_wk [some (zO 4), some (zI x1), some (zI x2), some (zI x3), some (zI (0 : Int32))] (And.intro rfl (And.intro rfl (And.intro rfl (And.intro rfl (And.intro rfl trivial))))) (zc_X4_become_10 x1 x2 x3 5000 (0 : Int32) (zset M 37 x1.toNatClampNeg x2) r h)
def p_X1_append (x1 : Int32) (M : zM) : Option (Int32 × zM) :=
  if M 5 2 < 0 ∨ 16 ≤ (M 5 2).toNatClampNeg then none else
  some ((zset (zset M 44 ((M 5 2).toNatClampNeg) x1) 5 2 (((zset M 44 ((M 5 2).toNatClampNeg) x1) 5 2) + (1 : Int32))) 5 2, zset (zset M 44 ((M 5 2).toNatClampNeg) x1) 5 2 (((zset M 44 ((M 5 2).toNatClampNeg) x1) 5 2) + (1 : Int32)))
set_option maxRecDepth 20000 in
set_option maxHeartbeats 4000000 in
theorem zc_X1_append (x1 : Int32) (M : zM) {r : Int32 × zM} (h : p_X1_append x1 M = some r) : zS Y_X1_append 0 [some (zO 5), some (zI x1)] [] M (some r.1, r.2) := by
  rw [p_X1_append] at h
  refine zS_aload_nO dX1_append_0 rfl rfl ?_
  refine gf_5_1 dX1_append_1 zw_158 ?_
  refine zS_aload_nO dX1_append_4 rfl rfl ?_
  refine gf_5_2 dX1_append_5 zw_159 ?_
  refine zS_iload_n dX1_append_8 rfl rfl ?_
  by_cases b9 : M 5 2 < 0 ∨ 16 ≤ (M 5 2).toNatClampNeg
  · rw [if_pos b9] at h; cases h
  rw [if_neg b9] at h
  refine zS_iast b9 dX1_append_9 ?_
  refine zS_aload_nO dX1_append_10 rfl rfl ?_
  refine zS_dup dX1_append_11 rfl ?_
  refine gf_5_2 dX1_append_12 zw_159 ?_
  refine zS_iconst (v := (1 : Int32)) dX1_append_15 (by decide) ?_
  refine zS_iadd dX1_append_16 ?_
  refine pf_5_2 dX1_append_17 zw_159 ?_
  refine zS_aload_nO dX1_append_20 rfl rfl ?_
  refine gf_5_2 dX1_append_21 zw_159 ?_
  cases h
  exact zS_ireturn dX1_append_24 rfl rfl
def p_X4_sourceOf (x0 : Int32) (x1 : Int32) (x2 : Int32) : Option (Int32) :=
  if x0 = (9 : Int32) then
    some ((16 : Int32) + x1)
  else
    if x0 = (10 : Int32) then
      if x2 ≤ (x1 + (1 : Int32)) then
        some ((16 : Int32) + (0 : Int32))
      else
        some ((16 : Int32) + (x1 + (1 : Int32)))
    else
      some x0
set_option maxRecDepth 20000 in
set_option maxHeartbeats 4000000 in
theorem zc_X4_sourceOf (x0 : Int32) (x1 : Int32) (x2 : Int32) (M : zM) {r : Int32} (h : p_X4_sourceOf x0 x1 x2 = some r) : zS Y_X4_sourceOf 0 [some (zI x0), some (zI x1), some (zI x2)] [] M (some r, M) := by
  rw [p_X4_sourceOf] at h
  refine zS_iload_n dX4_sourceOf_0 rfl rfl ?_
  refine zS_bipush (v := (9 : Int32)) dX4_sourceOf_1 (by decide) ?_
  refine zS_icmp_ne (tgt := 11) dX4_sourceOf_3 (by decide) (fun c3 => ?_) (fun c3 => ?_)
  · rw [if_neg c3] at h
    refine zS_iload_n dX4_sourceOf_11 rfl rfl ?_
    refine zS_bipush (v := (10 : Int32)) dX4_sourceOf_12 (by decide) ?_
    refine zS_icmp_ne (tgt := 35) dX4_sourceOf_14 (by decide) (fun c14 => ?_) (fun c14 => ?_)
    · rw [if_neg c14] at h
      refine zS_iload_n dX4_sourceOf_35 rfl rfl ?_
      cases h
      exact zS_ireturn dX4_sourceOf_36 rfl rfl
    · rw [if_pos c14] at h
      refine zS_bipush (v := (16 : Int32)) dX4_sourceOf_17 (by decide) ?_
      refine zS_iload_n dX4_sourceOf_19 rfl rfl ?_
      refine zS_iconst (v := (1 : Int32)) dX4_sourceOf_20 (by decide) ?_
      refine zS_iadd dX4_sourceOf_21 ?_
      refine zS_iload_n dX4_sourceOf_22 rfl rfl ?_
      refine zS_icmp_ge (tgt := 32) dX4_sourceOf_23 (by decide) (fun c23 => ?_) (fun c23 => ?_)
      · rw [if_pos c23] at h
        refine zS_iconst (v := (0 : Int32)) dX4_sourceOf_32 (by decide) ?_
        refine zS_iadd dX4_sourceOf_33 ?_
        cases h
        exact zS_ireturn dX4_sourceOf_34 rfl rfl
      · rw [if_neg c23] at h
        refine zS_iload_n dX4_sourceOf_26 rfl rfl ?_
        refine zS_iconst (v := (1 : Int32)) dX4_sourceOf_27 (by decide) ?_
        refine zS_iadd dX4_sourceOf_28 ?_
        refine zS_goto (tgt := 33) dX4_sourceOf_29 (by decide) ?_
        refine zS_iadd dX4_sourceOf_33 ?_
        cases h
        exact zS_ireturn dX4_sourceOf_34 rfl rfl
  · rw [if_pos c3] at h
    refine zS_bipush (v := (16 : Int32)) dX4_sourceOf_6 (by decide) ?_
    refine zS_iload_n dX4_sourceOf_8 rfl rfl ?_
    refine zS_iadd dX4_sourceOf_9 ?_
    cases h
    exact zS_ireturn dX4_sourceOf_10 rfl rfl
def p_X4_source_36 (k7 : Int32 → Int32 → Option (Int32)) (x1 : Int32) (x2 : Int32) (x3 : Int32) (x5 : Int32) (x6 : Int32) (x7 : Int32) (t0 : Int32) (M : zM) : Option (Int32) :=
  if t0 ≤ x5 then
    k7 (x5 - t0) (x6 + (1 : Int32))
  else
    if x7 = 0 then
      if x1 < 0 ∨ 5 ≤ x1.toNatClampNeg then none else
      if x5 < 0 ∨ 4 ≤ x5.toNatClampNeg then none else
      (p_X4_sourceOf (M (39 + x1.toNatClampNeg) x5.toNatClampNeg) x6 x2).bind fun r67 =>
      some r67
    else
      (p_X4_sourceOf (9 : Int32) x6 x2).bind fun r67 =>
      some r67
set_option maxRecDepth 20000 in
set_option maxHeartbeats 4000000 in
theorem zc_X4_source_36 {k7 : Int32 → Int32 → Option (Int32)} (x1 : Int32) (x2 : Int32) (x3 : Int32) (x5 : Int32) (x6 : Int32) (x7 : Int32) (t0 : Int32) (M : zM) (hk7 : ∀ (x5 : Int32) (x6 : Int32) (r : Int32), k7 x5 x6 = some r → zS Y_X4_source 7 [some (zO 4), some (zI x1), some (zI x2), some (zI x3), none, some (zI x5), some (zI x6), none, none] [] M (some r, M)) {r : Int32} (h : p_X4_source_36 k7 x1 x2 x3 x5 x6 x7 t0 M = some r) : zS Y_X4_source 36 [some (zO 4), some (zI x1), some (zI x2), some (zI x3), none, some (zI x5), some (zI x6), some (zI x7), none] [zI t0] M (some r, M) := by
  rw [p_X4_source_36] at h
  refine zS_istore (ls' := [some (zO 4), some (zI x1), some (zI x2), some (zI x3), none, some (zI x5), some (zI x6), some (zI x7), some (zI t0)]) dX4_source_36 (by decide) rfl rfl ?_
  refine zS_iload dX4_source_38 rfl ?_
  refine zS_iload dX4_source_40 rfl ?_
  refine zS_icmp_ge (tgt := 71) dX4_source_42 (by decide) (fun c42 => ?_) (fun c42 => ?_)
  · rw [if_pos c42] at h
    refine zS_iload dX4_source_71 rfl ?_
    refine zS_iload dX4_source_73 rfl ?_
    refine zS_isub dX4_source_75 ?_
    refine zS_istore (ls' := [some (zO 4), some (zI x1), some (zI x2), some (zI x3), none, some (zI (x5 - t0)), some (zI x6), some (zI x7), some (zI t0)]) dX4_source_76 (by decide) rfl rfl ?_
    refine zS_iinc (v := x6 + (1 : Int32)) (ls' := [some (zO 4), some (zI x1), some (zI x2), some (zI x3), none, some (zI (x5 - t0)), some (zI (x6 + (1 : Int32))), some (zI x7), some (zI t0)]) dX4_source_78 rfl rfl (by decide) rfl rfl ?_
    refine zS_goto (tgt := 7) dX4_source_81 (by decide) ?_
    exact zS_wk [some (zO 4), some (zI x1), some (zI x2), some (zI x3), none, some (zI (x5 - t0)), some (zI (x6 + (1 : Int32))), none, none] (And.intro rfl (And.intro rfl (And.intro rfl (And.intro rfl (And.intro rfl (And.intro rfl trivial)))))) (hk7 (x5 - t0) (x6 + (1 : Int32)) r h)
  · rw [if_neg c42] at h
    refine zS_iload dX4_source_45 rfl ?_
    refine zS_if_eq (tgt := 55) dX4_source_47 (by decide) (fun c47 => ?_) (fun c47 => ?_)
    · rw [if_pos c47] at h
      refine zS_aload_nO dX4_source_55 rfl rfl ?_
      refine gf_4_1 dX4_source_56 zw_146 ?_
      refine zS_iload_n dX4_source_59 rfl rfl ?_
      by_cases b60 : x1 < 0 ∨ 5 ≤ x1.toNatClampNeg
      · rw [if_pos b60] at h; cases h
      rw [if_neg b60] at h
      refine zS_aald lay_38 b60 dX4_source_60 ?_
      refine zS_iload dX4_source_61 rfl ?_
      by_cases b63 : x5 < 0 ∨ 4 ≤ x5.toNatClampNeg
      · rw [if_pos b63] at h; cases h
      rw [if_neg b63] at h
      refine zS_iald b63 dX4_source_63 ?_
      refine zS_iload dX4_source_64 rfl ?_
      refine zS_iload_n dX4_source_66 rfl rfl ?_
      obtain ⟨r67, h67, h⟩ := zbind h
      refine zS_callS (as := [zI (M (39 + x1.toNatClampNeg) x5.toNatClampNeg), zI x6, zI x2]) (st := []) (ls0 := [some (zI (M (39 + x1.toNatClampNeg) x5.toNatClampNeg)), some (zI x6), some (zI x2)]) dX4_source_67 okY_X4_sourceOf rfl rfl zw_165 zw_166 np_X4_sourceOf (by decide) (Nat.le_of_ble_eq_true rfl) rfl (Nat.le_of_ble_eq_true rfl) (And.intro rfl (And.intro rfl (And.intro rfl trivial))) (zc_X4_sourceOf (M (39 + x1.toNatClampNeg) x5.toNatClampNeg) x6 x2 M h67) ?_
      cases h
      exact zS_ireturn dX4_source_70 rfl rfl
    · rw [if_neg c47] at h
      refine zS_bipush (v := (9 : Int32)) dX4_source_50 (by decide) ?_
      refine zS_goto (tgt := 64) dX4_source_52 (by decide) ?_
      refine zS_iload dX4_source_64 rfl ?_
      refine zS_iload_n dX4_source_66 rfl rfl ?_
      obtain ⟨r67, h67, h⟩ := zbind h
      refine zS_callS (as := [zI (9 : Int32), zI x6, zI x2]) (st := []) (ls0 := [some (zI (9 : Int32)), some (zI x6), some (zI x2)]) dX4_source_67 okY_X4_sourceOf rfl rfl zw_165 zw_166 np_X4_sourceOf (by decide) (Nat.le_of_ble_eq_true rfl) rfl (Nat.le_of_ble_eq_true rfl) (And.intro rfl (And.intro rfl (And.intro rfl trivial))) (zc_X4_sourceOf (9 : Int32) x6 x2 M h67) ?_
      cases h
      exact zS_ireturn dX4_source_70 rfl rfl
def p_X4_source_7 (x1 : Int32) (x2 : Int32) (x3 : Int32) (M : zM) : Nat → Int32 → Int32 → Option (Int32)
  | 0, _, _ => none
  | nn + 1, x5, x6 =>
  if x2 ≤ x6 then
    some (-1 : Int32)
  else
    (p_X8_hasBit x3 x6).bind fun r16 =>
    if r16 = 0 then
      if x1 < 0 ∨ 5 ≤ x1.toNatClampNeg then none else
      p_X4_source_36 (p_X4_source_7 x1 x2 x3 M nn) x1 x2 x3 x5 x6 r16 (M 37 x1.toNatClampNeg) M
    else
      p_X4_source_36 (p_X4_source_7 x1 x2 x3 M nn) x1 x2 x3 x5 x6 r16 (1 : Int32) M
set_option maxRecDepth 20000 in
set_option maxHeartbeats 4000000 in
theorem zc_X4_source_7 (x1 : Int32) (x2 : Int32) (x3 : Int32) (M : zM) : ∀ (nn : Nat) (x5 : Int32) (x6 : Int32) (r : Int32), p_X4_source_7 x1 x2 x3 M nn x5 x6 = some r → zS Y_X4_source 7 [some (zO 4), some (zI x1), some (zI x2), some (zI x3), none, some (zI x5), some (zI x6), none, none] [] M (some r, M) := by
  intro nn
  induction nn with
  | zero => intro x5 x6 r h; cases h
  | succ nn ih =>
  intro x5 x6 r h
  rw [p_X4_source_7] at h
  refine zS_iload dX4_source_7 rfl ?_
  refine zS_iload_n dX4_source_9 rfl rfl ?_
  refine zS_icmp_ge (tgt := 84) dX4_source_10 (by decide) (fun c10 => ?_) (fun c10 => ?_)
  · rw [if_pos c10] at h
    refine zS_iconst (v := (-1 : Int32)) dX4_source_84 (by decide) ?_
    cases h
    exact zS_ireturn dX4_source_85 rfl rfl
  · rw [if_neg c10] at h
    refine zS_iload_n dX4_source_13 rfl rfl ?_
    refine zS_iload dX4_source_14 rfl ?_
    obtain ⟨r16, h16, h⟩ := zbind h
    refine zS_callN (as := [zI x3, zI x6]) (st := []) (ls0 := [some (zI x3), some (zI x6)]) dX4_source_16 okY_X8_hasBit rfl rfl zw_24 nw_X4_30 np_X8_hasBit (by decide) (Nat.le_of_ble_eq_true rfl) rfl (Nat.le_of_ble_eq_true rfl) (And.intro rfl (And.intro rfl trivial)) (zc_X8_hasBit x3 x6 M h16) ?_
    refine zS_istore (ls' := [some (zO 4), some (zI x1), some (zI x2), some (zI x3), none, some (zI x5), some (zI x6), some (zI r16), none]) dX4_source_19 (by decide) rfl rfl ?_
    refine zS_iload dX4_source_21 rfl ?_
    refine zS_if_eq (tgt := 30) dX4_source_23 (by decide) (fun c23 => ?_) (fun c23 => ?_)
    · rw [if_pos c23] at h
      refine zS_aload_nO dX4_source_30 rfl rfl ?_
      refine gf_4_0 dX4_source_31 zw_147 ?_
      refine zS_iload_n dX4_source_34 rfl rfl ?_
      by_cases b35 : x1 < 0 ∨ 5 ≤ x1.toNatClampNeg
      · rw [if_pos b35] at h; cases h
      rw [if_neg b35] at h
      refine zS_iald b35 dX4_source_35 ?_
      exact zS_wk [some (zO 4), some (zI x1), some (zI x2), some (zI x3), none, some (zI x5), some (zI x6), some (zI r16), none] (And.intro rfl (And.intro rfl (And.intro rfl (And.intro rfl (And.intro rfl (And.intro rfl (And.intro rfl trivial))))))) (zc_X4_source_36 x1 x2 x3 x5 x6 r16 (M 37 x1.toNatClampNeg) M ih h)
    · rw [if_neg c23] at h
      refine zS_iconst (v := (1 : Int32)) dX4_source_26 (by decide) ?_
      refine zS_goto (tgt := 36) dX4_source_27 (by decide) ?_
      exact zS_wk [some (zO 4), some (zI x1), some (zI x2), some (zI x3), none, some (zI x5), some (zI x6), some (zI r16), none] (And.intro rfl (And.intro rfl (And.intro rfl (And.intro rfl (And.intro rfl (And.intro rfl (And.intro rfl trivial))))))) (zc_X4_source_36 x1 x2 x3 x5 x6 r16 (1 : Int32) M ih h)
def p_X4_source (x1 : Int32) (x2 : Int32) (x3 : Int32) (x4 : Int32) (M : zM) : Option (Int32) :=
  p_X4_source_7 x1 x2 x3 M 5000 x4 (0 : Int32)
set_option maxRecDepth 20000 in
set_option maxHeartbeats 4000000 in
theorem zc_X4_source (x1 : Int32) (x2 : Int32) (x3 : Int32) (x4 : Int32) (M : zM) {r : Int32} (h : p_X4_source x1 x2 x3 x4 M = some r) : zS Y_X4_source 0 [some (zO 4), some (zI x1), some (zI x2), some (zI x3), some (zI x4), none, none, none, none] [] M (some r, M) := by
  rw [p_X4_source] at h
  refine zS_iload dX4_source_0 rfl ?_
  refine zS_istore (ls' := [some (zO 4), some (zI x1), some (zI x2), some (zI x3), some (zI x4), some (zI x4), none, none, none]) dX4_source_2 (by decide) rfl rfl ?_
  refine zS_iconst (v := (0 : Int32)) dX4_source_4 (by decide) ?_
  refine zS_istore (ls' := [some (zO 4), some (zI x1), some (zI x2), some (zI x3), some (zI x4), some (zI x4), some (zI (0 : Int32)), none, none]) dX4_source_5 (by decide) rfl rfl ?_
  exact zS_wk [some (zO 4), some (zI x1), some (zI x2), some (zI x3), none, some (zI x4), some (zI (0 : Int32)), none, none] (And.intro rfl (And.intro rfl (And.intro rfl (And.intro rfl (And.intro rfl (And.intro rfl trivial)))))) (zc_X4_source_7 x1 x2 x3 M 5000 x4 (0 : Int32) r h)
def p_X1_variationAt (x1 : Int32) (x2 : Int32) (x3 : Int32) (M : zM) : Option (Int32) :=
  (p_X4_source x1 (M 5 2) x2 x3 M).bind fun r11 =>
  if (16 : Int32) ≤ r11 then
    if r11 - (16 : Int32) < 0 ∨ 16 ≤ (r11 - (16 : Int32)).toNatClampNeg then none else
    some (M 44 (r11 - (16 : Int32)).toNatClampNeg)
  else
    some r11
set_option maxRecDepth 20000 in
set_option maxHeartbeats 4000000 in
theorem zc_X1_variationAt (x1 : Int32) (x2 : Int32) (x3 : Int32) (M : zM) {r : Int32} (h : p_X1_variationAt x1 x2 x3 M = some r) : zS Y_X1_variationAt 0 [some (zO 5), some (zI x1), some (zI x2), some (zI x3), none] [] M (some r, M) := by
  rw [p_X1_variationAt] at h
  refine zS_aload_nO dX1_variationAt_0 rfl rfl ?_
  refine gf_5_0 dX1_variationAt_1 zw_167 ?_
  refine zS_iload_n dX1_variationAt_4 rfl rfl ?_
  refine zS_aload_nO dX1_variationAt_5 rfl rfl ?_
  refine gf_5_2 dX1_variationAt_6 zw_159 ?_
  refine zS_iload_n dX1_variationAt_9 rfl rfl ?_
  refine zS_iload_n dX1_variationAt_10 rfl rfl ?_
  obtain ⟨r11, h11, h⟩ := zbind h
  refine zS_callV (as := [zI x1, zI (M 5 2), zI x2, zI x3]) (st := []) (ls0 := [some (zO 4), some (zI x1), some (zI (M 5 2)), some (zI x2), some (zI x3), none, none, none, none]) dX1_variationAt_11 okY_X4_source rfl rfl lay_4 rfl zw_168 zw_169 zw_170 np_X4_source (by decide) (Nat.le_of_ble_eq_true rfl) rfl (Nat.le_of_ble_eq_true rfl) (And.intro rfl (And.intro rfl (And.intro rfl (And.intro rfl (And.intro rfl trivial))))) (zc_X4_source x1 (M 5 2) x2 x3 M h11) ?_
  refine zS_istore (ls' := [some (zO 5), some (zI x1), some (zI x2), some (zI x3), some (zI r11)]) dX1_variationAt_14 (by decide) rfl rfl ?_
  refine zS_iload dX1_variationAt_16 rfl ?_
  refine zS_bipush (v := (16 : Int32)) dX1_variationAt_18 (by decide) ?_
  refine zS_icmp_ge (tgt := 28) dX1_variationAt_20 (by decide) (fun c20 => ?_) (fun c20 => ?_)
  · rw [if_pos c20] at h
    refine zS_aload_nO dX1_variationAt_28 rfl rfl ?_
    refine gf_5_1 dX1_variationAt_29 zw_158 ?_
    refine zS_iload dX1_variationAt_32 rfl ?_
    refine zS_bipush (v := (16 : Int32)) dX1_variationAt_34 (by decide) ?_
    refine zS_isub dX1_variationAt_36 ?_
    by_cases b37 : r11 - (16 : Int32) < 0 ∨ 16 ≤ (r11 - (16 : Int32)).toNatClampNeg
    · rw [if_pos b37] at h; cases h
    rw [if_neg b37] at h
    refine zS_iald b37 dX1_variationAt_37 ?_
    cases h
    exact zS_ireturn dX1_variationAt_38 rfl rfl
  · rw [if_neg c20] at h
    refine zS_iload dX1_variationAt_23 rfl ?_
    refine zS_goto (tgt := 38) dX1_variationAt_25 (by decide) ?_
    cases h
    exact zS_ireturn dX1_variationAt_38 rfl rfl
def p_X4_variationSize (x1 : Int32) (x2 : Int32) (x3 : Int32) (M : zM) : Option (Int32) :=
  (p_J6_bitCount_0f7a4 x3).bind fun r1 =>
  if x1 < 0 ∨ 5 ≤ x1.toNatClampNeg then none else
  some (r1 + ((x2 - r1) * (M 37 x1.toNatClampNeg)))
set_option maxRecDepth 20000 in
set_option maxHeartbeats 4000000 in
theorem zc_X4_variationSize (x1 : Int32) (x2 : Int32) (x3 : Int32) (M : zM) {r : Int32} (h : p_X4_variationSize x1 x2 x3 M = some r) : zS Y_X4_variationSize 0 [some (zO 4), some (zI x1), some (zI x2), some (zI x3), none] [] M (some r, M) := by
  rw [p_X4_variationSize] at h
  refine zS_iload_n dX4_variationSize_0 rfl rfl ?_
  obtain ⟨r1, h1, h⟩ := zbind h
  refine zS_callS (as := [zI x3]) (st := []) (ls0 := [some (zI x3)]) dX4_variationSize_1 okY_J6_bitCount_0f7a4 rfl rfl zw_180 zw_181 np_J6_bitCount_0f7a4 (by decide) (Nat.le_of_ble_eq_true rfl) rfl (Nat.le_of_ble_eq_true rfl) (And.intro rfl trivial) (zc_J6_bitCount_0f7a4 x3 M h1) ?_
  refine zS_istore (ls' := [some (zO 4), some (zI x1), some (zI x2), some (zI x3), some (zI r1)]) dX4_variationSize_4 (by decide) rfl rfl ?_
  refine zS_iload dX4_variationSize_6 rfl ?_
  refine zS_iload_n dX4_variationSize_8 rfl rfl ?_
  refine zS_iload dX4_variationSize_9 rfl ?_
  refine zS_isub dX4_variationSize_11 ?_
  refine zS_aload_nO dX4_variationSize_12 rfl rfl ?_
  refine gf_4_0 dX4_variationSize_13 zw_147 ?_
  refine zS_iload_n dX4_variationSize_16 rfl rfl ?_
  by_cases b17 : x1 < 0 ∨ 5 ≤ x1.toNatClampNeg
  · rw [if_pos b17] at h; cases h
  rw [if_neg b17] at h
  refine zS_iald b17 dX4_variationSize_17 ?_
  refine zS_imul dX4_variationSize_18 ?_
  refine zS_iadd dX4_variationSize_19 ?_
  cases h
  exact zS_ireturn dX4_variationSize_20 rfl rfl
