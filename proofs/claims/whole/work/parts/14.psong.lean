def p_X6_sound (x1 : Int32) (x2 : Int32) (x3 : Int32) (M : zM) : Option (Int32) :=
  if x1 < 0 ∨ 3 ≤ x1.toNatClampNeg then none else
  if x3 < 0 ∨ 8 ≤ x3.toNatClampNeg then none else
  if x1 < 0 ∨ 3 ≤ x1.toNatClampNeg then none else
  if x2 < 0 ∨ 9 ≤ x2.toNatClampNeg then none else
  some (((4 : Int32) * (M (26 + x1.toNatClampNeg) x3.toNatClampNeg)) + (M (30 + x1.toNatClampNeg) x2.toNatClampNeg))
set_option maxRecDepth 20000 in
set_option maxHeartbeats 4000000 in
theorem zc_X6_sound (x1 : Int32) (x2 : Int32) (x3 : Int32) (M : zM) {r : Int32} (h : p_X6_sound x1 x2 x3 M = some r) : zS Y_X6_sound 0 [some (zO 3), some (zI x1), some (zI x2), some (zI x3)] [] M (some r, M) := by
  rw [p_X6_sound] at h
  refine zS_iconst (v := (4 : Int32)) dX6_sound_0 (by decide) ?_
  refine zS_aload_nO dX6_sound_1 rfl rfl ?_
  refine gf_3_1 dX6_sound_2 zw_84 ?_
  refine zS_iload_n dX6_sound_5 rfl rfl ?_
  by_cases b6 : x1 < 0 ∨ 3 ≤ x1.toNatClampNeg
  · rw [if_pos b6] at h; cases h
  rw [if_neg b6] at h
  refine zS_aald lay_25 b6 dX6_sound_6 ?_
  refine zS_iload_n dX6_sound_7 rfl rfl ?_
  by_cases b8 : x3 < 0 ∨ 8 ≤ x3.toNatClampNeg
  · rw [if_pos b8] at h; cases h
  rw [if_neg b8] at h
  refine zS_iald b8 dX6_sound_8 ?_
  refine zS_imul dX6_sound_9 ?_
  refine zS_aload_nO dX6_sound_10 rfl rfl ?_
  refine gf_3_2 dX6_sound_11 zw_85 ?_
  refine zS_iload_n dX6_sound_14 rfl rfl ?_
  by_cases b15 : x1 < 0 ∨ 3 ≤ x1.toNatClampNeg
  · rw [if_pos b15] at h; cases h
  rw [if_neg b15] at h
  refine zS_aald lay_29 b15 dX6_sound_15 ?_
  refine zS_iload_n dX6_sound_16 rfl rfl ?_
  by_cases b17 : x2 < 0 ∨ 9 ≤ x2.toNatClampNeg
  · rw [if_pos b17] at h; cases h
  rw [if_neg b17] at h
  refine zS_iald b17 dX6_sound_17 ?_
  refine zS_iadd dX6_sound_18 ?_
  cases h
  exact zS_ireturn dX6_sound_19 rfl rfl
def p_X6_append (x1 : Int32) (M : zM) : Option (Int32 × zM) :=
  if M 3 4 < 0 ∨ 12 ≤ (M 3 4).toNatClampNeg then none else
  some ((zset (zset M 33 ((M 3 4).toNatClampNeg) x1) 3 4 (((zset M 33 ((M 3 4).toNatClampNeg) x1) 3 4) + (1 : Int32))) 3 4, zset (zset M 33 ((M 3 4).toNatClampNeg) x1) 3 4 (((zset M 33 ((M 3 4).toNatClampNeg) x1) 3 4) + (1 : Int32)))
set_option maxRecDepth 20000 in
set_option maxHeartbeats 4000000 in
theorem zc_X6_append (x1 : Int32) (M : zM) {r : Int32 × zM} (h : p_X6_append x1 M = some r) : zS Y_X6_append 0 [some (zO 3), some (zI x1)] [] M (some r.1, r.2) := by
  rw [p_X6_append] at h
  refine zS_aload_nO dX6_append_0 rfl rfl ?_
  refine gf_3_3 dX6_append_1 zw_90 ?_
  refine zS_aload_nO dX6_append_4 rfl rfl ?_
  refine gf_3_4 dX6_append_5 zw_91 ?_
  refine zS_iload_n dX6_append_8 rfl rfl ?_
  by_cases b9 : M 3 4 < 0 ∨ 12 ≤ (M 3 4).toNatClampNeg
  · rw [if_pos b9] at h; cases h
  rw [if_neg b9] at h
  refine zS_iast b9 dX6_append_9 ?_
  refine zS_aload_nO dX6_append_10 rfl rfl ?_
  refine zS_dup dX6_append_11 rfl ?_
  refine gf_3_4 dX6_append_12 zw_91 ?_
  refine zS_iconst (v := (1 : Int32)) dX6_append_15 (by decide) ?_
  refine zS_iadd dX6_append_16 ?_
  refine pf_3_4 dX6_append_17 zw_91 ?_
  refine zS_aload_nO dX6_append_20 rfl rfl ?_
  refine gf_3_4 dX6_append_21 zw_91 ?_
  cases h
  exact zS_ireturn dX6_append_24 rfl rfl
def p_X6_notesFor_5 (x1 : Int32) (x2 : Int32) (M : zM) : Nat → Int32 → Int32 → Option (Int32)
  | 0, _, _ => none
  | nn + 1, x3, x4 =>
  if (9 : Int32) ≤ x4 then
    some x3
  else
    if x1 < 0 ∨ 3 ≤ x1.toNatClampNeg then none else
    if x4 < 0 ∨ 9 ≤ x4.toNatClampNeg then none else
    if x2 < 0 ∨ 12 ≤ x2.toNatClampNeg then none else
    if (M (30 + x1.toNatClampNeg) x4.toNatClampNeg) = ((M 33 x2.toNatClampNeg) - (M 33 x2.toNatClampNeg) / (4 : Int32) * (4 : Int32)) then
      p_X6_notesFor_5 x1 x2 M nn (x3 ||| ((1 : Int32) <<< (x4 &&& 31))) (x4 + (1 : Int32))
    else
      p_X6_notesFor_5 x1 x2 M nn x3 (x4 + (1 : Int32))
set_option maxRecDepth 20000 in
set_option maxHeartbeats 4000000 in
theorem zc_X6_notesFor_5 (x1 : Int32) (x2 : Int32) (M : zM) : ∀ (nn : Nat) (x3 : Int32) (x4 : Int32) (r : Int32), p_X6_notesFor_5 x1 x2 M nn x3 x4 = some r → zS Y_X6_notesFor 5 [some (zO 3), some (zI x1), some (zI x2), some (zI x3), some (zI x4)] [] M (some r, M) := by
  intro nn
  induction nn with
  | zero => intro x3 x4 r h; cases h
  | succ nn ih =>
  intro x3 x4 r h
  rw [p_X6_notesFor_5] at h
  refine zS_iload dX6_notesFor_5 rfl ?_
  refine zS_bipush (v := (9 : Int32)) dX6_notesFor_7 (by decide) ?_
  refine zS_icmp_ge (tgt := 45) dX6_notesFor_9 (by decide) (fun c9 => ?_) (fun c9 => ?_)
  · rw [if_pos c9] at h
    refine zS_iload_n dX6_notesFor_45 rfl rfl ?_
    cases h
    exact zS_ireturn dX6_notesFor_46 rfl rfl
  · rw [if_neg c9] at h
    refine zS_aload_nO dX6_notesFor_12 rfl rfl ?_
    refine gf_3_2 dX6_notesFor_13 zw_85 ?_
    refine zS_iload_n dX6_notesFor_16 rfl rfl ?_
    by_cases b17 : x1 < 0 ∨ 3 ≤ x1.toNatClampNeg
    · rw [if_pos b17] at h; cases h
    rw [if_neg b17] at h
    refine zS_aald lay_29 b17 dX6_notesFor_17 ?_
    refine zS_iload dX6_notesFor_18 rfl ?_
    by_cases b20 : x4 < 0 ∨ 9 ≤ x4.toNatClampNeg
    · rw [if_pos b20] at h; cases h
    rw [if_neg b20] at h
    refine zS_iald b20 dX6_notesFor_20 ?_
    refine zS_aload_nO dX6_notesFor_21 rfl rfl ?_
    refine gf_3_3 dX6_notesFor_22 zw_90 ?_
    refine zS_iload_n dX6_notesFor_25 rfl rfl ?_
    by_cases b26 : x2 < 0 ∨ 12 ≤ x2.toNatClampNeg
    · rw [if_pos b26] at h; cases h
    rw [if_neg b26] at h
    refine zS_iald b26 dX6_notesFor_26 ?_
    refine zS_iconst (v := (4 : Int32)) dX6_notesFor_27 (by decide) ?_
    refine zS_irem (by decide) dX6_notesFor_28 ?_
    refine zS_icmp_ne (tgt := 39) dX6_notesFor_29 (by decide) (fun c29 => ?_) (fun c29 => ?_)
    · rw [if_neg c29] at h
      refine zS_iinc (v := x4 + (1 : Int32)) (ls' := [some (zO 3), some (zI x1), some (zI x2), some (zI x3), some (zI (x4 + (1 : Int32)))]) dX6_notesFor_39 rfl rfl (by decide) rfl rfl ?_
      refine zS_goto (tgt := 5) dX6_notesFor_42 (by decide) ?_
      exact zS_wk [some (zO 3), some (zI x1), some (zI x2), some (zI x3), some (zI (x4 + (1 : Int32)))] (And.intro rfl (And.intro rfl (And.intro rfl (And.intro rfl (And.intro rfl trivial))))) (ih x3 (x4 + (1 : Int32)) r h)
    · rw [if_pos c29] at h
      refine zS_iload_n dX6_notesFor_32 rfl rfl ?_
      refine zS_iconst (v := (1 : Int32)) dX6_notesFor_33 (by decide) ?_
      refine zS_iload dX6_notesFor_34 rfl ?_
      refine zS_ishl dX6_notesFor_36 ?_
      refine zS_ior dX6_notesFor_37 ?_
      refine zS_istore_n (ls' := [some (zO 3), some (zI x1), some (zI x2), some (zI (x3 ||| ((1 : Int32) <<< (x4 &&& 31)))), some (zI x4)]) dX6_notesFor_38 rfl (by decide) rfl rfl ?_
      refine zS_iinc (v := x4 + (1 : Int32)) (ls' := [some (zO 3), some (zI x1), some (zI x2), some (zI (x3 ||| ((1 : Int32) <<< (x4 &&& 31)))), some (zI (x4 + (1 : Int32)))]) dX6_notesFor_39 rfl rfl (by decide) rfl rfl ?_
      refine zS_goto (tgt := 5) dX6_notesFor_42 (by decide) ?_
      exact zS_wk [some (zO 3), some (zI x1), some (zI x2), some (zI (x3 ||| ((1 : Int32) <<< (x4 &&& 31)))), some (zI (x4 + (1 : Int32)))] (And.intro rfl (And.intro rfl (And.intro rfl (And.intro rfl (And.intro rfl trivial))))) (ih (x3 ||| ((1 : Int32) <<< (x4 &&& 31))) (x4 + (1 : Int32)) r h)
def p_X6_notesFor (x1 : Int32) (x2 : Int32) (M : zM) : Option (Int32) :=
  p_X6_notesFor_5 x1 x2 M 5000 (0 : Int32) (0 : Int32)
set_option maxRecDepth 20000 in
set_option maxHeartbeats 4000000 in
theorem zc_X6_notesFor (x1 : Int32) (x2 : Int32) (M : zM) {r : Int32} (h : p_X6_notesFor x1 x2 M = some r) : zS Y_X6_notesFor 0 [some (zO 3), some (zI x1), some (zI x2), none, none] [] M (some r, M) := by
  rw [p_X6_notesFor] at h
  refine zS_iconst (v := (0 : Int32)) dX6_notesFor_0 (by decide) ?_
  refine zS_istore_n (ls' := [some (zO 3), some (zI x1), some (zI x2), some (zI (0 : Int32)), none]) dX6_notesFor_1 rfl (by decide) rfl rfl ?_
  refine zS_iconst (v := (0 : Int32)) dX6_notesFor_2 (by decide) ?_
  refine zS_istore (ls' := [some (zO 3), some (zI x1), some (zI x2), some (zI (0 : Int32)), some (zI (0 : Int32))]) dX6_notesFor_3 (by decide) rfl rfl ?_
  exact zS_wk [some (zO 3), some (zI x1), some (zI x2), some (zI (0 : Int32)), some (zI (0 : Int32))] (And.intro rfl (And.intro rfl (And.intro rfl (And.intro rfl (And.intro rfl trivial))))) (zc_X6_notesFor_5 x1 x2 M 5000 (0 : Int32) (0 : Int32) r h)
def p_X6_hasHead (x1 : Int32) (x2 : Int32) (x3 : Int32) (M : zM) : Option (Int32) :=
  if x1 < 0 ∨ 3 ≤ x1.toNatClampNeg then none else
  if x3 < 0 ∨ 8 ≤ x3.toNatClampNeg then none else
  if x2 < 0 ∨ 12 ≤ x2.toNatClampNeg then none else
  if (M (26 + x1.toNatClampNeg) x3.toNatClampNeg) = ((M 33 x2.toNatClampNeg) / (4 : Int32)) then
    some (1 : Int32)
  else
    some (0 : Int32)
set_option maxRecDepth 20000 in
set_option maxHeartbeats 4000000 in
theorem zc_X6_hasHead (x1 : Int32) (x2 : Int32) (x3 : Int32) (M : zM) {r : Int32} (h : p_X6_hasHead x1 x2 x3 M = some r) : zS Y_X6_hasHead 0 [some (zO 3), some (zI x1), some (zI x2), some (zI x3)] [] M (some r, M) := by
  rw [p_X6_hasHead] at h
  refine zS_aload_nO dX6_hasHead_0 rfl rfl ?_
  refine gf_3_1 dX6_hasHead_1 zw_84 ?_
  refine zS_iload_n dX6_hasHead_4 rfl rfl ?_
  by_cases b5 : x1 < 0 ∨ 3 ≤ x1.toNatClampNeg
  · rw [if_pos b5] at h; cases h
  rw [if_neg b5] at h
  refine zS_aald lay_25 b5 dX6_hasHead_5 ?_
  refine zS_iload_n dX6_hasHead_6 rfl rfl ?_
  by_cases b7 : x3 < 0 ∨ 8 ≤ x3.toNatClampNeg
  · rw [if_pos b7] at h; cases h
  rw [if_neg b7] at h
  refine zS_iald b7 dX6_hasHead_7 ?_
  refine zS_aload_nO dX6_hasHead_8 rfl rfl ?_
  refine gf_3_3 dX6_hasHead_9 zw_90 ?_
  refine zS_iload_n dX6_hasHead_12 rfl rfl ?_
  by_cases b13 : x2 < 0 ∨ 12 ≤ x2.toNatClampNeg
  · rw [if_pos b13] at h; cases h
  rw [if_neg b13] at h
  refine zS_iald b13 dX6_hasHead_13 ?_
  refine zS_iconst (v := (4 : Int32)) dX6_hasHead_14 (by decide) ?_
  refine zS_idiv (by decide) dX6_hasHead_15 ?_
  refine zS_icmp_ne (tgt := 23) dX6_hasHead_16 (by decide) (fun c16 => ?_) (fun c16 => ?_)
  · rw [if_neg c16] at h
    refine zS_iconst (v := (0 : Int32)) dX6_hasHead_23 (by decide) ?_
    cases h
    exact zS_ireturn dX6_hasHead_24 rfl rfl
  · rw [if_pos c16] at h
    refine zS_iconst (v := (1 : Int32)) dX6_hasHead_19 (by decide) ?_
    refine zS_goto (tgt := 24) dX6_hasHead_20 (by decide) ?_
    cases h
    exact zS_ireturn dX6_hasHead_24 rfl rfl
def p_X6_addRows_2 (x1 : Int32) (x2 : Int32) : Nat → Int32 → zM → Option (zM)
  | 0, _, _ => none
  | nn + 1, x3, M =>
  if (9 : Int32) ≤ x3 then
    some M
  else
    (p_X8_hasBit x1 x3).bind fun r10 =>
    if r10 = 0 then
      p_X6_addRows_2 x1 x2 nn (x3 + (1 : Int32)) M
    else
      if x3 + (1 : Int32) < 0 ∨ 10 ≤ (x3 + (1 : Int32)).toNatClampNeg then none else
      if x3 + (1 : Int32) < 0 ∨ 10 ≤ (x3 + (1 : Int32)).toNatClampNeg then none else
      p_X6_addRows_2 x1 x2 nn (x3 + (1 : Int32)) (zset M 35 ((x3 + (1 : Int32)).toNatClampNeg) (if (M 35 (x3 + (1 : Int32)).toNatClampNeg) + x2 < (1000001 : Int32) then (M 35 (x3 + (1 : Int32)).toNatClampNeg) + x2 else (1000001 : Int32)))
set_option maxRecDepth 20000 in
set_option maxHeartbeats 4000000 in
theorem zc_X6_addRows_2 (x1 : Int32) (x2 : Int32) : ∀ (nn : Nat) (x3 : Int32) (M : zM) (r : zM), p_X6_addRows_2 x1 x2 nn x3 M = some r → zS Y_X6_addRows 2 [some (zO 3), some (zI x1), some (zI x2), some (zI x3)] [] M (none, r) := by
  intro nn
  induction nn with
  | zero => intro x3 M r h; cases h
  | succ nn ih =>
  intro x3 M r h
  rw [p_X6_addRows_2] at h
  refine zS_iload_n dX6_addRows_2 rfl rfl ?_
  refine zS_bipush (v := (9 : Int32)) dX6_addRows_3 (by decide) ?_
  refine zS_icmp_ge (tgt := 45) dX6_addRows_5 (by decide) (fun c5 => ?_) (fun c5 => ?_)
  · rw [if_pos c5] at h
    cases h
    exact zS_return dX6_addRows_45
  · rw [if_neg c5] at h
    refine zS_iload_n dX6_addRows_8 rfl rfl ?_
    refine zS_iload_n dX6_addRows_9 rfl rfl ?_
    obtain ⟨r10, h10, h⟩ := zbind h
    refine zS_callN (as := [zI x1, zI x3]) (st := []) (ls0 := [some (zI x1), some (zI x3)]) dX6_addRows_10 okY_X8_hasBit rfl rfl zw_24 nw_X6_90 np_X8_hasBit (by decide) (Nat.le_of_ble_eq_true rfl) rfl (Nat.le_of_ble_eq_true rfl) (And.intro rfl (And.intro rfl trivial)) (zc_X8_hasBit x1 x3 M h10) ?_
    refine zS_if_eq (tgt := 39) dX6_addRows_13 (by decide) (fun c13 => ?_) (fun c13 => ?_)
    · rw [if_pos c13] at h
      refine zS_iinc (v := x3 + (1 : Int32)) (ls' := [some (zO 3), some (zI x1), some (zI x2), some (zI (x3 + (1 : Int32)))]) dX6_addRows_39 rfl rfl (by decide) rfl rfl ?_
      refine zS_goto (tgt := 2) dX6_addRows_42 (by decide) ?_
      exact zS_wk [some (zO 3), some (zI x1), some (zI x2), some (zI (x3 + (1 : Int32)))] (And.intro rfl (And.intro rfl (And.intro rfl (And.intro rfl trivial)))) (ih (x3 + (1 : Int32)) M r h)
    · rw [if_neg c13] at h
      refine zS_aload_nO dX6_addRows_16 rfl rfl ?_
      refine gf_3_6 dX6_addRows_17 zw_96 ?_
      refine zS_iload_n dX6_addRows_20 rfl rfl ?_
      refine zS_iconst (v := (1 : Int32)) dX6_addRows_21 (by decide) ?_
      refine zS_iadd dX6_addRows_22 ?_
      refine zS_ldc (v := (1000001 : Int32)) dX6_addRows_23 zw_97 ?_
      refine zS_aload_nO dX6_addRows_25 rfl rfl ?_
      refine gf_3_6 dX6_addRows_26 zw_96 ?_
      refine zS_iload_n dX6_addRows_29 rfl rfl ?_
      refine zS_iconst (v := (1 : Int32)) dX6_addRows_30 (by decide) ?_
      refine zS_iadd dX6_addRows_31 ?_
      by_cases b32 : x3 + (1 : Int32) < 0 ∨ 10 ≤ (x3 + (1 : Int32)).toNatClampNeg
      · rw [if_pos b32] at h; cases h
      rw [if_neg b32] at h
      refine zS_iald b32 dX6_addRows_32 ?_
      refine zS_iload_n dX6_addRows_33 rfl rfl ?_
      refine zS_iadd dX6_addRows_34 ?_
      refine zS_min dX6_addRows_35 zw_98 zw_65 zw_66 zw_67 (by decide) (Nat.le_of_ble_eq_true rfl) ?_
      by_cases b38 : x3 + (1 : Int32) < 0 ∨ 10 ≤ (x3 + (1 : Int32)).toNatClampNeg
      · rw [if_pos b38] at h; cases h
      rw [if_neg b38] at h
      refine zS_iast b38 dX6_addRows_38 ?_
      refine zS_iinc (v := x3 + (1 : Int32)) (ls' := [some (zO 3), some (zI x1), some (zI x2), some (zI (x3 + (1 : Int32)))]) dX6_addRows_39 rfl rfl (by decide) rfl rfl ?_
      refine zS_goto (tgt := 2) dX6_addRows_42 (by decide) ?_
      exact zS_wk [some (zO 3), some (zI x1), some (zI x2), some (zI (x3 + (1 : Int32)))] (And.intro rfl (And.intro rfl (And.intro rfl (And.intro rfl trivial)))) (ih (x3 + (1 : Int32)) (zset M 35 ((x3 + (1 : Int32)).toNatClampNeg) (if (M 35 (x3 + (1 : Int32)).toNatClampNeg) + x2 < (1000001 : Int32) then (M 35 (x3 + (1 : Int32)).toNatClampNeg) + x2 else (1000001 : Int32))) r h)
def p_X6_addRows (x1 : Int32) (x2 : Int32) (M : zM) : Option (zM) :=
  p_X6_addRows_2 x1 x2 5000 (0 : Int32) M
set_option maxRecDepth 20000 in
set_option maxHeartbeats 4000000 in
theorem zc_X6_addRows (x1 : Int32) (x2 : Int32) (M : zM) {r : zM} (h : p_X6_addRows x1 x2 M = some r) : zS Y_X6_addRows 0 [some (zO 3), some (zI x1), some (zI x2), none] [] M (none, r) := by
  rw [p_X6_addRows] at h
  refine zS_iconst (v := (0 : Int32)) dX6_addRows_0 (by decide) ?_
  refine zS_istore_n (ls' := [some (zO 3), some (zI x1), some (zI x2), some (zI (0 : Int32))]) dX6_addRows_1 rfl (by decide) rfl rfl ?_
  exact zS_wk [some (zO 3), some (zI x1), some (zI x2), some (zI (0 : Int32))] (And.intro rfl (And.intro rfl (And.intro rfl (And.intro rfl trivial)))) (zc_X6_addRows_2 x1 x2 5000 (0 : Int32) M r h)
def p_X6_readOn_28 (k18 : Int32 → zM → Option (zM)) (x1 : Int32) (x2 : Int32) (x3 : Int32) (x4 : Int32) : Nat → Int32 → zM → Option (zM)
  | 0, _, _ => none
  | nn + 1, x5, M =>
  if (8 : Int32) ≤ x5 then
    k18 (x4 + (1 : Int32)) M
  else
    if x4 + (1 : Int32) < 0 ∨ 10 ≤ (x4 + (1 : Int32)).toNatClampNeg then none else
    if (M 34 (x4 + (1 : Int32)).toNatClampNeg) ≤ 0 then
      p_X6_readOn_28 k18 x1 x2 x3 x4 nn (x5 + (1 : Int32)) M
    else
      (p_X6_hasHead x1 x2 x5 M).bind fun r52 =>
      if r52 = 0 then
        p_X6_readOn_28 k18 x1 x2 x3 x4 nn (x5 + (1 : Int32)) M
      else
        (p_X2_leadsTo x5 x4 M).bind fun r67 =>
        if x4 + (1 : Int32) < 0 ∨ 10 ≤ (x4 + (1 : Int32)).toNatClampNeg then none else
        (p_X6_addRows (r67 &&& x3) (M 34 (x4 + (1 : Int32)).toNatClampNeg) M).bind fun M81 =>
        p_X6_readOn_28 k18 x1 x2 x3 x4 nn (x5 + (1 : Int32)) M81
set_option maxRecDepth 20000 in
set_option maxHeartbeats 4000000 in
theorem zc_X6_readOn_28 {k18 : Int32 → zM → Option (zM)} (x1 : Int32) (x2 : Int32) (x3 : Int32) (x4 : Int32) (hk18 : ∀ (x4 : Int32) (M : zM) (r : zM), k18 x4 M = some r → zS Y_X6_readOn 18 [some (zO 3), some (zI x1), some (zI x2), some (zI x3), some (zI x4), none] [] M (none, r)) : ∀ (nn : Nat) (x5 : Int32) (M : zM) (r : zM), p_X6_readOn_28 k18 x1 x2 x3 x4 nn x5 M = some r → zS Y_X6_readOn 28 [some (zO 3), some (zI x1), some (zI x2), some (zI x3), some (zI x4), some (zI x5)] [] M (none, r) := by
  intro nn
  induction nn with
  | zero => intro x5 M r h; cases h
  | succ nn ih =>
  intro x5 M r h
  rw [p_X6_readOn_28] at h
  refine zS_iload dX6_readOn_28 rfl ?_
  refine zS_bipush (v := (8 : Int32)) dX6_readOn_30 (by decide) ?_
  refine zS_icmp_ge (tgt := 90) dX6_readOn_32 (by decide) (fun c32 => ?_) (fun c32 => ?_)
  · rw [if_pos c32] at h
    refine zS_iinc (v := x4 + (1 : Int32)) (ls' := [some (zO 3), some (zI x1), some (zI x2), some (zI x3), some (zI (x4 + (1 : Int32))), some (zI x5)]) dX6_readOn_90 rfl rfl (by decide) rfl rfl ?_
    refine zS_goto (tgt := 18) dX6_readOn_93 (by decide) ?_
    exact zS_wk [some (zO 3), some (zI x1), some (zI x2), some (zI x3), some (zI (x4 + (1 : Int32))), none] (And.intro rfl (And.intro rfl (And.intro rfl (And.intro rfl (And.intro rfl trivial))))) (hk18 (x4 + (1 : Int32)) M r h)
  · rw [if_neg c32] at h
    refine zS_aload_nO dX6_readOn_35 rfl rfl ?_
    refine gf_3_5 dX6_readOn_36 zw_99 ?_
    refine zS_iload dX6_readOn_39 rfl ?_
    refine zS_iconst (v := (1 : Int32)) dX6_readOn_41 (by decide) ?_
    refine zS_iadd dX6_readOn_42 ?_
    by_cases b43 : x4 + (1 : Int32) < 0 ∨ 10 ≤ (x4 + (1 : Int32)).toNatClampNeg
    · rw [if_pos b43] at h; cases h
    rw [if_neg b43] at h
    refine zS_iald b43 dX6_readOn_43 ?_
    refine zS_if_le (tgt := 84) dX6_readOn_44 (by decide) (fun c44 => ?_) (fun c44 => ?_)
    · rw [if_pos c44] at h
      refine zS_iinc (v := x5 + (1 : Int32)) (ls' := [some (zO 3), some (zI x1), some (zI x2), some (zI x3), some (zI x4), some (zI (x5 + (1 : Int32)))]) dX6_readOn_84 rfl rfl (by decide) rfl rfl ?_
      refine zS_goto (tgt := 28) dX6_readOn_87 (by decide) ?_
      exact zS_wk [some (zO 3), some (zI x1), some (zI x2), some (zI x3), some (zI x4), some (zI (x5 + (1 : Int32)))] (And.intro rfl (And.intro rfl (And.intro rfl (And.intro rfl (And.intro rfl (And.intro rfl trivial)))))) (ih (x5 + (1 : Int32)) M r h)
    · rw [if_neg c44] at h
      refine zS_aload_nO dX6_readOn_47 rfl rfl ?_
      refine zS_iload_n dX6_readOn_48 rfl rfl ?_
      refine zS_iload_n dX6_readOn_49 rfl rfl ?_
      refine zS_iload dX6_readOn_50 rfl ?_
      obtain ⟨r52, h52, h⟩ := zbind h
      refine zS_callV (as := [zI x1, zI x2, zI x5]) (st := []) (ls0 := [some (zO 3), some (zI x1), some (zI x2), some (zI x5)]) dX6_readOn_52 okY_X6_hasHead rfl rfl lay_3 rfl zw_100 zw_101 zw_102 np_X6_hasHead (by decide) (Nat.le_of_ble_eq_true rfl) rfl (Nat.le_of_ble_eq_true rfl) (And.intro rfl (And.intro rfl (And.intro rfl (And.intro rfl trivial)))) (zc_X6_hasHead x1 x2 x5 M h52) ?_
      refine zS_if_eq (tgt := 84) dX6_readOn_55 (by decide) (fun c55 => ?_) (fun c55 => ?_)
      · rw [if_pos c55] at h
        refine zS_iinc (v := x5 + (1 : Int32)) (ls' := [some (zO 3), some (zI x1), some (zI x2), some (zI x3), some (zI x4), some (zI (x5 + (1 : Int32)))]) dX6_readOn_84 rfl rfl (by decide) rfl rfl ?_
        refine zS_goto (tgt := 28) dX6_readOn_87 (by decide) ?_
        exact zS_wk [some (zO 3), some (zI x1), some (zI x2), some (zI x3), some (zI x4), some (zI (x5 + (1 : Int32)))] (And.intro rfl (And.intro rfl (And.intro rfl (And.intro rfl (And.intro rfl (And.intro rfl trivial)))))) (ih (x5 + (1 : Int32)) M r h)
      · rw [if_neg c55] at h
        refine zS_aload_nO dX6_readOn_58 rfl rfl ?_
        refine zS_aload_nO dX6_readOn_59 rfl rfl ?_
        refine gf_3_0 dX6_readOn_60 zw_103 ?_
        refine zS_iload dX6_readOn_63 rfl ?_
        refine zS_iload dX6_readOn_65 rfl ?_
        obtain ⟨r67, h67, h⟩ := zbind h
        refine zS_callV (as := [zI x5, zI x4]) (st := [zO 3]) (ls0 := [some (zO 1), some (zI x5), some (zI x4), none]) dX6_readOn_67 okY_X2_leadsTo rfl rfl lay_1 rfl zw_25 zw_26 zw_104 np_X2_leadsTo (by decide) (Nat.le_of_ble_eq_true rfl) rfl (Nat.le_of_ble_eq_true rfl) (And.intro rfl (And.intro rfl (And.intro rfl trivial))) (zc_X2_leadsTo x5 x4 M h67) ?_
        refine zS_iload_n dX6_readOn_70 rfl rfl ?_
        refine zS_iand dX6_readOn_71 ?_
        refine zS_aload_nO dX6_readOn_72 rfl rfl ?_
        refine gf_3_5 dX6_readOn_73 zw_99 ?_
        refine zS_iload dX6_readOn_76 rfl ?_
        refine zS_iconst (v := (1 : Int32)) dX6_readOn_78 (by decide) ?_
        refine zS_iadd dX6_readOn_79 ?_
        by_cases b80 : x4 + (1 : Int32) < 0 ∨ 10 ≤ (x4 + (1 : Int32)).toNatClampNeg
        · rw [if_pos b80] at h; cases h
        rw [if_neg b80] at h
        refine zS_iald b80 dX6_readOn_80 ?_
        obtain ⟨M81, h81, h⟩ := zbind h
        refine zS_callVv (as := [zI (r67 &&& x3), zI (M 34 (x4 + (1 : Int32)).toNatClampNeg)]) (st := []) (ls0 := [some (zO 3), some (zI (r67 &&& x3)), some (zI (M 34 (x4 + (1 : Int32)).toNatClampNeg)), none]) dX6_readOn_81 okY_X6_addRows rfl rfl lay_3 rfl zw_105 zw_106 zw_107 np_X6_addRows (by decide) (Nat.le_of_ble_eq_true rfl) rfl (Nat.le_of_ble_eq_true rfl) (And.intro rfl (And.intro rfl (And.intro rfl trivial))) (zc_X6_addRows (r67 &&& x3) (M 34 (x4 + (1 : Int32)).toNatClampNeg) M h81) ?_
        refine zS_iinc (v := x5 + (1 : Int32)) (ls' := [some (zO 3), some (zI x1), some (zI x2), some (zI x3), some (zI x4), some (zI (x5 + (1 : Int32)))]) dX6_readOn_84 rfl rfl (by decide) rfl rfl ?_
        refine zS_goto (tgt := 28) dX6_readOn_87 (by decide) ?_
        exact zS_wk [some (zO 3), some (zI x1), some (zI x2), some (zI x3), some (zI x4), some (zI (x5 + (1 : Int32)))] (And.intro rfl (And.intro rfl (And.intro rfl (And.intro rfl (And.intro rfl (And.intro rfl trivial)))))) (ih (x5 + (1 : Int32)) M81 r h)
def p_X6_readOn_18 (x1 : Int32) (x2 : Int32) (x3 : Int32) : Nat → Int32 → zM → Option (zM)
  | 0, _, _ => none
  | nn + 1, x4, M =>
  if (9 : Int32) ≤ x4 then
    some (zrow M 34 (va_cpy (M 35) (M 34) (0 : Int32).toNatClampNeg (0 : Int32).toNatClampNeg (10 : Int32).toNatClampNeg))
  else
    p_X6_readOn_28 (p_X6_readOn_18 x1 x2 x3 nn) x1 x2 x3 x4 5000 (0 : Int32) M
set_option maxRecDepth 20000 in
set_option maxHeartbeats 4000000 in
theorem zc_X6_readOn_18 (x1 : Int32) (x2 : Int32) (x3 : Int32) : ∀ (nn : Nat) (x4 : Int32) (M : zM) (r : zM), p_X6_readOn_18 x1 x2 x3 nn x4 M = some r → zS Y_X6_readOn 18 [some (zO 3), some (zI x1), some (zI x2), some (zI x3), some (zI x4), none] [] M (none, r) := by
  intro nn
  induction nn with
  | zero => intro x4 M r h; cases h
  | succ nn ih =>
  intro x4 M r h
  rw [p_X6_readOn_18] at h
  refine zS_iload dX6_readOn_18 rfl ?_
  refine zS_bipush (v := (9 : Int32)) dX6_readOn_20 (by decide) ?_
  refine zS_icmp_ge (tgt := 96) dX6_readOn_22 (by decide) (fun c22 => ?_) (fun c22 => ?_)
  · rw [if_pos c22] at h
    refine zS_aload_nO dX6_readOn_96 rfl rfl ?_
    refine gf_3_6 dX6_readOn_97 zw_96 ?_
    refine zS_iconst (v := (0 : Int32)) dX6_readOn_100 (by decide) ?_
    refine zS_aload_nO dX6_readOn_101 rfl rfl ?_
    refine gf_3_5 dX6_readOn_102 zw_99 ?_
    refine zS_iconst (v := (0 : Int32)) dX6_readOn_105 (by decide) ?_
    refine zS_bipush (v := (10 : Int32)) dX6_readOn_106 (by decide) ?_
    refine zS_acopy (by decide) (by decide) (by decide) (by decide) (by decide) dX6_readOn_108 zw_108 zw_109 zw_110 zw_111 (by decide) (Nat.le_of_ble_eq_true rfl) ?_
    cases h
    exact zS_return dX6_readOn_111
  · rw [if_neg c22] at h
    refine zS_iconst (v := (0 : Int32)) dX6_readOn_25 (by decide) ?_
    refine zS_istore (ls' := [some (zO 3), some (zI x1), some (zI x2), some (zI x3), some (zI x4), some (zI (0 : Int32))]) dX6_readOn_26 (by decide) rfl rfl ?_
    exact zS_wk [some (zO 3), some (zI x1), some (zI x2), some (zI x3), some (zI x4), some (zI (0 : Int32))] (And.intro rfl (And.intro rfl (And.intro rfl (And.intro rfl (And.intro rfl (And.intro rfl trivial)))))) (zc_X6_readOn_28 x1 x2 x3 x4 ih 5000 (0 : Int32) M r h)
def p_X6_readOn (x1 : Int32) (x2 : Int32) (M : zM) : Option (zM) :=
  (p_J7_fill_53178 35 10 (0 : Int32) M).bind fun M5 =>
  (p_X6_notesFor x1 x2 M5).bind fun r11 =>
  p_X6_readOn_18 x1 x2 r11 5000 (-1 : Int32) M5
set_option maxRecDepth 20000 in
set_option maxHeartbeats 4000000 in
theorem zc_X6_readOn (x1 : Int32) (x2 : Int32) (M : zM) {r : zM} (h : p_X6_readOn x1 x2 M = some r) : zS Y_X6_readOn 0 [some (zO 3), some (zI x1), some (zI x2), none, none, none] [] M (none, r) := by
  rw [p_X6_readOn] at h
  refine zS_aload_nO dX6_readOn_0 rfl rfl ?_
  refine gf_3_6 dX6_readOn_1 zw_96 ?_
  refine zS_iconst (v := (0 : Int32)) dX6_readOn_4 (by decide) ?_
  obtain ⟨M5, h5, h⟩ := zbind h
  refine zS_callSv (as := [zA 35 10, zI (0 : Int32)]) (st := []) (ls0 := [some (zA 35 10), some (zI (0 : Int32)), none, none]) dX6_readOn_5 okY_J7_fill_53178 rfl rfl zw_112 zw_113 np_J7_fill_53178 (by decide) (Nat.le_of_ble_eq_true rfl) rfl (Nat.le_of_ble_eq_true rfl) (And.intro rfl (And.intro rfl trivial)) (zc_J7_fill_53178 35 10 (0 : Int32) M h5) ?_
  refine zS_aload_nO dX6_readOn_8 rfl rfl ?_
  refine zS_iload_n dX6_readOn_9 rfl rfl ?_
  refine zS_iload_n dX6_readOn_10 rfl rfl ?_
  obtain ⟨r11, h11, h⟩ := zbind h
  refine zS_callV (as := [zI x1, zI x2]) (st := []) (ls0 := [some (zO 3), some (zI x1), some (zI x2), none, none]) dX6_readOn_11 okY_X6_notesFor rfl rfl lay_3 rfl zw_114 zw_115 zw_116 np_X6_notesFor (by decide) (Nat.le_of_ble_eq_true rfl) rfl (Nat.le_of_ble_eq_true rfl) (And.intro rfl (And.intro rfl (And.intro rfl trivial))) (zc_X6_notesFor x1 x2 M5 h11) ?_
  refine zS_istore_n (ls' := [some (zO 3), some (zI x1), some (zI x2), some (zI r11), none, none]) dX6_readOn_14 rfl (by decide) rfl rfl ?_
  refine zS_iconst (v := (-1 : Int32)) dX6_readOn_15 (by decide) ?_
  refine zS_istore (ls' := [some (zO 3), some (zI x1), some (zI x2), some (zI r11), some (zI (-1 : Int32)), none]) dX6_readOn_16 (by decide) rfl rfl ?_
  exact zS_wk [some (zO 3), some (zI x1), some (zI x2), some (zI r11), some (zI (-1 : Int32)), none] (And.intro rfl (And.intro rfl (And.intro rfl (And.intro rfl (And.intro rfl trivial))))) (zc_X6_readOn_18 x1 x2 r11 5000 (-1 : Int32) M5 r h)
def p_X6_rows_41 (M : zM) : Nat → Int32 → Int32 → Option (Int32 × zM)
  | 0, _, _ => none
  | nn + 1, x2, x3 =>
  if (9 : Int32) < x3 then
    some (x2, M)
  else
    if x3 < 0 ∨ 10 ≤ x3.toNatClampNeg then none else
    p_X6_rows_41 M nn (if x2 + (M 34 x3.toNatClampNeg) < (1000001 : Int32) then x2 + (M 34 x3.toNatClampNeg) else (1000001 : Int32)) (x3 + (1 : Int32))
set_option maxRecDepth 20000 in
set_option maxHeartbeats 4000000 in
theorem zc_X6_rows_41 (M : zM) : ∀ (nn : Nat) (x2 : Int32) (x3 : Int32) (r : Int32 × zM), p_X6_rows_41 M nn x2 x3 = some r → zS Y_X6_rows 41 [some (zO 3), none, some (zI x2), some (zI x3)] [] M (some r.1, r.2) := by
  intro nn
  induction nn with
  | zero => intro x2 x3 r h; cases h
  | succ nn ih =>
  intro x2 x3 r h
  rw [p_X6_rows_41] at h
  refine zS_iload_n dX6_rows_41 rfl rfl ?_
  refine zS_bipush (v := (9 : Int32)) dX6_rows_42 (by decide) ?_
  refine zS_icmp_gt (tgt := 67) dX6_rows_44 (by decide) (fun c44 => ?_) (fun c44 => ?_)
  · rw [if_pos c44] at h
    refine zS_iload_n dX6_rows_67 rfl rfl ?_
    cases h
    exact zS_ireturn dX6_rows_68 rfl rfl
  · rw [if_neg c44] at h
    refine zS_ldc (v := (1000001 : Int32)) dX6_rows_47 zw_97 ?_
    refine zS_iload_n dX6_rows_49 rfl rfl ?_
    refine zS_aload_nO dX6_rows_50 rfl rfl ?_
    refine gf_3_5 dX6_rows_51 zw_99 ?_
    refine zS_iload_n dX6_rows_54 rfl rfl ?_
    by_cases b55 : x3 < 0 ∨ 10 ≤ x3.toNatClampNeg
    · rw [if_pos b55] at h; cases h
    rw [if_neg b55] at h
    refine zS_iald b55 dX6_rows_55 ?_
    refine zS_iadd dX6_rows_56 ?_
    refine zS_min dX6_rows_57 zw_98 zw_65 zw_66 zw_67 (by decide) (Nat.le_of_ble_eq_true rfl) ?_
    refine zS_istore_n (ls' := [some (zO 3), none, some (zI (if x2 + (M 34 x3.toNatClampNeg) < (1000001 : Int32) then x2 + (M 34 x3.toNatClampNeg) else (1000001 : Int32))), some (zI x3)]) dX6_rows_60 rfl (by decide) rfl rfl ?_
    refine zS_iinc (v := x3 + (1 : Int32)) (ls' := [some (zO 3), none, some (zI (if x2 + (M 34 x3.toNatClampNeg) < (1000001 : Int32) then x2 + (M 34 x3.toNatClampNeg) else (1000001 : Int32))), some (zI (x3 + (1 : Int32)))]) dX6_rows_61 rfl rfl (by decide) rfl rfl ?_
    refine zS_goto (tgt := 41) dX6_rows_64 (by decide) ?_
    exact zS_wk [some (zO 3), none, some (zI (if x2 + (M 34 x3.toNatClampNeg) < (1000001 : Int32) then x2 + (M 34 x3.toNatClampNeg) else (1000001 : Int32))), some (zI (x3 + (1 : Int32)))] (And.intro rfl (And.intro rfl (And.intro rfl trivial))) (ih (if x2 + (M 34 x3.toNatClampNeg) < (1000001 : Int32) then x2 + (M 34 x3.toNatClampNeg) else (1000001 : Int32)) (x3 + (1 : Int32)) r h)
def p_X6_rows_17 (x1 : Int32) : Nat → Int32 → zM → Option (Int32 × zM)
  | 0, _, _ => none
  | nn + 1, x2, M =>
  if (M 3 4) ≤ x2 then
    p_X6_rows_41 M 5000 (0 : Int32) (0 : Int32)
  else
    (p_X6_readOn x1 x2 M).bind fun M28 =>
    p_X6_rows_17 x1 nn (x2 + (1 : Int32)) M28
set_option maxRecDepth 20000 in
set_option maxHeartbeats 4000000 in
theorem zc_X6_rows_17 (x1 : Int32) : ∀ (nn : Nat) (x2 : Int32) (M : zM) (r : Int32 × zM), p_X6_rows_17 x1 nn x2 M = some r → zS Y_X6_rows 17 [some (zO 3), some (zI x1), some (zI x2), none] [] M (some r.1, r.2) := by
  intro nn
  induction nn with
  | zero => intro x2 M r h; cases h
  | succ nn ih =>
  intro x2 M r h
  rw [p_X6_rows_17] at h
  refine zS_iload_n dX6_rows_17 rfl rfl ?_
  refine zS_aload_nO dX6_rows_18 rfl rfl ?_
  refine gf_3_4 dX6_rows_19 zw_91 ?_
  refine zS_icmp_ge (tgt := 37) dX6_rows_22 (by decide) (fun c22 => ?_) (fun c22 => ?_)
  · rw [if_pos c22] at h
    refine zS_iconst (v := (0 : Int32)) dX6_rows_37 (by decide) ?_
    refine zS_istore_n (ls' := [some (zO 3), some (zI x1), some (zI (0 : Int32)), none]) dX6_rows_38 rfl (by decide) rfl rfl ?_
    refine zS_iconst (v := (0 : Int32)) dX6_rows_39 (by decide) ?_
    refine zS_istore_n (ls' := [some (zO 3), some (zI x1), some (zI (0 : Int32)), some (zI (0 : Int32))]) dX6_rows_40 rfl (by decide) rfl rfl ?_
    exact zS_wk [some (zO 3), none, some (zI (0 : Int32)), some (zI (0 : Int32))] (And.intro rfl (And.intro rfl (And.intro rfl trivial))) (zc_X6_rows_41 M 5000 (0 : Int32) (0 : Int32) r h)
  · rw [if_neg c22] at h
    refine zS_aload_nO dX6_rows_25 rfl rfl ?_
    refine zS_iload_n dX6_rows_26 rfl rfl ?_
    refine zS_iload_n dX6_rows_27 rfl rfl ?_
    obtain ⟨M28, h28, h⟩ := zbind h
    refine zS_callVv (as := [zI x1, zI x2]) (st := []) (ls0 := [some (zO 3), some (zI x1), some (zI x2), none, none, none]) dX6_rows_28 okY_X6_readOn rfl rfl lay_3 rfl zw_117 zw_118 zw_119 np_X6_readOn (by decide) (Nat.le_of_ble_eq_true rfl) rfl (Nat.le_of_ble_eq_true rfl) (And.intro rfl (And.intro rfl (And.intro rfl trivial))) (zc_X6_readOn x1 x2 M h28) ?_
    refine zS_iinc (v := x2 + (1 : Int32)) (ls' := [some (zO 3), some (zI x1), some (zI (x2 + (1 : Int32))), none]) dX6_rows_31 rfl rfl (by decide) rfl rfl ?_
    refine zS_goto (tgt := 17) dX6_rows_34 (by decide) ?_
    exact zS_wk [some (zO 3), some (zI x1), some (zI (x2 + (1 : Int32))), none] (And.intro rfl (And.intro rfl (And.intro rfl trivial))) (ih (x2 + (1 : Int32)) M28 r h)
def p_X6_rows (x1 : Int32) (M : zM) : Option (Int32 × zM) :=
  (p_J7_fill_53178 34 10 (0 : Int32) M).bind fun M5 =>
  p_X6_rows_17 x1 5000 (0 : Int32) (zset M5 34 ((0 : Int32).toNatClampNeg) (1 : Int32))
set_option maxRecDepth 20000 in
set_option maxHeartbeats 4000000 in
theorem zc_X6_rows (x1 : Int32) (M : zM) {r : Int32 × zM} (h : p_X6_rows x1 M = some r) : zS Y_X6_rows 0 [some (zO 3), some (zI x1), none, none] [] M (some r.1, r.2) := by
  rw [p_X6_rows] at h
  refine zS_aload_nO dX6_rows_0 rfl rfl ?_
  refine gf_3_5 dX6_rows_1 zw_99 ?_
  refine zS_iconst (v := (0 : Int32)) dX6_rows_4 (by decide) ?_
  obtain ⟨M5, h5, h⟩ := zbind h
  refine zS_callSv (as := [zA 34 10, zI (0 : Int32)]) (st := []) (ls0 := [some (zA 34 10), some (zI (0 : Int32)), none, none]) dX6_rows_5 okY_J7_fill_53178 rfl rfl zw_112 zw_113 np_J7_fill_53178 (by decide) (Nat.le_of_ble_eq_true rfl) rfl (Nat.le_of_ble_eq_true rfl) (And.intro rfl (And.intro rfl trivial)) (zc_J7_fill_53178 34 10 (0 : Int32) M h5) ?_
  refine zS_aload_nO dX6_rows_8 rfl rfl ?_
  refine gf_3_5 dX6_rows_9 zw_99 ?_
  refine zS_iconst (v := (0 : Int32)) dX6_rows_12 (by decide) ?_
  refine zS_iconst (v := (1 : Int32)) dX6_rows_13 (by decide) ?_
  refine zS_iast (by decide) dX6_rows_14 ?_
  refine zS_iconst (v := (0 : Int32)) dX6_rows_15 (by decide) ?_
  refine zS_istore_n (ls' := [some (zO 3), some (zI x1), some (zI (0 : Int32)), none]) dX6_rows_16 rfl (by decide) rfl rfl ?_
  exact zS_wk [some (zO 3), some (zI x1), some (zI (0 : Int32)), none] (And.intro rfl (And.intro rfl (And.intro rfl trivial))) (zc_X6_rows_17 x1 5000 (0 : Int32) (zset M5 34 ((0 : Int32).toNatClampNeg) (1 : Int32)) r h)
def p_X6_goesOn_3 (x1 : Int32) (x2 : Int32) (x3 : Int32) (M : zM) : Nat → Int32 → Option (Int32)
  | 0, _ => none
  | nn + 1, x4 =>
  if (8 : Int32) ≤ x4 then
    some (0 : Int32)
  else
    (p_X6_hasHead x1 x2 x4 M).bind fun r15 =>
    if r15 = 0 then
      p_X6_goesOn_3 x1 x2 x3 M nn (x4 + (1 : Int32))
    else
      (p_X2_leadsTo x4 x3 M).bind fun r28 =>
      if x2 < 0 ∨ 12 ≤ x2.toNatClampNeg then none else
      if (r28 &&& (M 36 x2.toNatClampNeg)) = 0 then
        p_X6_goesOn_3 x1 x2 x3 M nn (x4 + (1 : Int32))
      else
        some (1 : Int32)
set_option maxRecDepth 20000 in
set_option maxHeartbeats 4000000 in
theorem zc_X6_goesOn_3 (x1 : Int32) (x2 : Int32) (x3 : Int32) (M : zM) : ∀ (nn : Nat) (x4 : Int32) (r : Int32), p_X6_goesOn_3 x1 x2 x3 M nn x4 = some r → zS Y_X6_goesOn 3 [some (zO 3), some (zI x1), some (zI x2), some (zI x3), some (zI x4)] [] M (some r, M) := by
  intro nn
  induction nn with
  | zero => intro x4 r h; cases h
  | succ nn ih =>
  intro x4 r h
  rw [p_X6_goesOn_3] at h
  refine zS_iload dX6_goesOn_3 rfl ?_
  refine zS_bipush (v := (8 : Int32)) dX6_goesOn_5 (by decide) ?_
  refine zS_icmp_ge (tgt := 49) dX6_goesOn_7 (by decide) (fun c7 => ?_) (fun c7 => ?_)
  · rw [if_pos c7] at h
    refine zS_iconst (v := (0 : Int32)) dX6_goesOn_49 (by decide) ?_
    cases h
    exact zS_ireturn dX6_goesOn_50 rfl rfl
  · rw [if_neg c7] at h
    refine zS_aload_nO dX6_goesOn_10 rfl rfl ?_
    refine zS_iload_n dX6_goesOn_11 rfl rfl ?_
    refine zS_iload_n dX6_goesOn_12 rfl rfl ?_
    refine zS_iload dX6_goesOn_13 rfl ?_
    obtain ⟨r15, h15, h⟩ := zbind h
    refine zS_callV (as := [zI x1, zI x2, zI x4]) (st := []) (ls0 := [some (zO 3), some (zI x1), some (zI x2), some (zI x4)]) dX6_goesOn_15 okY_X6_hasHead rfl rfl lay_3 rfl zw_100 zw_101 zw_102 np_X6_hasHead (by decide) (Nat.le_of_ble_eq_true rfl) rfl (Nat.le_of_ble_eq_true rfl) (And.intro rfl (And.intro rfl (And.intro rfl (And.intro rfl trivial)))) (zc_X6_hasHead x1 x2 x4 M h15) ?_
    refine zS_if_eq (tgt := 43) dX6_goesOn_18 (by decide) (fun c18 => ?_) (fun c18 => ?_)
    · rw [if_pos c18] at h
      refine zS_iinc (v := x4 + (1 : Int32)) (ls' := [some (zO 3), some (zI x1), some (zI x2), some (zI x3), some (zI (x4 + (1 : Int32)))]) dX6_goesOn_43 rfl rfl (by decide) rfl rfl ?_
      refine zS_goto (tgt := 3) dX6_goesOn_46 (by decide) ?_
      exact zS_wk [some (zO 3), some (zI x1), some (zI x2), some (zI x3), some (zI (x4 + (1 : Int32)))] (And.intro rfl (And.intro rfl (And.intro rfl (And.intro rfl (And.intro rfl trivial))))) (ih (x4 + (1 : Int32)) r h)
    · rw [if_neg c18] at h
      refine zS_aload_nO dX6_goesOn_21 rfl rfl ?_
      refine gf_3_0 dX6_goesOn_22 zw_103 ?_
      refine zS_iload dX6_goesOn_25 rfl ?_
      refine zS_iload_n dX6_goesOn_27 rfl rfl ?_
      obtain ⟨r28, h28, h⟩ := zbind h
      refine zS_callV (as := [zI x4, zI x3]) (st := []) (ls0 := [some (zO 1), some (zI x4), some (zI x3), none]) dX6_goesOn_28 okY_X2_leadsTo rfl rfl lay_1 rfl zw_25 zw_26 zw_104 np_X2_leadsTo (by decide) (Nat.le_of_ble_eq_true rfl) rfl (Nat.le_of_ble_eq_true rfl) (And.intro rfl (And.intro rfl (And.intro rfl trivial))) (zc_X2_leadsTo x4 x3 M h28) ?_
      refine zS_aload_nO dX6_goesOn_31 rfl rfl ?_
      refine gf_3_7 dX6_goesOn_32 zw_123 ?_
      refine zS_iload_n dX6_goesOn_35 rfl rfl ?_
      by_cases b36 : x2 < 0 ∨ 12 ≤ x2.toNatClampNeg
      · rw [if_pos b36] at h; cases h
      rw [if_neg b36] at h
      refine zS_iald b36 dX6_goesOn_36 ?_
      refine zS_iand dX6_goesOn_37 ?_
      refine zS_if_eq (tgt := 43) dX6_goesOn_38 (by decide) (fun c38 => ?_) (fun c38 => ?_)
      · rw [if_pos c38] at h
        refine zS_iinc (v := x4 + (1 : Int32)) (ls' := [some (zO 3), some (zI x1), some (zI x2), some (zI x3), some (zI (x4 + (1 : Int32)))]) dX6_goesOn_43 rfl rfl (by decide) rfl rfl ?_
        refine zS_goto (tgt := 3) dX6_goesOn_46 (by decide) ?_
        exact zS_wk [some (zO 3), some (zI x1), some (zI x2), some (zI x3), some (zI (x4 + (1 : Int32)))] (And.intro rfl (And.intro rfl (And.intro rfl (And.intro rfl (And.intro rfl trivial))))) (ih (x4 + (1 : Int32)) r h)
      · rw [if_neg c38] at h
        refine zS_iconst (v := (1 : Int32)) dX6_goesOn_41 (by decide) ?_
        cases h
        exact zS_ireturn dX6_goesOn_42 rfl rfl
def p_X6_goesOn (x1 : Int32) (x2 : Int32) (x3 : Int32) (M : zM) : Option (Int32) :=
  p_X6_goesOn_3 x1 x2 x3 M 5000 (0 : Int32)
set_option maxRecDepth 20000 in
set_option maxHeartbeats 4000000 in
theorem zc_X6_goesOn (x1 : Int32) (x2 : Int32) (x3 : Int32) (M : zM) {r : Int32} (h : p_X6_goesOn x1 x2 x3 M = some r) : zS Y_X6_goesOn 0 [some (zO 3), some (zI x1), some (zI x2), some (zI x3), none] [] M (some r, M) := by
  rw [p_X6_goesOn] at h
  refine zS_iconst (v := (0 : Int32)) dX6_goesOn_0 (by decide) ?_
  refine zS_istore (ls' := [some (zO 3), some (zI x1), some (zI x2), some (zI x3), some (zI (0 : Int32))]) dX6_goesOn_1 (by decide) rfl rfl ?_
  exact zS_wk [some (zO 3), some (zI x1), some (zI x2), some (zI x3), some (zI (0 : Int32))] (And.intro rfl (And.intro rfl (And.intro rfl (And.intro rfl (And.intro rfl trivial))))) (zc_X6_goesOn_3 x1 x2 x3 M 5000 (0 : Int32) r h)
def p_X6_openAmong_6 (x1 : Int32) (x2 : Int32) (x3 : Int32) (M : zM) : Nat → Int32 → Int32 → Option (Int32)
  | 0, _, _ => none
  | nn + 1, x4, x5 =>
  if (9 : Int32) ≤ x5 then
    some x4
  else
    (p_X8_hasBit x3 x5).bind fun r16 =>
    if r16 = 0 then
      p_X6_openAmong_6 x1 x2 x3 M nn x4 (x5 + (1 : Int32))
    else
      (p_X6_goesOn x1 (x2 + (1 : Int32)) x5 M).bind fun r29 =>
      if r29 = 0 then
        p_X6_openAmong_6 x1 x2 x3 M nn x4 (x5 + (1 : Int32))
      else
        p_X6_openAmong_6 x1 x2 x3 M nn (x4 ||| ((1 : Int32) <<< (x5 &&& 31))) (x5 + (1 : Int32))
set_option maxRecDepth 20000 in
set_option maxHeartbeats 4000000 in
theorem zc_X6_openAmong_6 (x1 : Int32) (x2 : Int32) (x3 : Int32) (M : zM) : ∀ (nn : Nat) (x4 : Int32) (x5 : Int32) (r : Int32), p_X6_openAmong_6 x1 x2 x3 M nn x4 x5 = some r → zS Y_X6_openAmong 6 [some (zO 3), some (zI x1), some (zI x2), some (zI x3), some (zI x4), some (zI x5)] [] M (some r, M) := by
  intro nn
  induction nn with
  | zero => intro x4 x5 r h; cases h
  | succ nn ih =>
  intro x4 x5 r h
  rw [p_X6_openAmong_6] at h
  refine zS_iload dX6_openAmong_6 rfl ?_
  refine zS_bipush (v := (9 : Int32)) dX6_openAmong_8 (by decide) ?_
  refine zS_icmp_ge (tgt := 50) dX6_openAmong_10 (by decide) (fun c10 => ?_) (fun c10 => ?_)
  · rw [if_pos c10] at h
    refine zS_iload dX6_openAmong_50 rfl ?_
    cases h
    exact zS_ireturn dX6_openAmong_52 rfl rfl
  · rw [if_neg c10] at h
    refine zS_iload_n dX6_openAmong_13 rfl rfl ?_
    refine zS_iload dX6_openAmong_14 rfl ?_
    obtain ⟨r16, h16, h⟩ := zbind h
    refine zS_callN (as := [zI x3, zI x5]) (st := []) (ls0 := [some (zI x3), some (zI x5)]) dX6_openAmong_16 okY_X8_hasBit rfl rfl zw_24 nw_X6_90 np_X8_hasBit (by decide) (Nat.le_of_ble_eq_true rfl) rfl (Nat.le_of_ble_eq_true rfl) (And.intro rfl (And.intro rfl trivial)) (zc_X8_hasBit x3 x5 M h16) ?_
    refine zS_if_eq (tgt := 44) dX6_openAmong_19 (by decide) (fun c19 => ?_) (fun c19 => ?_)
    · rw [if_pos c19] at h
      refine zS_iinc (v := x5 + (1 : Int32)) (ls' := [some (zO 3), some (zI x1), some (zI x2), some (zI x3), some (zI x4), some (zI (x5 + (1 : Int32)))]) dX6_openAmong_44 rfl rfl (by decide) rfl rfl ?_
      refine zS_goto (tgt := 6) dX6_openAmong_47 (by decide) ?_
      exact zS_wk [some (zO 3), some (zI x1), some (zI x2), some (zI x3), some (zI x4), some (zI (x5 + (1 : Int32)))] (And.intro rfl (And.intro rfl (And.intro rfl (And.intro rfl (And.intro rfl (And.intro rfl trivial)))))) (ih x4 (x5 + (1 : Int32)) r h)
    · rw [if_neg c19] at h
      refine zS_aload_nO dX6_openAmong_22 rfl rfl ?_
      refine zS_iload_n dX6_openAmong_23 rfl rfl ?_
      refine zS_iload_n dX6_openAmong_24 rfl rfl ?_
      refine zS_iconst (v := (1 : Int32)) dX6_openAmong_25 (by decide) ?_
      refine zS_iadd dX6_openAmong_26 ?_
      refine zS_iload dX6_openAmong_27 rfl ?_
      obtain ⟨r29, h29, h⟩ := zbind h
      refine zS_callV (as := [zI x1, zI (x2 + (1 : Int32)), zI x5]) (st := []) (ls0 := [some (zO 3), some (zI x1), some (zI (x2 + (1 : Int32))), some (zI x5), none]) dX6_openAmong_29 okY_X6_goesOn rfl rfl lay_3 rfl zw_124 zw_125 zw_126 np_X6_goesOn (by decide) (Nat.le_of_ble_eq_true rfl) rfl (Nat.le_of_ble_eq_true rfl) (And.intro rfl (And.intro rfl (And.intro rfl (And.intro rfl trivial)))) (zc_X6_goesOn x1 (x2 + (1 : Int32)) x5 M h29) ?_
      refine zS_if_eq (tgt := 44) dX6_openAmong_32 (by decide) (fun c32 => ?_) (fun c32 => ?_)
      · rw [if_pos c32] at h
        refine zS_iinc (v := x5 + (1 : Int32)) (ls' := [some (zO 3), some (zI x1), some (zI x2), some (zI x3), some (zI x4), some (zI (x5 + (1 : Int32)))]) dX6_openAmong_44 rfl rfl (by decide) rfl rfl ?_
        refine zS_goto (tgt := 6) dX6_openAmong_47 (by decide) ?_
        exact zS_wk [some (zO 3), some (zI x1), some (zI x2), some (zI x3), some (zI x4), some (zI (x5 + (1 : Int32)))] (And.intro rfl (And.intro rfl (And.intro rfl (And.intro rfl (And.intro rfl (And.intro rfl trivial)))))) (ih x4 (x5 + (1 : Int32)) r h)
      · rw [if_neg c32] at h
        refine zS_iload dX6_openAmong_35 rfl ?_
        refine zS_iconst (v := (1 : Int32)) dX6_openAmong_37 (by decide) ?_
        refine zS_iload dX6_openAmong_38 rfl ?_
        refine zS_ishl dX6_openAmong_40 ?_
        refine zS_ior dX6_openAmong_41 ?_
        refine zS_istore (ls' := [some (zO 3), some (zI x1), some (zI x2), some (zI x3), some (zI (x4 ||| ((1 : Int32) <<< (x5 &&& 31)))), some (zI x5)]) dX6_openAmong_42 (by decide) rfl rfl ?_
        refine zS_iinc (v := x5 + (1 : Int32)) (ls' := [some (zO 3), some (zI x1), some (zI x2), some (zI x3), some (zI (x4 ||| ((1 : Int32) <<< (x5 &&& 31)))), some (zI (x5 + (1 : Int32)))]) dX6_openAmong_44 rfl rfl (by decide) rfl rfl ?_
        refine zS_goto (tgt := 6) dX6_openAmong_47 (by decide) ?_
        exact zS_wk [some (zO 3), some (zI x1), some (zI x2), some (zI x3), some (zI (x4 ||| ((1 : Int32) <<< (x5 &&& 31)))), some (zI (x5 + (1 : Int32)))] (And.intro rfl (And.intro rfl (And.intro rfl (And.intro rfl (And.intro rfl (And.intro rfl trivial)))))) (ih (x4 ||| ((1 : Int32) <<< (x5 &&& 31))) (x5 + (1 : Int32)) r h)
def p_X6_openAmong (x1 : Int32) (x2 : Int32) (x3 : Int32) (M : zM) : Option (Int32) :=
  p_X6_openAmong_6 x1 x2 x3 M 5000 (0 : Int32) (0 : Int32)
set_option maxRecDepth 20000 in
set_option maxHeartbeats 4000000 in
theorem zc_X6_openAmong (x1 : Int32) (x2 : Int32) (x3 : Int32) (M : zM) {r : Int32} (h : p_X6_openAmong x1 x2 x3 M = some r) : zS Y_X6_openAmong 0 [some (zO 3), some (zI x1), some (zI x2), some (zI x3), none, none] [] M (some r, M) := by
  rw [p_X6_openAmong] at h
  refine zS_iconst (v := (0 : Int32)) dX6_openAmong_0 (by decide) ?_
  refine zS_istore (ls' := [some (zO 3), some (zI x1), some (zI x2), some (zI x3), some (zI (0 : Int32)), none]) dX6_openAmong_1 (by decide) rfl rfl ?_
  refine zS_iconst (v := (0 : Int32)) dX6_openAmong_3 (by decide) ?_
  refine zS_istore (ls' := [some (zO 3), some (zI x1), some (zI x2), some (zI x3), some (zI (0 : Int32)), some (zI (0 : Int32))]) dX6_openAmong_4 (by decide) rfl rfl ?_
  exact zS_wk [some (zO 3), some (zI x1), some (zI x2), some (zI x3), some (zI (0 : Int32)), some (zI (0 : Int32))] (And.intro rfl (And.intro rfl (And.intro rfl (And.intro rfl (And.intro rfl (And.intro rfl trivial)))))) (zc_X6_openAmong_6 x1 x2 x3 M 5000 (0 : Int32) (0 : Int32) r h)
def p_X6_markOpen_7 (x1 : Int32) : Nat → Int32 → zM → Option (zM)
  | 0, _, _ => none
  | nn + 1, x2, M =>
  if x2 < 0 then
    some M
  else
    (p_X6_notesFor x1 x2 M).bind fun r14 =>
    if x2 = ((M 3 4) - (1 : Int32)) then
      if x2 < 0 ∨ 12 ≤ x2.toNatClampNeg then none else
      p_X6_markOpen_7 x1 nn (x2 + (-1 : Int32)) (zset M 36 x2.toNatClampNeg r14)
    else
      (p_X6_openAmong x1 x2 r14 M).bind fun r41 =>
      if x2 < 0 ∨ 12 ≤ x2.toNatClampNeg then none else
      p_X6_markOpen_7 x1 nn (x2 + (-1 : Int32)) (zset M 36 x2.toNatClampNeg r41)
set_option maxRecDepth 20000 in
set_option maxHeartbeats 4000000 in
theorem zc_X6_markOpen_7 (x1 : Int32) : ∀ (nn : Nat) (x2 : Int32) (M : zM) (r : zM), p_X6_markOpen_7 x1 nn x2 M = some r → zS Y_X6_markOpen 7 [some (zO 3), some (zI x1), some (zI x2), none] [] M (none, r) := by
  intro nn
  induction nn with
  | zero => intro x2 M r h; cases h
  | succ nn ih =>
  intro x2 M r h
  rw [p_X6_markOpen_7] at h
  refine zS_iload_n dX6_markOpen_7 rfl rfl ?_
  refine zS_if_lt (tgt := 51) dX6_markOpen_8 (by decide) (fun c8 => ?_) (fun c8 => ?_)
  · rw [if_pos c8] at h
    cases h
    exact zS_return dX6_markOpen_51
  · rw [if_neg c8] at h
    refine zS_aload_nO dX6_markOpen_11 rfl rfl ?_
    refine zS_iload_n dX6_markOpen_12 rfl rfl ?_
    refine zS_iload_n dX6_markOpen_13 rfl rfl ?_
    obtain ⟨r14, h14, h⟩ := zbind h
    refine zS_callV (as := [zI x1, zI x2]) (st := []) (ls0 := [some (zO 3), some (zI x1), some (zI x2), none, none]) dX6_markOpen_14 okY_X6_notesFor rfl rfl lay_3 rfl zw_114 zw_115 zw_116 np_X6_notesFor (by decide) (Nat.le_of_ble_eq_true rfl) rfl (Nat.le_of_ble_eq_true rfl) (And.intro rfl (And.intro rfl (And.intro rfl trivial))) (zc_X6_notesFor x1 x2 M h14) ?_
    refine zS_istore_n (ls' := [some (zO 3), some (zI x1), some (zI x2), some (zI r14)]) dX6_markOpen_17 rfl (by decide) rfl rfl ?_
    refine zS_aload_nO dX6_markOpen_18 rfl rfl ?_
    refine gf_3_7 dX6_markOpen_19 zw_123 ?_
    refine zS_iload_n dX6_markOpen_22 rfl rfl ?_
    refine zS_iload_n dX6_markOpen_23 rfl rfl ?_
    refine zS_aload_nO dX6_markOpen_24 rfl rfl ?_
    refine gf_3_4 dX6_markOpen_25 zw_91 ?_
    refine zS_iconst (v := (1 : Int32)) dX6_markOpen_28 (by decide) ?_
    refine zS_isub dX6_markOpen_29 ?_
    refine zS_icmp_ne (tgt := 37) dX6_markOpen_30 (by decide) (fun c30 => ?_) (fun c30 => ?_)
    · rw [if_neg c30] at h
      refine zS_aload_nO dX6_markOpen_37 rfl rfl ?_
      refine zS_iload_n dX6_markOpen_38 rfl rfl ?_
      refine zS_iload_n dX6_markOpen_39 rfl rfl ?_
      refine zS_iload_n dX6_markOpen_40 rfl rfl ?_
      obtain ⟨r41, h41, h⟩ := zbind h
      refine zS_callV (as := [zI x1, zI x2, zI r14]) (st := [zI x2, zA 36 12]) (ls0 := [some (zO 3), some (zI x1), some (zI x2), some (zI r14), none, none]) dX6_markOpen_41 okY_X6_openAmong rfl rfl lay_3 rfl zw_127 zw_128 zw_129 np_X6_openAmong (by decide) (Nat.le_of_ble_eq_true rfl) rfl (Nat.le_of_ble_eq_true rfl) (And.intro rfl (And.intro rfl (And.intro rfl (And.intro rfl trivial)))) (zc_X6_openAmong x1 x2 r14 M h41) ?_
      by_cases b44 : x2 < 0 ∨ 12 ≤ x2.toNatClampNeg
      · rw [if_pos b44] at h; cases h
      rw [if_neg b44] at h
      refine zS_iast b44 dX6_markOpen_44 ?_
      refine zS_iinc (v := x2 + (-1 : Int32)) (ls' := [some (zO 3), some (zI x1), some (zI (x2 + (-1 : Int32))), some (zI r14)]) dX6_markOpen_45 rfl rfl (by decide) rfl rfl ?_
      refine zS_goto (tgt := 7) dX6_markOpen_48 (by decide) ?_
      exact zS_wk [some (zO 3), some (zI x1), some (zI (x2 + (-1 : Int32))), none] (And.intro rfl (And.intro rfl (And.intro rfl trivial))) (ih (x2 + (-1 : Int32)) (zset M 36 x2.toNatClampNeg r41) r h)
    · rw [if_pos c30] at h
      refine zS_iload_n dX6_markOpen_33 rfl rfl ?_
      refine zS_goto (tgt := 44) dX6_markOpen_34 (by decide) ?_
      by_cases b44 : x2 < 0 ∨ 12 ≤ x2.toNatClampNeg
      · rw [if_pos b44] at h; cases h
      rw [if_neg b44] at h
      refine zS_iast b44 dX6_markOpen_44 ?_
      refine zS_iinc (v := x2 + (-1 : Int32)) (ls' := [some (zO 3), some (zI x1), some (zI (x2 + (-1 : Int32))), some (zI r14)]) dX6_markOpen_45 rfl rfl (by decide) rfl rfl ?_
      refine zS_goto (tgt := 7) dX6_markOpen_48 (by decide) ?_
      exact zS_wk [some (zO 3), some (zI x1), some (zI (x2 + (-1 : Int32))), none] (And.intro rfl (And.intro rfl (And.intro rfl trivial))) (ih (x2 + (-1 : Int32)) (zset M 36 x2.toNatClampNeg r14) r h)
def p_X6_markOpen (x1 : Int32) (M : zM) : Option (zM) :=
  p_X6_markOpen_7 x1 5000 ((M 3 4) - (1 : Int32)) M
set_option maxRecDepth 20000 in
set_option maxHeartbeats 4000000 in
theorem zc_X6_markOpen (x1 : Int32) (M : zM) {r : zM} (h : p_X6_markOpen x1 M = some r) : zS Y_X6_markOpen 0 [some (zO 3), some (zI x1), none, none] [] M (none, r) := by
  rw [p_X6_markOpen] at h
  refine zS_aload_nO dX6_markOpen_0 rfl rfl ?_
  refine gf_3_4 dX6_markOpen_1 zw_91 ?_
  refine zS_iconst (v := (1 : Int32)) dX6_markOpen_4 (by decide) ?_
  refine zS_isub dX6_markOpen_5 ?_
  refine zS_istore_n (ls' := [some (zO 3), some (zI x1), some (zI ((M 3 4) - (1 : Int32))), none]) dX6_markOpen_6 rfl (by decide) rfl rfl ?_
  exact zS_wk [some (zO 3), some (zI x1), some (zI ((M 3 4) - (1 : Int32))), none] (And.intro rfl (And.intro rfl (And.intro rfl trivial))) (zc_X6_markOpen_7 x1 5000 ((M 3 4) - (1 : Int32)) M r h)
def p_X6_firstStep_13 (k3 : Int32 → Option (Int32)) (x1 : Int32) (x2 : Int32) (x3 : Int32) (x4 : Int32) (M : zM) : Nat → Int32 → Option (Int32)
  | 0, _ => none
  | nn + 1, x5 =>
  if (8 : Int32) ≤ x5 then
    k3 (x4 + (1 : Int32))
  else
    if x2 < 0 ∨ 12 ≤ x2.toNatClampNeg then none else
    (p_X8_hasBit (M 36 x2.toNatClampNeg) x4).bind fun r28 =>
    if r28 = 0 then
      p_X6_firstStep_13 k3 x1 x2 x3 x4 M nn (x5 + (1 : Int32))
    else
      (p_X6_hasHead x1 x2 x5 M).bind fun r39 =>
      if r39 = 0 then
        p_X6_firstStep_13 k3 x1 x2 x3 x4 M nn (x5 + (1 : Int32))
      else
        (p_X2_joins x5 x3 x4 M).bind fun r54 =>
        if r54 = 0 then
          p_X6_firstStep_13 k3 x1 x2 x3 x4 M nn (x5 + (1 : Int32))
        else
          some (((16 : Int32) * x4) + x5)
set_option maxRecDepth 20000 in
set_option maxHeartbeats 4000000 in
theorem zc_X6_firstStep_13 {k3 : Int32 → Option (Int32)} (x1 : Int32) (x2 : Int32) (x3 : Int32) (x4 : Int32) (M : zM) (hk3 : ∀ (x4 : Int32) (r : Int32), k3 x4 = some r → zS Y_X6_firstStep 3 [some (zO 3), some (zI x1), some (zI x2), some (zI x3), some (zI x4), none] [] M (some r, M)) : ∀ (nn : Nat) (x5 : Int32) (r : Int32), p_X6_firstStep_13 k3 x1 x2 x3 x4 M nn x5 = some r → zS Y_X6_firstStep 13 [some (zO 3), some (zI x1), some (zI x2), some (zI x3), some (zI x4), some (zI x5)] [] M (some r, M) := by
  intro nn
  induction nn with
  | zero => intro x5 r h; cases h
  | succ nn ih =>
  intro x5 r h
  rw [p_X6_firstStep_13] at h
  refine zS_iload dX6_firstStep_13 rfl ?_
  refine zS_bipush (v := (8 : Int32)) dX6_firstStep_15 (by decide) ?_
  refine zS_icmp_ge (tgt := 75) dX6_firstStep_17 (by decide) (fun c17 => ?_) (fun c17 => ?_)
  · rw [if_pos c17] at h
    refine zS_iinc (v := x4 + (1 : Int32)) (ls' := [some (zO 3), some (zI x1), some (zI x2), some (zI x3), some (zI (x4 + (1 : Int32))), some (zI x5)]) dX6_firstStep_75 rfl rfl (by decide) rfl rfl ?_
    refine zS_goto (tgt := 3) dX6_firstStep_78 (by decide) ?_
    exact zS_wk [some (zO 3), some (zI x1), some (zI x2), some (zI x3), some (zI (x4 + (1 : Int32))), none] (And.intro rfl (And.intro rfl (And.intro rfl (And.intro rfl (And.intro rfl trivial))))) (hk3 (x4 + (1 : Int32)) r h)
  · rw [if_neg c17] at h
    refine zS_aload_nO dX6_firstStep_20 rfl rfl ?_
    refine gf_3_7 dX6_firstStep_21 zw_123 ?_
    refine zS_iload_n dX6_firstStep_24 rfl rfl ?_
    by_cases b25 : x2 < 0 ∨ 12 ≤ x2.toNatClampNeg
    · rw [if_pos b25] at h; cases h
    rw [if_neg b25] at h
    refine zS_iald b25 dX6_firstStep_25 ?_
    refine zS_iload dX6_firstStep_26 rfl ?_
    obtain ⟨r28, h28, h⟩ := zbind h
    refine zS_callN (as := [zI (M 36 x2.toNatClampNeg), zI x4]) (st := []) (ls0 := [some (zI (M 36 x2.toNatClampNeg)), some (zI x4)]) dX6_firstStep_28 okY_X8_hasBit rfl rfl zw_24 nw_X6_90 np_X8_hasBit (by decide) (Nat.le_of_ble_eq_true rfl) rfl (Nat.le_of_ble_eq_true rfl) (And.intro rfl (And.intro rfl trivial)) (zc_X8_hasBit (M 36 x2.toNatClampNeg) x4 M h28) ?_
    refine zS_if_eq (tgt := 69) dX6_firstStep_31 (by decide) (fun c31 => ?_) (fun c31 => ?_)
    · rw [if_pos c31] at h
      refine zS_iinc (v := x5 + (1 : Int32)) (ls' := [some (zO 3), some (zI x1), some (zI x2), some (zI x3), some (zI x4), some (zI (x5 + (1 : Int32)))]) dX6_firstStep_69 rfl rfl (by decide) rfl rfl ?_
      refine zS_goto (tgt := 13) dX6_firstStep_72 (by decide) ?_
      exact zS_wk [some (zO 3), some (zI x1), some (zI x2), some (zI x3), some (zI x4), some (zI (x5 + (1 : Int32)))] (And.intro rfl (And.intro rfl (And.intro rfl (And.intro rfl (And.intro rfl (And.intro rfl trivial)))))) (ih (x5 + (1 : Int32)) r h)
    · rw [if_neg c31] at h
      refine zS_aload_nO dX6_firstStep_34 rfl rfl ?_
      refine zS_iload_n dX6_firstStep_35 rfl rfl ?_
      refine zS_iload_n dX6_firstStep_36 rfl rfl ?_
      refine zS_iload dX6_firstStep_37 rfl ?_
      obtain ⟨r39, h39, h⟩ := zbind h
      refine zS_callV (as := [zI x1, zI x2, zI x5]) (st := []) (ls0 := [some (zO 3), some (zI x1), some (zI x2), some (zI x5)]) dX6_firstStep_39 okY_X6_hasHead rfl rfl lay_3 rfl zw_100 zw_101 zw_102 np_X6_hasHead (by decide) (Nat.le_of_ble_eq_true rfl) rfl (Nat.le_of_ble_eq_true rfl) (And.intro rfl (And.intro rfl (And.intro rfl (And.intro rfl trivial)))) (zc_X6_hasHead x1 x2 x5 M h39) ?_
      refine zS_if_eq (tgt := 69) dX6_firstStep_42 (by decide) (fun c42 => ?_) (fun c42 => ?_)
      · rw [if_pos c42] at h
        refine zS_iinc (v := x5 + (1 : Int32)) (ls' := [some (zO 3), some (zI x1), some (zI x2), some (zI x3), some (zI x4), some (zI (x5 + (1 : Int32)))]) dX6_firstStep_69 rfl rfl (by decide) rfl rfl ?_
        refine zS_goto (tgt := 13) dX6_firstStep_72 (by decide) ?_
        exact zS_wk [some (zO 3), some (zI x1), some (zI x2), some (zI x3), some (zI x4), some (zI (x5 + (1 : Int32)))] (And.intro rfl (And.intro rfl (And.intro rfl (And.intro rfl (And.intro rfl (And.intro rfl trivial)))))) (ih (x5 + (1 : Int32)) r h)
      · rw [if_neg c42] at h
        refine zS_aload_nO dX6_firstStep_45 rfl rfl ?_
        refine gf_3_0 dX6_firstStep_46 zw_103 ?_
        refine zS_iload dX6_firstStep_49 rfl ?_
        refine zS_iload_n dX6_firstStep_51 rfl rfl ?_
        refine zS_iload dX6_firstStep_52 rfl ?_
        obtain ⟨r54, h54, h⟩ := zbind h
        refine zS_callV (as := [zI x5, zI x3, zI x4]) (st := []) (ls0 := [some (zO 1), some (zI x5), some (zI x3), some (zI x4)]) dX6_firstStep_54 okY_X2_joins rfl rfl lay_1 rfl zw_28 zw_29 zw_130 np_X2_joins (by decide) (Nat.le_of_ble_eq_true rfl) rfl (Nat.le_of_ble_eq_true rfl) (And.intro rfl (And.intro rfl (And.intro rfl (And.intro rfl trivial)))) (zc_X2_joins x5 x3 x4 M h54) ?_
        refine zS_if_eq (tgt := 69) dX6_firstStep_57 (by decide) (fun c57 => ?_) (fun c57 => ?_)
        · rw [if_pos c57] at h
          refine zS_iinc (v := x5 + (1 : Int32)) (ls' := [some (zO 3), some (zI x1), some (zI x2), some (zI x3), some (zI x4), some (zI (x5 + (1 : Int32)))]) dX6_firstStep_69 rfl rfl (by decide) rfl rfl ?_
          refine zS_goto (tgt := 13) dX6_firstStep_72 (by decide) ?_
          exact zS_wk [some (zO 3), some (zI x1), some (zI x2), some (zI x3), some (zI x4), some (zI (x5 + (1 : Int32)))] (And.intro rfl (And.intro rfl (And.intro rfl (And.intro rfl (And.intro rfl (And.intro rfl trivial)))))) (ih (x5 + (1 : Int32)) r h)
        · rw [if_neg c57] at h
          refine zS_bipush (v := (16 : Int32)) dX6_firstStep_60 (by decide) ?_
          refine zS_iload dX6_firstStep_62 rfl ?_
          refine zS_imul dX6_firstStep_64 ?_
          refine zS_iload dX6_firstStep_65 rfl ?_
          refine zS_iadd dX6_firstStep_67 ?_
          cases h
          exact zS_ireturn dX6_firstStep_68 rfl rfl
def p_X6_firstStep_3 (x1 : Int32) (x2 : Int32) (x3 : Int32) (M : zM) : Nat → Int32 → Option (Int32)
  | 0, _ => none
  | nn + 1, x4 =>
  if (9 : Int32) ≤ x4 then
    some (-1 : Int32)
  else
    p_X6_firstStep_13 (p_X6_firstStep_3 x1 x2 x3 M nn) x1 x2 x3 x4 M 5000 (0 : Int32)
set_option maxRecDepth 20000 in
set_option maxHeartbeats 4000000 in
theorem zc_X6_firstStep_3 (x1 : Int32) (x2 : Int32) (x3 : Int32) (M : zM) : ∀ (nn : Nat) (x4 : Int32) (r : Int32), p_X6_firstStep_3 x1 x2 x3 M nn x4 = some r → zS Y_X6_firstStep 3 [some (zO 3), some (zI x1), some (zI x2), some (zI x3), some (zI x4), none] [] M (some r, M) := by
  intro nn
  induction nn with
  | zero => intro x4 r h; cases h
  | succ nn ih =>
  intro x4 r h
  rw [p_X6_firstStep_3] at h
  refine zS_iload dX6_firstStep_3 rfl ?_
  refine zS_bipush (v := (9 : Int32)) dX6_firstStep_5 (by decide) ?_
  refine zS_icmp_ge (tgt := 81) dX6_firstStep_7 (by decide) (fun c7 => ?_) (fun c7 => ?_)
  · rw [if_pos c7] at h
    refine zS_iconst (v := (-1 : Int32)) dX6_firstStep_81 (by decide) ?_
    cases h
    exact zS_ireturn dX6_firstStep_82 rfl rfl
  · rw [if_neg c7] at h
    refine zS_iconst (v := (0 : Int32)) dX6_firstStep_10 (by decide) ?_
    refine zS_istore (ls' := [some (zO 3), some (zI x1), some (zI x2), some (zI x3), some (zI x4), some (zI (0 : Int32))]) dX6_firstStep_11 (by decide) rfl rfl ?_
    exact zS_wk [some (zO 3), some (zI x1), some (zI x2), some (zI x3), some (zI x4), some (zI (0 : Int32))] (And.intro rfl (And.intro rfl (And.intro rfl (And.intro rfl (And.intro rfl (And.intro rfl trivial)))))) (zc_X6_firstStep_13 x1 x2 x3 x4 M ih 5000 (0 : Int32) r h)
def p_X6_firstStep (x1 : Int32) (x2 : Int32) (x3 : Int32) (M : zM) : Option (Int32) :=
  p_X6_firstStep_3 x1 x2 x3 M 5000 (0 : Int32)
set_option maxRecDepth 20000 in
set_option maxHeartbeats 4000000 in
theorem zc_X6_firstStep (x1 : Int32) (x2 : Int32) (x3 : Int32) (M : zM) {r : Int32} (h : p_X6_firstStep x1 x2 x3 M = some r) : zS Y_X6_firstStep 0 [some (zO 3), some (zI x1), some (zI x2), some (zI x3), none, none] [] M (some r, M) := by
  rw [p_X6_firstStep] at h
  refine zS_iconst (v := (0 : Int32)) dX6_firstStep_0 (by decide) ?_
  refine zS_istore (ls' := [some (zO 3), some (zI x1), some (zI x2), some (zI x3), some (zI (0 : Int32)), none]) dX6_firstStep_1 (by decide) rfl rfl ?_
  exact zS_wk [some (zO 3), some (zI x1), some (zI x2), some (zI x3), some (zI (0 : Int32)), none] (And.intro rfl (And.intro rfl (And.intro rfl (And.intro rfl (And.intro rfl trivial))))) (zc_X6_firstStep_3 x1 x2 x3 M 5000 (0 : Int32) r h)
def p_X6_firstRowAt_23 (x1 : Int32) (x2 : Int32) (M : zM) : Nat → Int32 → Int32 → Int32 → Option (Int32 × zM)
  | 0, _, _, _ => none
  | nn + 1, x3, x4, x5 =>
  if x2 < x5 then
    some (x4, M)
  else
    (p_X6_firstStep x1 x5 x3 M).bind fun r34 =>
    if r34 = (-1 : Int32) then
      some ((-1 : Int32), M)
    else
      p_X6_firstRowAt_23 x1 x2 M nn (r34 / (16 : Int32)) r34 (x5 + (1 : Int32))
set_option maxRecDepth 20000 in
set_option maxHeartbeats 4000000 in
theorem zc_X6_firstRowAt_23 (x1 : Int32) (x2 : Int32) (M : zM) : ∀ (nn : Nat) (x3 : Int32) (x4 : Int32) (x5 : Int32) (r : Int32 × zM), p_X6_firstRowAt_23 x1 x2 M nn x3 x4 x5 = some r → zS Y_X6_firstRowAt 23 [some (zO 3), some (zI x1), some (zI x2), some (zI x3), some (zI x4), some (zI x5)] [] M (some r.1, r.2) := by
  intro nn
  induction nn with
  | zero => intro x3 x4 x5 r h; cases h
  | succ nn ih =>
  intro x3 x4 x5 r h
  rw [p_X6_firstRowAt_23] at h
  refine zS_iload dX6_firstRowAt_23 rfl ?_
  refine zS_iload_n dX6_firstRowAt_25 rfl rfl ?_
  refine zS_icmp_gt (tgt := 59) dX6_firstRowAt_26 (by decide) (fun c26 => ?_) (fun c26 => ?_)
  · rw [if_pos c26] at h
    refine zS_iload dX6_firstRowAt_59 rfl ?_
    cases h
    exact zS_ireturn dX6_firstRowAt_61 rfl rfl
  · rw [if_neg c26] at h
    refine zS_aload_nO dX6_firstRowAt_29 rfl rfl ?_
    refine zS_iload_n dX6_firstRowAt_30 rfl rfl ?_
    refine zS_iload dX6_firstRowAt_31 rfl ?_
    refine zS_iload_n dX6_firstRowAt_33 rfl rfl ?_
    obtain ⟨r34, h34, h⟩ := zbind h
    refine zS_callV (as := [zI x1, zI x5, zI x3]) (st := []) (ls0 := [some (zO 3), some (zI x1), some (zI x5), some (zI x3), none, none]) dX6_firstRowAt_34 okY_X6_firstStep rfl rfl lay_3 rfl zw_131 zw_132 zw_133 np_X6_firstStep (by decide) (Nat.le_of_ble_eq_true rfl) rfl (Nat.le_of_ble_eq_true rfl) (And.intro rfl (And.intro rfl (And.intro rfl (And.intro rfl trivial)))) (zc_X6_firstStep x1 x5 x3 M h34) ?_
    refine zS_istore (ls' := [some (zO 3), some (zI x1), some (zI x2), some (zI x3), some (zI r34), some (zI x5)]) dX6_firstRowAt_37 (by decide) rfl rfl ?_
    refine zS_iload dX6_firstRowAt_39 rfl ?_
    refine zS_iconst (v := (-1 : Int32)) dX6_firstRowAt_41 (by decide) ?_
    refine zS_icmp_ne (tgt := 47) dX6_firstRowAt_42 (by decide) (fun c42 => ?_) (fun c42 => ?_)
    · rw [if_neg c42] at h
      refine zS_iload dX6_firstRowAt_47 rfl ?_
      refine zS_bipush (v := (16 : Int32)) dX6_firstRowAt_49 (by decide) ?_
      refine zS_idiv (by decide) dX6_firstRowAt_51 ?_
      refine zS_istore_n (ls' := [some (zO 3), some (zI x1), some (zI x2), some (zI (r34 / (16 : Int32))), some (zI r34), some (zI x5)]) dX6_firstRowAt_52 rfl (by decide) rfl rfl ?_
      refine zS_iinc (v := x5 + (1 : Int32)) (ls' := [some (zO 3), some (zI x1), some (zI x2), some (zI (r34 / (16 : Int32))), some (zI r34), some (zI (x5 + (1 : Int32)))]) dX6_firstRowAt_53 rfl rfl (by decide) rfl rfl ?_
      refine zS_goto (tgt := 23) dX6_firstRowAt_56 (by decide) ?_
      exact zS_wk [some (zO 3), some (zI x1), some (zI x2), some (zI (r34 / (16 : Int32))), some (zI r34), some (zI (x5 + (1 : Int32)))] (And.intro rfl (And.intro rfl (And.intro rfl (And.intro rfl (And.intro rfl (And.intro rfl trivial)))))) (ih (r34 / (16 : Int32)) r34 (x5 + (1 : Int32)) r h)
    · rw [if_pos c42] at h
      refine zS_iconst (v := (-1 : Int32)) dX6_firstRowAt_45 (by decide) ?_
      cases h
      exact zS_ireturn dX6_firstRowAt_46 rfl rfl
def p_X6_firstRowAt (x1 : Int32) (x2 : Int32) (M : zM) : Option (Int32 × zM) :=
  if x2 < (M 3 4) then
    (p_X6_markOpen x1 M).bind fun M12 =>
    p_X6_firstRowAt_23 x1 x2 M12 5000 (-1 : Int32) (-1 : Int32) (0 : Int32)
  else
    some ((-1 : Int32), M)
set_option maxRecDepth 20000 in
set_option maxHeartbeats 4000000 in
theorem zc_X6_firstRowAt (x1 : Int32) (x2 : Int32) (M : zM) {r : Int32 × zM} (h : p_X6_firstRowAt x1 x2 M = some r) : zS Y_X6_firstRowAt 0 [some (zO 3), some (zI x1), some (zI x2), none, none, none] [] M (some r.1, r.2) := by
  rw [p_X6_firstRowAt] at h
  refine zS_iload_n dX6_firstRowAt_0 rfl rfl ?_
  refine zS_aload_nO dX6_firstRowAt_1 rfl rfl ?_
  refine gf_3_4 dX6_firstRowAt_2 zw_91 ?_
  refine zS_icmp_lt (tgt := 10) dX6_firstRowAt_5 (by decide) (fun c5 => ?_) (fun c5 => ?_)
  · rw [if_pos c5] at h
    refine zS_aload_nO dX6_firstRowAt_10 rfl rfl ?_
    refine zS_iload_n dX6_firstRowAt_11 rfl rfl ?_
    obtain ⟨M12, h12, h⟩ := zbind h
    refine zS_callVv (as := [zI x1]) (st := []) (ls0 := [some (zO 3), some (zI x1), none, none]) dX6_firstRowAt_12 okY_X6_markOpen rfl rfl lay_3 rfl zw_134 zw_135 zw_136 np_X6_markOpen (by decide) (Nat.le_of_ble_eq_true rfl) rfl (Nat.le_of_ble_eq_true rfl) (And.intro rfl (And.intro rfl trivial)) (zc_X6_markOpen x1 M h12) ?_
    refine zS_iconst (v := (-1 : Int32)) dX6_firstRowAt_15 (by decide) ?_
    refine zS_istore_n (ls' := [some (zO 3), some (zI x1), some (zI x2), some (zI (-1 : Int32)), none, none]) dX6_firstRowAt_16 rfl (by decide) rfl rfl ?_
    refine zS_iconst (v := (-1 : Int32)) dX6_firstRowAt_17 (by decide) ?_
    refine zS_istore (ls' := [some (zO 3), some (zI x1), some (zI x2), some (zI (-1 : Int32)), some (zI (-1 : Int32)), none]) dX6_firstRowAt_18 (by decide) rfl rfl ?_
    refine zS_iconst (v := (0 : Int32)) dX6_firstRowAt_20 (by decide) ?_
    refine zS_istore (ls' := [some (zO 3), some (zI x1), some (zI x2), some (zI (-1 : Int32)), some (zI (-1 : Int32)), some (zI (0 : Int32))]) dX6_firstRowAt_21 (by decide) rfl rfl ?_
    exact zS_wk [some (zO 3), some (zI x1), some (zI x2), some (zI (-1 : Int32)), some (zI (-1 : Int32)), some (zI (0 : Int32))] (And.intro rfl (And.intro rfl (And.intro rfl (And.intro rfl (And.intro rfl (And.intro rfl trivial)))))) (zc_X6_firstRowAt_23 x1 x2 M12 5000 (-1 : Int32) (-1 : Int32) (0 : Int32) r h)
  · rw [if_neg c5] at h
    refine zS_iconst (v := (-1 : Int32)) dX6_firstRowAt_8 (by decide) ?_
    cases h
    exact zS_ireturn dX6_firstRowAt_9 rfl rfl
def p_X6_homeRegion_6 : Nat → Int32 → Int32 → Int32 → zM → Option (Int32 × zM)
  | 0, _, _, _, _ => none
  | nn + 1, x1, x2, x3, M =>
  if (3 : Int32) ≤ x3 then
    some (x1, M)
  else
    (p_X6_rows x3 M).bind fun q13 =>
    if q13.1 ≤ 0 then
      p_X6_homeRegion_6 nn x1 x2 (x3 + (1 : Int32)) q13.2
    else
      if x1 = (-1 : Int32) then
        p_X6_homeRegion_6 nn x3 q13.1 (x3 + (1 : Int32)) q13.2
      else
        if x2 ≤ q13.1 then
          p_X6_homeRegion_6 nn x1 x2 (x3 + (1 : Int32)) q13.2
        else
          p_X6_homeRegion_6 nn x3 q13.1 (x3 + (1 : Int32)) q13.2
set_option maxRecDepth 20000 in
set_option maxHeartbeats 4000000 in
theorem zc_X6_homeRegion_6 : ∀ (nn : Nat) (x1 : Int32) (x2 : Int32) (x3 : Int32) (M : zM) (r : Int32 × zM), p_X6_homeRegion_6 nn x1 x2 x3 M = some r → zS Y_X6_homeRegion 6 [some (zO 3), some (zI x1), some (zI x2), some (zI x3), none] [] M (some r.1, r.2) := by
  intro nn
  induction nn with
  | zero => intro x1 x2 x3 M r h; cases h
  | succ nn ih =>
  intro x1 x2 x3 M r h
  rw [p_X6_homeRegion_6] at h
  refine zS_iload_n dX6_homeRegion_6 rfl rfl ?_
  refine zS_iconst (v := (3 : Int32)) dX6_homeRegion_7 (by decide) ?_
  refine zS_icmp_ge (tgt := 45) dX6_homeRegion_8 (by decide) (fun c8 => ?_) (fun c8 => ?_)
  · rw [if_pos c8] at h
    refine zS_iload_n dX6_homeRegion_45 rfl rfl ?_
    cases h
    exact zS_ireturn dX6_homeRegion_46 rfl rfl
  · rw [if_neg c8] at h
    refine zS_aload_nO dX6_homeRegion_11 rfl rfl ?_
    refine zS_iload_n dX6_homeRegion_12 rfl rfl ?_
    obtain ⟨q13, h13, h⟩ := zbind h
    refine zS_callV (as := [zI x3]) (st := []) (ls0 := [some (zO 3), some (zI x3), none, none]) dX6_homeRegion_13 okY_X6_rows rfl rfl lay_3 rfl zw_120 zw_121 zw_140 np_X6_rows (by decide) (Nat.le_of_ble_eq_true rfl) rfl (Nat.le_of_ble_eq_true rfl) (And.intro rfl (And.intro rfl trivial)) (zc_X6_rows x3 M h13) ?_
    refine zS_istore (ls' := [some (zO 3), some (zI x1), some (zI x2), some (zI x3), some (zI q13.1)]) dX6_homeRegion_16 (by decide) rfl rfl ?_
    refine zS_iload dX6_homeRegion_18 rfl ?_
    refine zS_if_le (tgt := 39) dX6_homeRegion_20 (by decide) (fun c20 => ?_) (fun c20 => ?_)
    · rw [if_pos c20] at h
      refine zS_iinc (v := x3 + (1 : Int32)) (ls' := [some (zO 3), some (zI x1), some (zI x2), some (zI (x3 + (1 : Int32))), some (zI q13.1)]) dX6_homeRegion_39 rfl rfl (by decide) rfl rfl ?_
      refine zS_goto (tgt := 6) dX6_homeRegion_42 (by decide) ?_
      exact zS_wk [some (zO 3), some (zI x1), some (zI x2), some (zI (x3 + (1 : Int32))), none] (And.intro rfl (And.intro rfl (And.intro rfl (And.intro rfl trivial)))) (ih x1 x2 (x3 + (1 : Int32)) q13.2 r h)
    · rw [if_neg c20] at h
      refine zS_iload_n dX6_homeRegion_23 rfl rfl ?_
      refine zS_iconst (v := (-1 : Int32)) dX6_homeRegion_24 (by decide) ?_
      refine zS_icmp_eq (tgt := 34) dX6_homeRegion_25 (by decide) (fun c25 => ?_) (fun c25 => ?_)
      · rw [if_pos c25] at h
        refine zS_iload_n dX6_homeRegion_34 rfl rfl ?_
        refine zS_istore_n (ls' := [some (zO 3), some (zI x3), some (zI x2), some (zI x3), some (zI q13.1)]) dX6_homeRegion_35 rfl (by decide) rfl rfl ?_
        refine zS_iload dX6_homeRegion_36 rfl ?_
        refine zS_istore_n (ls' := [some (zO 3), some (zI x3), some (zI q13.1), some (zI x3), some (zI q13.1)]) dX6_homeRegion_38 rfl (by decide) rfl rfl ?_
        refine zS_iinc (v := x3 + (1 : Int32)) (ls' := [some (zO 3), some (zI x3), some (zI q13.1), some (zI (x3 + (1 : Int32))), some (zI q13.1)]) dX6_homeRegion_39 rfl rfl (by decide) rfl rfl ?_
        refine zS_goto (tgt := 6) dX6_homeRegion_42 (by decide) ?_
        exact zS_wk [some (zO 3), some (zI x3), some (zI q13.1), some (zI (x3 + (1 : Int32))), none] (And.intro rfl (And.intro rfl (And.intro rfl (And.intro rfl trivial)))) (ih x3 q13.1 (x3 + (1 : Int32)) q13.2 r h)
      · rw [if_neg c25] at h
        refine zS_iload dX6_homeRegion_28 rfl ?_
        refine zS_iload_n dX6_homeRegion_30 rfl rfl ?_
        refine zS_icmp_ge (tgt := 39) dX6_homeRegion_31 (by decide) (fun c31 => ?_) (fun c31 => ?_)
        · rw [if_pos c31] at h
          refine zS_iinc (v := x3 + (1 : Int32)) (ls' := [some (zO 3), some (zI x1), some (zI x2), some (zI (x3 + (1 : Int32))), some (zI q13.1)]) dX6_homeRegion_39 rfl rfl (by decide) rfl rfl ?_
          refine zS_goto (tgt := 6) dX6_homeRegion_42 (by decide) ?_
          exact zS_wk [some (zO 3), some (zI x1), some (zI x2), some (zI (x3 + (1 : Int32))), none] (And.intro rfl (And.intro rfl (And.intro rfl (And.intro rfl trivial)))) (ih x1 x2 (x3 + (1 : Int32)) q13.2 r h)
        · rw [if_neg c31] at h
          refine zS_iload_n dX6_homeRegion_34 rfl rfl ?_
          refine zS_istore_n (ls' := [some (zO 3), some (zI x3), some (zI x2), some (zI x3), some (zI q13.1)]) dX6_homeRegion_35 rfl (by decide) rfl rfl ?_
          refine zS_iload dX6_homeRegion_36 rfl ?_
          refine zS_istore_n (ls' := [some (zO 3), some (zI x3), some (zI q13.1), some (zI x3), some (zI q13.1)]) dX6_homeRegion_38 rfl (by decide) rfl rfl ?_
          refine zS_iinc (v := x3 + (1 : Int32)) (ls' := [some (zO 3), some (zI x3), some (zI q13.1), some (zI (x3 + (1 : Int32))), some (zI q13.1)]) dX6_homeRegion_39 rfl rfl (by decide) rfl rfl ?_
          refine zS_goto (tgt := 6) dX6_homeRegion_42 (by decide) ?_
          exact zS_wk [some (zO 3), some (zI x3), some (zI q13.1), some (zI (x3 + (1 : Int32))), none] (And.intro rfl (And.intro rfl (And.intro rfl (And.intro rfl trivial)))) (ih x3 q13.1 (x3 + (1 : Int32)) q13.2 r h)
def p_X6_homeRegion (M : zM) : Option (Int32 × zM) :=
  p_X6_homeRegion_6 5000 (-1 : Int32) (0 : Int32) (0 : Int32) M
set_option maxRecDepth 20000 in
set_option maxHeartbeats 4000000 in
theorem zc_X6_homeRegion (M : zM) {r : Int32 × zM} (h : p_X6_homeRegion M = some r) : zS Y_X6_homeRegion 0 [some (zO 3), none, none, none, none] [] M (some r.1, r.2) := by
  rw [p_X6_homeRegion] at h
  refine zS_iconst (v := (-1 : Int32)) dX6_homeRegion_0 (by decide) ?_
  refine zS_istore_n (ls' := [some (zO 3), some (zI (-1 : Int32)), none, none, none]) dX6_homeRegion_1 rfl (by decide) rfl rfl ?_
  refine zS_iconst (v := (0 : Int32)) dX6_homeRegion_2 (by decide) ?_
  refine zS_istore_n (ls' := [some (zO 3), some (zI (-1 : Int32)), some (zI (0 : Int32)), none, none]) dX6_homeRegion_3 rfl (by decide) rfl rfl ?_
  refine zS_iconst (v := (0 : Int32)) dX6_homeRegion_4 (by decide) ?_
  refine zS_istore_n (ls' := [some (zO 3), some (zI (-1 : Int32)), some (zI (0 : Int32)), some (zI (0 : Int32)), none]) dX6_homeRegion_5 rfl (by decide) rfl rfl ?_
  exact zS_wk [some (zO 3), some (zI (-1 : Int32)), some (zI (0 : Int32)), some (zI (0 : Int32)), none] (And.intro rfl (And.intro rfl (And.intro rfl (And.intro rfl trivial)))) (zc_X6_homeRegion_6 5000 (-1 : Int32) (0 : Int32) (0 : Int32) M r h)
