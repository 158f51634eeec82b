def p_X5_useRule_2 (x1 : Int32) (M : zM) : Nat → Int32 → Option (Int32)
  | 0, _ => none
  | nn + 1, x2 =>
  if (M 6 4) ≤ x2 then
    some (0 : Int32)
  else
    if x2 < 0 ∨ 3 ≤ x2.toNatClampNeg then none else
    if (M 45 x2.toNatClampNeg) = x1 then
      some (1 : Int32)
    else
      p_X5_useRule_2 x1 M nn (x2 + (1 : Int32))
set_option maxRecDepth 20000 in
set_option maxHeartbeats 4000000 in
theorem zc_X5_useRule_2 (x1 : Int32) (M : zM) : ∀ (nn : Nat) (x2 : Int32) (r : Int32), p_X5_useRule_2 x1 M nn x2 = some r → zS Y_X5_useRule 2 [some (zO 6), some (zI x1), some (zI x2)] [] M (some r, M) := by
  intro nn
  induction nn with
  | zero => intro x2 r h; cases h
  | succ nn ih =>
  intro x2 r h
  rw [p_X5_useRule_2] at h
  refine zS_iload_n dX5_useRule_2 rfl rfl ?_
  refine zS_aload_nO dX5_useRule_3 rfl rfl ?_
  refine gf_6_4 dX5_useRule_4 zw_144 ?_
  refine zS_icmp_ge (tgt := 28) dX5_useRule_7 (by decide) (fun c7 => ?_) (fun c7 => ?_)
  · rw [if_pos c7] at h
    refine zS_iconst (v := (0 : Int32)) dX5_useRule_28 (by decide) ?_
    cases h
    exact zS_ireturn dX5_useRule_29 rfl rfl
  · rw [if_neg c7] at h
    refine zS_aload_nO dX5_useRule_10 rfl rfl ?_
    refine gf_6_1 dX5_useRule_11 zw_145 ?_
    refine zS_iload_n dX5_useRule_14 rfl rfl ?_
    by_cases b15 : x2 < 0 ∨ 3 ≤ x2.toNatClampNeg
    · rw [if_pos b15] at h; cases h
    rw [if_neg b15] at h
    refine zS_iald b15 dX5_useRule_15 ?_
    refine zS_iload_n dX5_useRule_16 rfl rfl ?_
    refine zS_icmp_ne (tgt := 22) dX5_useRule_17 (by decide) (fun c17 => ?_) (fun c17 => ?_)
    · rw [if_neg c17] at h
      refine zS_iinc (v := x2 + (1 : Int32)) (ls' := [some (zO 6), some (zI x1), some (zI (x2 + (1 : Int32)))]) dX5_useRule_22 rfl rfl (by decide) rfl rfl ?_
      refine zS_goto (tgt := 2) dX5_useRule_25 (by decide) ?_
      exact zS_wk [some (zO 6), some (zI x1), some (zI (x2 + (1 : Int32)))] (And.intro rfl (And.intro rfl (And.intro rfl trivial))) (ih (x2 + (1 : Int32)) r h)
    · rw [if_pos c17] at h
      refine zS_iconst (v := (1 : Int32)) dX5_useRule_20 (by decide) ?_
      cases h
      exact zS_ireturn dX5_useRule_21 rfl rfl
def p_X5_useRule (x1 : Int32) (M : zM) : Option (Int32) :=
  p_X5_useRule_2 x1 M 5000 (0 : Int32)
set_option maxRecDepth 20000 in
set_option maxHeartbeats 4000000 in
theorem zc_X5_useRule (x1 : Int32) (M : zM) {r : Int32} (h : p_X5_useRule x1 M = some r) : zS Y_X5_useRule 0 [some (zO 6), some (zI x1), none] [] M (some r, M) := by
  rw [p_X5_useRule] at h
  refine zS_iconst (v := (0 : Int32)) dX5_useRule_0 (by decide) ?_
  refine zS_istore_n (ls' := [some (zO 6), some (zI x1), some (zI (0 : Int32))]) dX5_useRule_1 rfl (by decide) rfl rfl ?_
  exact zS_wk [some (zO 6), some (zI x1), some (zI (0 : Int32))] (And.intro rfl (And.intro rfl (And.intro rfl trivial))) (zc_X5_useRule_2 x1 M 5000 (0 : Int32) r h)
def p_X5_accept (x1 : Int32) (x2 : Int32) (M : zM) : Option (Int32) :=
  if (M 6 4) = 0 then
    some (1 : Int32)
  else
    if x1 = (M 6 5) then
      if x2 = (M 6 6) then
        some (1 : Int32)
      else
        some (0 : Int32)
    else
      some (0 : Int32)
set_option maxRecDepth 20000 in
set_option maxHeartbeats 4000000 in
theorem zc_X5_accept (x1 : Int32) (x2 : Int32) (M : zM) {r : Int32} (h : p_X5_accept x1 x2 M = some r) : zS Y_X5_accept 0 [some (zO 6), some (zI x1), some (zI x2)] [] M (some r, M) := by
  rw [p_X5_accept] at h
  refine zS_aload_nO dX5_accept_0 rfl rfl ?_
  refine gf_6_4 dX5_accept_1 zw_144 ?_
  refine zS_if_eq (tgt := 23) dX5_accept_4 (by decide) (fun c4 => ?_) (fun c4 => ?_)
  · rw [if_pos c4] at h
    refine zS_iconst (v := (1 : Int32)) dX5_accept_23 (by decide) ?_
    refine zS_goto (tgt := 28) dX5_accept_24 (by decide) ?_
    cases h
    exact zS_ireturn dX5_accept_28 rfl rfl
  · rw [if_neg c4] at h
    refine zS_iload_n dX5_accept_7 rfl rfl ?_
    refine zS_aload_nO dX5_accept_8 rfl rfl ?_
    refine gf_6_5 dX5_accept_9 zw_175 ?_
    refine zS_icmp_ne (tgt := 27) dX5_accept_12 (by decide) (fun c12 => ?_) (fun c12 => ?_)
    · rw [if_neg c12] at h
      refine zS_iconst (v := (0 : Int32)) dX5_accept_27 (by decide) ?_
      cases h
      exact zS_ireturn dX5_accept_28 rfl rfl
    · rw [if_pos c12] at h
      refine zS_iload_n dX5_accept_15 rfl rfl ?_
      refine zS_aload_nO dX5_accept_16 rfl rfl ?_
      refine gf_6_6 dX5_accept_17 zw_176 ?_
      refine zS_icmp_ne (tgt := 27) dX5_accept_20 (by decide) (fun c20 => ?_) (fun c20 => ?_)
      · rw [if_neg c20] at h
        refine zS_iconst (v := (0 : Int32)) dX5_accept_27 (by decide) ?_
        cases h
        exact zS_ireturn dX5_accept_28 rfl rfl
      · rw [if_pos c20] at h
        refine zS_iconst (v := (1 : Int32)) dX5_accept_23 (by decide) ?_
        refine zS_goto (tgt := 28) dX5_accept_24 (by decide) ?_
        cases h
        exact zS_ireturn dX5_accept_28 rfl rfl
def p_X5_append (x1 : Int32) (x2 : Int32) (x3 : Int32) (M : zM) : Option (Int32 × zM) :=
  if (zset (zset M 6 5 x2) 6 6 x3) 6 4 < 0 ∨ 3 ≤ ((zset (zset M 6 5 x2) 6 6 x3) 6 4).toNatClampNeg then none else
  (p_X4_variationSize x1 x2 x3 (zset (zset (zset M 6 5 x2) 6 6 x3) 45 (((zset (zset M 6 5 x2) 6 6 x3) 6 4).toNatClampNeg) x1)).bind fun r35 =>
  if (zset (zset (zset M 6 5 x2) 6 6 x3) 45 (((zset (zset M 6 5 x2) 6 6 x3) 6 4).toNatClampNeg) x1) 6 4 < 0 ∨ 3 ≤ ((zset (zset (zset M 6 5 x2) 6 6 x3) 45 (((zset (zset M 6 5 x2) 6 6 x3) 6 4).toNatClampNeg) x1) 6 4).toNatClampNeg then none else
  if (zset (zset (zset (zset M 6 5 x2) 6 6 x3) 45 (((zset (zset M 6 5 x2) 6 6 x3) 6 4).toNatClampNeg) x1) 46 (((zset (zset (zset M 6 5 x2) 6 6 x3) 45 (((zset (zset M 6 5 x2) 6 6 x3) 6 4).toNatClampNeg) x1) 6 4).toNatClampNeg) r35) 6 4 < 0 ∨ 3 ≤ ((zset (zset (zset (zset M 6 5 x2) 6 6 x3) 45 (((zset (zset M 6 5 x2) 6 6 x3) 6 4).toNatClampNeg) x1) 46 (((zset (zset (zset M 6 5 x2) 6 6 x3) 45 (((zset (zset M 6 5 x2) 6 6 x3) 6 4).toNatClampNeg) x1) 6 4).toNatClampNeg) r35) 6 4).toNatClampNeg then none else
  (p_J7_fill_53178 (48 + ((zset (zset (zset (zset M 6 5 x2) 6 6 x3) 45 (((zset (zset M 6 5 x2) 6 6 x3) 6 4).toNatClampNeg) x1) 46 (((zset (zset (zset M 6 5 x2) 6 6 x3) 45 (((zset (zset M 6 5 x2) 6 6 x3) 6 4).toNatClampNeg) x1) 6 4).toNatClampNeg) r35) 6 4).toNatClampNeg) 64 (-1 : Int32) (zset (zset (zset (zset M 6 5 x2) 6 6 x3) 45 (((zset (zset M 6 5 x2) 6 6 x3) 6 4).toNatClampNeg) x1) 46 (((zset (zset (zset M 6 5 x2) 6 6 x3) 45 (((zset (zset M 6 5 x2) 6 6 x3) 6 4).toNatClampNeg) x1) 6 4).toNatClampNeg) r35)).bind fun M49 =>
  some (((zset M49 6 4 ((M49 6 4) + (1 : Int32))) 6 4) - (1 : Int32), zset M49 6 4 ((M49 6 4) + (1 : Int32)))
set_option maxRecDepth 20000 in
set_option maxHeartbeats 4000000 in
theorem zc_X5_append (x1 : Int32) (x2 : Int32) (x3 : Int32) (M : zM) {r : Int32 × zM} (h : p_X5_append x1 x2 x3 M = some r) : zS Y_X5_append 0 [some (zO 6), some (zI x1), some (zI x2), some (zI x3)] [] M (some r.1, r.2) := by
  rw [p_X5_append] at h
  refine zS_aload_nO dX5_append_0 rfl rfl ?_
  refine zS_iload_n dX5_append_1 rfl rfl ?_
  refine pf_6_5 dX5_append_2 zw_175 ?_
  refine zS_aload_nO dX5_append_5 rfl rfl ?_
  refine zS_iload_n dX5_append_6 rfl rfl ?_
  refine pf_6_6 dX5_append_7 zw_176 ?_
  refine zS_aload_nO dX5_append_10 rfl rfl ?_
  refine gf_6_1 dX5_append_11 zw_145 ?_
  refine zS_aload_nO dX5_append_14 rfl rfl ?_
  refine gf_6_4 dX5_append_15 zw_144 ?_
  refine zS_iload_n dX5_append_18 rfl rfl ?_
  by_cases b19 : (zset (zset M 6 5 x2) 6 6 x3) 6 4 < 0 ∨ 3 ≤ ((zset (zset M 6 5 x2) 6 6 x3) 6 4).toNatClampNeg
  · rw [if_pos b19] at h; cases h
  rw [if_neg b19] at h
  refine zS_iast b19 dX5_append_19 ?_
  refine zS_aload_nO dX5_append_20 rfl rfl ?_
  refine gf_6_2 dX5_append_21 zw_182 ?_
  refine zS_aload_nO dX5_append_24 rfl rfl ?_
  refine gf_6_4 dX5_append_25 zw_144 ?_
  refine zS_aload_nO dX5_append_28 rfl rfl ?_
  refine gf_6_0 dX5_append_29 zw_183 ?_
  refine zS_iload_n dX5_append_32 rfl rfl ?_
  refine zS_iload_n dX5_append_33 rfl rfl ?_
  refine zS_iload_n dX5_append_34 rfl rfl ?_
  obtain ⟨r35, h35, h⟩ := zbind h
  refine zS_callV (as := [zI x1, zI x2, zI x3]) (st := [zI ((zset (zset (zset M 6 5 x2) 6 6 x3) 45 (((zset (zset M 6 5 x2) 6 6 x3) 6 4).toNatClampNeg) x1) 6 4), zA 46 3]) (ls0 := [some (zO 4), some (zI x1), some (zI x2), some (zI x3), none]) dX5_append_35 okY_X4_variationSize rfl rfl lay_4 rfl zw_184 zw_185 zw_186 np_X4_variationSize (by decide) (Nat.le_of_ble_eq_true rfl) rfl (Nat.le_of_ble_eq_true rfl) (And.intro rfl (And.intro rfl (And.intro rfl (And.intro rfl trivial)))) (zc_X4_variationSize x1 x2 x3 (zset (zset (zset M 6 5 x2) 6 6 x3) 45 (((zset (zset M 6 5 x2) 6 6 x3) 6 4).toNatClampNeg) x1) h35) ?_
  by_cases b38 : (zset (zset (zset M 6 5 x2) 6 6 x3) 45 (((zset (zset M 6 5 x2) 6 6 x3) 6 4).toNatClampNeg) x1) 6 4 < 0 ∨ 3 ≤ ((zset (zset (zset M 6 5 x2) 6 6 x3) 45 (((zset (zset M 6 5 x2) 6 6 x3) 6 4).toNatClampNeg) x1) 6 4).toNatClampNeg
  · rw [if_pos b38] at h; cases h
  rw [if_neg b38] at h
  refine zS_iast b38 dX5_append_38 ?_
  refine zS_aload_nO dX5_append_39 rfl rfl ?_
  refine gf_6_3 dX5_append_40 zw_187 ?_
  refine zS_aload_nO dX5_append_43 rfl rfl ?_
  refine gf_6_4 dX5_append_44 zw_144 ?_
  by_cases b47 : (zset (zset (zset (zset M 6 5 x2) 6 6 x3) 45 (((zset (zset M 6 5 x2) 6 6 x3) 6 4).toNatClampNeg) x1) 46 (((zset (zset (zset M 6 5 x2) 6 6 x3) 45 (((zset (zset M 6 5 x2) 6 6 x3) 6 4).toNatClampNeg) x1) 6 4).toNatClampNeg) r35) 6 4 < 0 ∨ 3 ≤ ((zset (zset (zset (zset M 6 5 x2) 6 6 x3) 45 (((zset (zset M 6 5 x2) 6 6 x3) 6 4).toNatClampNeg) x1) 46 (((zset (zset (zset M 6 5 x2) 6 6 x3) 45 (((zset (zset M 6 5 x2) 6 6 x3) 6 4).toNatClampNeg) x1) 6 4).toNatClampNeg) r35) 6 4).toNatClampNeg
  · rw [if_pos b47] at h; cases h
  rw [if_neg b47] at h
  refine zS_aald lay_47 b47 dX5_append_47 ?_
  refine zS_iconst (v := (-1 : Int32)) dX5_append_48 (by decide) ?_
  obtain ⟨M49, h49, h⟩ := zbind h
  refine zS_callSv (as := [zA (48 + ((zset (zset (zset (zset M 6 5 x2) 6 6 x3) 45 (((zset (zset M 6 5 x2) 6 6 x3) 6 4).toNatClampNeg) x1) 46 (((zset (zset (zset M 6 5 x2) 6 6 x3) 45 (((zset (zset M 6 5 x2) 6 6 x3) 6 4).toNatClampNeg) x1) 6 4).toNatClampNeg) r35) 6 4).toNatClampNeg) 64, zI (-1 : Int32)]) (st := []) (ls0 := [some (zA (48 + ((zset (zset (zset (zset M 6 5 x2) 6 6 x3) 45 (((zset (zset M 6 5 x2) 6 6 x3) 6 4).toNatClampNeg) x1) 46 (((zset (zset (zset M 6 5 x2) 6 6 x3) 45 (((zset (zset M 6 5 x2) 6 6 x3) 6 4).toNatClampNeg) x1) 6 4).toNatClampNeg) r35) 6 4).toNatClampNeg) 64), some (zI (-1 : Int32)), none, none]) dX5_append_49 okY_J7_fill_53178 rfl rfl zw_112 zw_188 np_J7_fill_53178 (by decide) (Nat.le_of_ble_eq_true rfl) rfl (Nat.le_of_ble_eq_true rfl) (And.intro rfl (And.intro rfl trivial)) (zc_J7_fill_53178 (48 + ((zset (zset (zset (zset M 6 5 x2) 6 6 x3) 45 (((zset (zset M 6 5 x2) 6 6 x3) 6 4).toNatClampNeg) x1) 46 (((zset (zset (zset M 6 5 x2) 6 6 x3) 45 (((zset (zset M 6 5 x2) 6 6 x3) 6 4).toNatClampNeg) x1) 6 4).toNatClampNeg) r35) 6 4).toNatClampNeg) 64 (-1 : Int32) (zset (zset (zset (zset M 6 5 x2) 6 6 x3) 45 (((zset (zset M 6 5 x2) 6 6 x3) 6 4).toNatClampNeg) x1) 46 (((zset (zset (zset M 6 5 x2) 6 6 x3) 45 (((zset (zset M 6 5 x2) 6 6 x3) 6 4).toNatClampNeg) x1) 6 4).toNatClampNeg) r35) h49) ?_
  refine zS_aload_nO dX5_append_52 rfl rfl ?_
  refine zS_dup dX5_append_53 rfl ?_
  refine gf_6_4 dX5_append_54 zw_144 ?_
  refine zS_iconst (v := (1 : Int32)) dX5_append_57 (by decide) ?_
  refine zS_iadd dX5_append_58 ?_
  refine pf_6_4 dX5_append_59 zw_144 ?_
  refine zS_aload_nO dX5_append_62 rfl rfl ?_
  refine gf_6_4 dX5_append_63 zw_144 ?_
  refine zS_iconst (v := (1 : Int32)) dX5_append_66 (by decide) ?_
  refine zS_isub dX5_append_67 ?_
  cases h
  exact zS_ireturn dX5_append_68 rfl rfl
def p_X5_vote (x1 : Int32) (x2 : Int32) (M : zM) : Option (zM) :=
  if x1 < (16 : Int32) then
    if x1 = x2 then
      some M
    else
      some (zset M 6 9 ((M 6 9) + (1 : Int32)))
  else
    if x1 - (16 : Int32) < 0 ∨ 16 ≤ (x1 - (16 : Int32)).toNatClampNeg then none else
    if x1 - (16 : Int32) < 0 ∨ 16 ≤ (x1 - (16 : Int32)).toNatClampNeg then none else
    if x1 - (16 : Int32) < 0 ∨ 16 ≤ (x1 - (16 : Int32)).toNatClampNeg then none else
    if x2 < 0 ∨ 9 ≤ x2.toNatClampNeg then none else
    if x2 < 0 ∨ 9 ≤ x2.toNatClampNeg then none else
    some (zset (zset M 68 ((x1 - (16 : Int32)).toNatClampNeg) ((M 68 (x1 - (16 : Int32)).toNatClampNeg) + (1 : Int32))) (52 + (x1 - (16 : Int32)).toNatClampNeg) x2.toNatClampNeg (((zset M 68 ((x1 - (16 : Int32)).toNatClampNeg) ((M 68 (x1 - (16 : Int32)).toNatClampNeg) + (1 : Int32))) (52 + (x1 - (16 : Int32)).toNatClampNeg) x2.toNatClampNeg) + (1 : Int32)))
set_option maxRecDepth 20000 in
set_option maxHeartbeats 4000000 in
theorem zc_X5_vote (x1 : Int32) (x2 : Int32) (M : zM) {r : zM} (h : p_X5_vote x1 x2 M = some r) : zS Y_X5_vote 0 [some (zO 6), some (zI x1), some (zI x2)] [] M (none, r) := by
  rw [p_X5_vote] at h
  refine zS_iload_n dX5_vote_0 rfl rfl ?_
  refine zS_bipush (v := (16 : Int32)) dX5_vote_1 (by decide) ?_
  refine zS_icmp_lt (tgt := 37) dX5_vote_3 (by decide) (fun c3 => ?_) (fun c3 => ?_)
  · rw [if_pos c3] at h
    refine zS_iload_n dX5_vote_37 rfl rfl ?_
    refine zS_iload_n dX5_vote_38 rfl rfl ?_
    refine zS_icmp_eq (tgt := 52) dX5_vote_39 (by decide) (fun c39 => ?_) (fun c39 => ?_)
    · rw [if_pos c39] at h
      cases h
      exact zS_return dX5_vote_52
    · rw [if_neg c39] at h
      refine zS_aload_nO dX5_vote_42 rfl rfl ?_
      refine zS_dup dX5_vote_43 rfl ?_
      refine gf_6_9 dX5_vote_44 zw_204 ?_
      refine zS_iconst (v := (1 : Int32)) dX5_vote_47 (by decide) ?_
      refine zS_iadd dX5_vote_48 ?_
      refine pf_6_9 dX5_vote_49 zw_204 ?_
      cases h
      exact zS_return dX5_vote_52
  · rw [if_neg c3] at h
    refine zS_aload_nO dX5_vote_6 rfl rfl ?_
    refine gf_6_8 dX5_vote_7 zw_205 ?_
    refine zS_iload_n dX5_vote_10 rfl rfl ?_
    refine zS_bipush (v := (16 : Int32)) dX5_vote_11 (by decide) ?_
    refine zS_isub dX5_vote_13 ?_
    refine zS_dup2 dX5_vote_14 rfl ?_
    by_cases b15 : x1 - (16 : Int32) < 0 ∨ 16 ≤ (x1 - (16 : Int32)).toNatClampNeg
    · rw [if_pos b15] at h; cases h
    rw [if_neg b15] at h
    refine zS_iald b15 dX5_vote_15 ?_
    refine zS_iconst (v := (1 : Int32)) dX5_vote_16 (by decide) ?_
    refine zS_iadd dX5_vote_17 ?_
    by_cases b18 : x1 - (16 : Int32) < 0 ∨ 16 ≤ (x1 - (16 : Int32)).toNatClampNeg
    · rw [if_pos b18] at h; cases h
    rw [if_neg b18] at h
    refine zS_iast b18 dX5_vote_18 ?_
    refine zS_aload_nO dX5_vote_19 rfl rfl ?_
    refine gf_6_7 dX5_vote_20 zw_206 ?_
    refine zS_iload_n dX5_vote_23 rfl rfl ?_
    refine zS_bipush (v := (16 : Int32)) dX5_vote_24 (by decide) ?_
    refine zS_isub dX5_vote_26 ?_
    by_cases b27 : x1 - (16 : Int32) < 0 ∨ 16 ≤ (x1 - (16 : Int32)).toNatClampNeg
    · rw [if_pos b27] at h; cases h
    rw [if_neg b27] at h
    refine zS_aald lay_51 b27 dX5_vote_27 ?_
    refine zS_iload_n dX5_vote_28 rfl rfl ?_
    refine zS_dup2 dX5_vote_29 rfl ?_
    by_cases b30 : x2 < 0 ∨ 9 ≤ x2.toNatClampNeg
    · rw [if_pos b30] at h; cases h
    rw [if_neg b30] at h
    refine zS_iald b30 dX5_vote_30 ?_
    refine zS_iconst (v := (1 : Int32)) dX5_vote_31 (by decide) ?_
    refine zS_iadd dX5_vote_32 ?_
    by_cases b33 : x2 < 0 ∨ 9 ≤ x2.toNatClampNeg
    · rw [if_pos b33] at h; cases h
    rw [if_neg b33] at h
    refine zS_iast b33 dX5_vote_33 ?_
    refine zS_goto (tgt := 52) dX5_vote_34 (by decide) ?_
    cases h
    exact zS_return dX5_vote_52
def p_X5_poll_49 (k39 : Int32 → zM → Option (zM)) (x1 : Int32) : Nat → Int32 → zM → Option (zM)
  | 0, _, _ => none
  | nn + 1, x2, M =>
  if x1 < 0 ∨ 3 ≤ x1.toNatClampNeg then none else
  if (M 46 x1.toNatClampNeg) ≤ x2 then
    k39 (x1 + (1 : Int32)) M
  else
    if x1 < 0 ∨ 3 ≤ x1.toNatClampNeg then none else
    if x2 < 0 ∨ 64 ≤ x2.toNatClampNeg then none else
    if (M (48 + x1.toNatClampNeg) x2.toNatClampNeg) = (-1 : Int32) then
      p_X5_poll_49 k39 x1 nn (x2 + (1 : Int32)) M
    else
      if x1 < 0 ∨ 3 ≤ x1.toNatClampNeg then none else
      (p_X4_source (M 45 x1.toNatClampNeg) (M 6 5) (M 6 6) x2 M).bind fun r91 =>
      if x1 < 0 ∨ 3 ≤ x1.toNatClampNeg then none else
      if x2 < 0 ∨ 64 ≤ x2.toNatClampNeg then none else
      (p_X5_vote r91 (M (48 + x1.toNatClampNeg) x2.toNatClampNeg) M).bind fun M102 =>
      p_X5_poll_49 k39 x1 nn (x2 + (1 : Int32)) M102
set_option maxRecDepth 20000 in
set_option maxHeartbeats 4000000 in
theorem zc_X5_poll_49 {k39 : Int32 → zM → Option (zM)} (x1 : Int32) (hk39 : ∀ (x1 : Int32) (M : zM) (r : zM), k39 x1 M = some r → zS Y_X5_poll 39 [some (zO 6), some (zI x1), none] [] M (none, r)) : ∀ (nn : Nat) (x2 : Int32) (M : zM) (r : zM), p_X5_poll_49 k39 x1 nn x2 M = some r → zS Y_X5_poll 49 [some (zO 6), some (zI x1), some (zI x2)] [] M (none, r) := by
  intro nn
  induction nn with
  | zero => intro x2 M r h; cases h
  | succ nn ih =>
  intro x2 M r h
  rw [p_X5_poll_49] at h
  refine zS_iload_n dX5_poll_49 rfl rfl ?_
  refine zS_aload_nO dX5_poll_50 rfl rfl ?_
  refine gf_6_2 dX5_poll_51 zw_182 ?_
  refine zS_iload_n dX5_poll_54 rfl rfl ?_
  by_cases b55 : x1 < 0 ∨ 3 ≤ x1.toNatClampNeg
  · rw [if_pos b55] at h; cases h
  rw [if_neg b55] at h
  refine zS_iald b55 dX5_poll_55 ?_
  refine zS_icmp_ge (tgt := 111) dX5_poll_56 (by decide) (fun c56 => ?_) (fun c56 => ?_)
  · rw [if_pos c56] at h
    refine zS_iinc (v := x1 + (1 : Int32)) (ls' := [some (zO 6), some (zI (x1 + (1 : Int32))), some (zI x2)]) dX5_poll_111 rfl rfl (by decide) rfl rfl ?_
    refine zS_goto (tgt := 39) dX5_poll_114 (by decide) ?_
    exact zS_wk [some (zO 6), some (zI (x1 + (1 : Int32))), none] (And.intro rfl (And.intro rfl trivial)) (hk39 (x1 + (1 : Int32)) M r h)
  · rw [if_neg c56] at h
    refine zS_aload_nO dX5_poll_59 rfl rfl ?_
    refine gf_6_3 dX5_poll_60 zw_187 ?_
    refine zS_iload_n dX5_poll_63 rfl rfl ?_
    by_cases b64 : x1 < 0 ∨ 3 ≤ x1.toNatClampNeg
    · rw [if_pos b64] at h; cases h
    rw [if_neg b64] at h
    refine zS_aald lay_47 b64 dX5_poll_64 ?_
    refine zS_iload_n dX5_poll_65 rfl rfl ?_
    by_cases b66 : x2 < 0 ∨ 64 ≤ x2.toNatClampNeg
    · rw [if_pos b66] at h; cases h
    rw [if_neg b66] at h
    refine zS_iald b66 dX5_poll_66 ?_
    refine zS_iconst (v := (-1 : Int32)) dX5_poll_67 (by decide) ?_
    refine zS_icmp_eq (tgt := 105) dX5_poll_68 (by decide) (fun c68 => ?_) (fun c68 => ?_)
    · rw [if_pos c68] at h
      refine zS_iinc (v := x2 + (1 : Int32)) (ls' := [some (zO 6), some (zI x1), some (zI (x2 + (1 : Int32)))]) dX5_poll_105 rfl rfl (by decide) rfl rfl ?_
      refine zS_goto (tgt := 49) dX5_poll_108 (by decide) ?_
      exact zS_wk [some (zO 6), some (zI x1), some (zI (x2 + (1 : Int32)))] (And.intro rfl (And.intro rfl (And.intro rfl trivial))) (ih (x2 + (1 : Int32)) M r h)
    · rw [if_neg c68] at h
      refine zS_aload_nO dX5_poll_71 rfl rfl ?_
      refine zS_aload_nO dX5_poll_72 rfl rfl ?_
      refine gf_6_0 dX5_poll_73 zw_183 ?_
      refine zS_aload_nO dX5_poll_76 rfl rfl ?_
      refine gf_6_1 dX5_poll_77 zw_145 ?_
      refine zS_iload_n dX5_poll_80 rfl rfl ?_
      by_cases b81 : x1 < 0 ∨ 3 ≤ x1.toNatClampNeg
      · rw [if_pos b81] at h; cases h
      rw [if_neg b81] at h
      refine zS_iald b81 dX5_poll_81 ?_
      refine zS_aload_nO dX5_poll_82 rfl rfl ?_
      refine gf_6_5 dX5_poll_83 zw_175 ?_
      refine zS_aload_nO dX5_poll_86 rfl rfl ?_
      refine gf_6_6 dX5_poll_87 zw_176 ?_
      refine zS_iload_n dX5_poll_90 rfl rfl ?_
      obtain ⟨r91, h91, h⟩ := zbind h
      refine zS_callV (as := [zI (M 45 x1.toNatClampNeg), zI (M 6 5), zI (M 6 6), zI x2]) (st := [zO 6]) (ls0 := [some (zO 4), some (zI (M 45 x1.toNatClampNeg)), some (zI (M 6 5)), some (zI (M 6 6)), some (zI x2), none, none, none, none]) dX5_poll_91 okY_X4_source rfl rfl lay_4 rfl zw_168 zw_169 zw_207 np_X4_source (by decide) (Nat.le_of_ble_eq_true rfl) rfl (Nat.le_of_ble_eq_true rfl) (And.intro rfl (And.intro rfl (And.intro rfl (And.intro rfl (And.intro rfl trivial))))) (zc_X4_source (M 45 x1.toNatClampNeg) (M 6 5) (M 6 6) x2 M h91) ?_
      refine zS_aload_nO dX5_poll_94 rfl rfl ?_
      refine gf_6_3 dX5_poll_95 zw_187 ?_
      refine zS_iload_n dX5_poll_98 rfl rfl ?_
      by_cases b99 : x1 < 0 ∨ 3 ≤ x1.toNatClampNeg
      · rw [if_pos b99] at h; cases h
      rw [if_neg b99] at h
      refine zS_aald lay_47 b99 dX5_poll_99 ?_
      refine zS_iload_n dX5_poll_100 rfl rfl ?_
      by_cases b101 : x2 < 0 ∨ 64 ≤ x2.toNatClampNeg
      · rw [if_pos b101] at h; cases h
      rw [if_neg b101] at h
      refine zS_iald b101 dX5_poll_101 ?_
      obtain ⟨M102, h102, h⟩ := zbind h
      refine zS_callVv (as := [zI r91, zI (M (48 + x1.toNatClampNeg) x2.toNatClampNeg)]) (st := []) (ls0 := [some (zO 6), some (zI r91), some (zI (M (48 + x1.toNatClampNeg) x2.toNatClampNeg))]) dX5_poll_102 okY_X5_vote rfl rfl lay_6 rfl zw_208 zw_209 zw_210 np_X5_vote (by decide) (Nat.le_of_ble_eq_true rfl) rfl (Nat.le_of_ble_eq_true rfl) (And.intro rfl (And.intro rfl (And.intro rfl trivial))) (zc_X5_vote r91 (M (48 + x1.toNatClampNeg) x2.toNatClampNeg) M h102) ?_
      refine zS_iinc (v := x2 + (1 : Int32)) (ls' := [some (zO 6), some (zI x1), some (zI (x2 + (1 : Int32)))]) dX5_poll_105 rfl rfl (by decide) rfl rfl ?_
      refine zS_goto (tgt := 49) dX5_poll_108 (by decide) ?_
      exact zS_wk [some (zO 6), some (zI x1), some (zI (x2 + (1 : Int32)))] (And.intro rfl (And.intro rfl (And.intro rfl trivial))) (ih (x2 + (1 : Int32)) M102 r h)
def p_X5_poll_39 : Nat → Int32 → zM → Option (zM)
  | 0, _, _ => none
  | nn + 1, x1, M =>
  if (M 6 4) ≤ x1 then
    some M
  else
    p_X5_poll_49 (p_X5_poll_39 nn) x1 5000 (0 : Int32) M
set_option maxRecDepth 20000 in
set_option maxHeartbeats 4000000 in
theorem zc_X5_poll_39 : ∀ (nn : Nat) (x1 : Int32) (M : zM) (r : zM), p_X5_poll_39 nn x1 M = some r → zS Y_X5_poll 39 [some (zO 6), some (zI x1), none] [] M (none, r) := by
  intro nn
  induction nn with
  | zero => intro x1 M r h; cases h
  | succ nn ih =>
  intro x1 M r h
  rw [p_X5_poll_39] at h
  refine zS_iload_n dX5_poll_39 rfl rfl ?_
  refine zS_aload_nO dX5_poll_40 rfl rfl ?_
  refine gf_6_4 dX5_poll_41 zw_144 ?_
  refine zS_icmp_ge (tgt := 117) dX5_poll_44 (by decide) (fun c44 => ?_) (fun c44 => ?_)
  · rw [if_pos c44] at h
    cases h
    exact zS_return dX5_poll_117
  · rw [if_neg c44] at h
    refine zS_iconst (v := (0 : Int32)) dX5_poll_47 (by decide) ?_
    refine zS_istore_n (ls' := [some (zO 6), some (zI x1), some (zI (0 : Int32))]) dX5_poll_48 rfl (by decide) rfl rfl ?_
    exact zS_wk [some (zO 6), some (zI x1), some (zI (0 : Int32))] (And.intro rfl (And.intro rfl (And.intro rfl trivial))) (zc_X5_poll_49 x1 ih 5000 (0 : Int32) M r h)
def p_X5_poll_15 : Nat → Int32 → zM → Option (zM)
  | 0, _, _ => none
  | nn + 1, x1, M =>
  if (16 : Int32) ≤ x1 then
    p_X5_poll_39 5000 (0 : Int32) M
  else
    if x1 < 0 ∨ 16 ≤ x1.toNatClampNeg then none else
    (p_J7_fill_53178 (52 + x1.toNatClampNeg) 9 (0 : Int32) M).bind fun M28 =>
    p_X5_poll_15 nn (x1 + (1 : Int32)) M28
set_option maxRecDepth 20000 in
set_option maxHeartbeats 4000000 in
theorem zc_X5_poll_15 : ∀ (nn : Nat) (x1 : Int32) (M : zM) (r : zM), p_X5_poll_15 nn x1 M = some r → zS Y_X5_poll 15 [some (zO 6), some (zI x1), none] [] M (none, r) := by
  intro nn
  induction nn with
  | zero => intro x1 M r h; cases h
  | succ nn ih =>
  intro x1 M r h
  rw [p_X5_poll_15] at h
  refine zS_iload_n dX5_poll_15 rfl rfl ?_
  refine zS_bipush (v := (16 : Int32)) dX5_poll_16 (by decide) ?_
  refine zS_icmp_ge (tgt := 37) dX5_poll_18 (by decide) (fun c18 => ?_) (fun c18 => ?_)
  · rw [if_pos c18] at h
    refine zS_iconst (v := (0 : Int32)) dX5_poll_37 (by decide) ?_
    refine zS_istore_n (ls' := [some (zO 6), some (zI (0 : Int32)), none]) dX5_poll_38 rfl (by decide) rfl rfl ?_
    exact zS_wk [some (zO 6), some (zI (0 : Int32)), none] (And.intro rfl (And.intro rfl trivial)) (zc_X5_poll_39 5000 (0 : Int32) M r h)
  · rw [if_neg c18] at h
    refine zS_aload_nO dX5_poll_21 rfl rfl ?_
    refine gf_6_7 dX5_poll_22 zw_206 ?_
    refine zS_iload_n dX5_poll_25 rfl rfl ?_
    by_cases b26 : x1 < 0 ∨ 16 ≤ x1.toNatClampNeg
    · rw [if_pos b26] at h; cases h
    rw [if_neg b26] at h
    refine zS_aald lay_51 b26 dX5_poll_26 ?_
    refine zS_iconst (v := (0 : Int32)) dX5_poll_27 (by decide) ?_
    obtain ⟨M28, h28, h⟩ := zbind h
    refine zS_callSv (as := [zA (52 + x1.toNatClampNeg) 9, zI (0 : Int32)]) (st := []) (ls0 := [some (zA (52 + x1.toNatClampNeg) 9), some (zI (0 : Int32)), none, none]) dX5_poll_28 okY_J7_fill_53178 rfl rfl zw_112 zw_188 np_J7_fill_53178 (by decide) (Nat.le_of_ble_eq_true rfl) rfl (Nat.le_of_ble_eq_true rfl) (And.intro rfl (And.intro rfl trivial)) (zc_J7_fill_53178 (52 + x1.toNatClampNeg) 9 (0 : Int32) M h28) ?_
    refine zS_iinc (v := x1 + (1 : Int32)) (ls' := [some (zO 6), some (zI (x1 + (1 : Int32))), none]) dX5_poll_31 rfl rfl (by decide) rfl rfl ?_
    refine zS_goto (tgt := 15) dX5_poll_34 (by decide) ?_
    exact zS_wk [some (zO 6), some (zI (x1 + (1 : Int32))), none] (And.intro rfl (And.intro rfl trivial)) (ih (x1 + (1 : Int32)) M28 r h)
def p_X5_poll (M : zM) : Option (zM) :=
  (p_J7_fill_53178 68 16 (0 : Int32) (zset M 6 9 (0 : Int32))).bind fun M10 =>
  p_X5_poll_15 5000 (0 : Int32) M10
set_option maxRecDepth 20000 in
set_option maxHeartbeats 4000000 in
theorem zc_X5_poll (M : zM) {r : zM} (h : p_X5_poll M = some r) : zS Y_X5_poll 0 [some (zO 6), none, none] [] M (none, r) := by
  rw [p_X5_poll] at h
  refine zS_aload_nO dX5_poll_0 rfl rfl ?_
  refine zS_iconst (v := (0 : Int32)) dX5_poll_1 (by decide) ?_
  refine pf_6_9 dX5_poll_2 zw_204 ?_
  refine zS_aload_nO dX5_poll_5 rfl rfl ?_
  refine gf_6_8 dX5_poll_6 zw_205 ?_
  refine zS_iconst (v := (0 : Int32)) dX5_poll_9 (by decide) ?_
  obtain ⟨M10, h10, h⟩ := zbind h
  refine zS_callSv (as := [zA 68 16, zI (0 : Int32)]) (st := []) (ls0 := [some (zA 68 16), some (zI (0 : Int32)), none, none]) dX5_poll_10 okY_J7_fill_53178 rfl rfl zw_112 zw_188 np_J7_fill_53178 (by decide) (Nat.le_of_ble_eq_true rfl) rfl (Nat.le_of_ble_eq_true rfl) (And.intro rfl (And.intro rfl trivial)) (zc_J7_fill_53178 68 16 (0 : Int32) (zset M 6 9 (0 : Int32)) h10) ?_
  refine zS_iconst (v := (0 : Int32)) dX5_poll_13 (by decide) ?_
  refine zS_istore_n (ls' := [some (zO 6), some (zI (0 : Int32)), none]) dX5_poll_14 rfl (by decide) rfl rfl ?_
  exact zS_wk [some (zO 6), some (zI (0 : Int32)), none] (And.intro rfl (And.intro rfl trivial)) (zc_X5_poll_15 5000 (0 : Int32) M10 r h)
def p_X5_blamelessNotes_4 (x1 : Int32) (M : zM) : Nat → Int32 → Int32 → Option (Int32)
  | 0, _, _ => none
  | nn + 1, x2, x3 =>
  if (9 : Int32) ≤ x3 then
    some x2
  else
    if x1 < 0 ∨ 16 ≤ x1.toNatClampNeg then none else
    if x3 < 0 ∨ 9 ≤ x3.toNatClampNeg then none else
    if x1 < 0 ∨ 16 ≤ x1.toNatClampNeg then none else
    if (M (52 + x1.toNatClampNeg) x3.toNatClampNeg) = (M 68 x1.toNatClampNeg) then
      p_X5_blamelessNotes_4 x1 M nn (x2 + (1 : Int32)) (x3 + (1 : Int32))
    else
      p_X5_blamelessNotes_4 x1 M nn x2 (x3 + (1 : Int32))
set_option maxRecDepth 20000 in
set_option maxHeartbeats 4000000 in
theorem zc_X5_blamelessNotes_4 (x1 : Int32) (M : zM) : ∀ (nn : Nat) (x2 : Int32) (x3 : Int32) (r : Int32), p_X5_blamelessNotes_4 x1 M nn x2 x3 = some r → zS Y_X5_blamelessNotes 4 [some (zO 6), some (zI x1), some (zI x2), some (zI x3)] [] M (some r, M) := by
  intro nn
  induction nn with
  | zero => intro x2 x3 r h; cases h
  | succ nn ih =>
  intro x2 x3 r h
  rw [p_X5_blamelessNotes_4] at h
  refine zS_iload_n dX5_blamelessNotes_4 rfl rfl ?_
  refine zS_bipush (v := (9 : Int32)) dX5_blamelessNotes_5 (by decide) ?_
  refine zS_icmp_ge (tgt := 36) dX5_blamelessNotes_7 (by decide) (fun c7 => ?_) (fun c7 => ?_)
  · rw [if_pos c7] at h
    refine zS_iload_n dX5_blamelessNotes_36 rfl rfl ?_
    cases h
    exact zS_ireturn dX5_blamelessNotes_37 rfl rfl
  · rw [if_neg c7] at h
    refine zS_aload_nO dX5_blamelessNotes_10 rfl rfl ?_
    refine gf_6_7 dX5_blamelessNotes_11 zw_206 ?_
    refine zS_iload_n dX5_blamelessNotes_14 rfl rfl ?_
    by_cases b15 : x1 < 0 ∨ 16 ≤ x1.toNatClampNeg
    · rw [if_pos b15] at h; cases h
    rw [if_neg b15] at h
    refine zS_aald lay_51 b15 dX5_blamelessNotes_15 ?_
    refine zS_iload_n dX5_blamelessNotes_16 rfl rfl ?_
    by_cases b17 : x3 < 0 ∨ 9 ≤ x3.toNatClampNeg
    · rw [if_pos b17] at h; cases h
    rw [if_neg b17] at h
    refine zS_iald b17 dX5_blamelessNotes_17 ?_
    refine zS_aload_nO dX5_blamelessNotes_18 rfl rfl ?_
    refine gf_6_8 dX5_blamelessNotes_19 zw_205 ?_
    refine zS_iload_n dX5_blamelessNotes_22 rfl rfl ?_
    by_cases b23 : x1 < 0 ∨ 16 ≤ x1.toNatClampNeg
    · rw [if_pos b23] at h; cases h
    rw [if_neg b23] at h
    refine zS_iald b23 dX5_blamelessNotes_23 ?_
    refine zS_icmp_ne (tgt := 30) dX5_blamelessNotes_24 (by decide) (fun c24 => ?_) (fun c24 => ?_)
    · rw [if_neg c24] at h
      refine zS_iinc (v := x3 + (1 : Int32)) (ls' := [some (zO 6), some (zI x1), some (zI x2), some (zI (x3 + (1 : Int32)))]) dX5_blamelessNotes_30 rfl rfl (by decide) rfl rfl ?_
      refine zS_goto (tgt := 4) dX5_blamelessNotes_33 (by decide) ?_
      exact zS_wk [some (zO 6), some (zI x1), some (zI x2), some (zI (x3 + (1 : Int32)))] (And.intro rfl (And.intro rfl (And.intro rfl (And.intro rfl trivial)))) (ih x2 (x3 + (1 : Int32)) r h)
    · rw [if_pos c24] at h
      refine zS_iinc (v := x2 + (1 : Int32)) (ls' := [some (zO 6), some (zI x1), some (zI (x2 + (1 : Int32))), some (zI x3)]) dX5_blamelessNotes_27 rfl rfl (by decide) rfl rfl ?_
      refine zS_iinc (v := x3 + (1 : Int32)) (ls' := [some (zO 6), some (zI x1), some (zI (x2 + (1 : Int32))), some (zI (x3 + (1 : Int32)))]) dX5_blamelessNotes_30 rfl rfl (by decide) rfl rfl ?_
      refine zS_goto (tgt := 4) dX5_blamelessNotes_33 (by decide) ?_
      exact zS_wk [some (zO 6), some (zI x1), some (zI (x2 + (1 : Int32))), some (zI (x3 + (1 : Int32)))] (And.intro rfl (And.intro rfl (And.intro rfl (And.intro rfl trivial)))) (ih (x2 + (1 : Int32)) (x3 + (1 : Int32)) r h)
def p_X5_blamelessNotes (x1 : Int32) (M : zM) : Option (Int32) :=
  p_X5_blamelessNotes_4 x1 M 5000 (0 : Int32) (0 : Int32)
set_option maxRecDepth 20000 in
set_option maxHeartbeats 4000000 in
theorem zc_X5_blamelessNotes (x1 : Int32) (M : zM) {r : Int32} (h : p_X5_blamelessNotes x1 M = some r) : zS Y_X5_blamelessNotes 0 [some (zO 6), some (zI x1), none, none] [] M (some r, M) := by
  rw [p_X5_blamelessNotes] at h
  refine zS_iconst (v := (0 : Int32)) dX5_blamelessNotes_0 (by decide) ?_
  refine zS_istore_n (ls' := [some (zO 6), some (zI x1), some (zI (0 : Int32)), none]) dX5_blamelessNotes_1 rfl (by decide) rfl rfl ?_
  refine zS_iconst (v := (0 : Int32)) dX5_blamelessNotes_2 (by decide) ?_
  refine zS_istore_n (ls' := [some (zO 6), some (zI x1), some (zI (0 : Int32)), some (zI (0 : Int32))]) dX5_blamelessNotes_3 rfl (by decide) rfl rfl ?_
  exact zS_wk [some (zO 6), some (zI x1), some (zI (0 : Int32)), some (zI (0 : Int32))] (And.intro rfl (And.intro rfl (And.intro rfl (And.intro rfl trivial)))) (zc_X5_blamelessNotes_4 x1 M 5000 (0 : Int32) (0 : Int32) r h)
def p_X5_agreeingGrounds_17 (M : zM) : Nat → Int32 → Int32 → Option (Int32 × zM)
  | 0, _, _ => none
  | nn + 1, x1, x2 =>
  if (M 6 5) ≤ x2 then
    some (x1, M)
  else
    (p_X5_blamelessNotes x2 M).bind fun r30 =>
    p_X5_agreeingGrounds_17 M nn (if x1 * r30 < (1000001 : Int32) then x1 * r30 else (1000001 : Int32)) (x2 + (1 : Int32))
set_option maxRecDepth 20000 in
set_option maxHeartbeats 4000000 in
theorem zc_X5_agreeingGrounds_17 (M : zM) : ∀ (nn : Nat) (x1 : Int32) (x2 : Int32) (r : Int32 × zM), p_X5_agreeingGrounds_17 M nn x1 x2 = some r → zS Y_X5_agreeingGrounds 17 [some (zO 6), some (zI x1), some (zI x2)] [] M (some r.1, r.2) := by
  intro nn
  induction nn with
  | zero => intro x1 x2 r h; cases h
  | succ nn ih =>
  intro x1 x2 r h
  rw [p_X5_agreeingGrounds_17] at h
  refine zS_iload_n dX5_agreeingGrounds_17 rfl rfl ?_
  refine zS_aload_nO dX5_agreeingGrounds_18 rfl rfl ?_
  refine gf_6_5 dX5_agreeingGrounds_19 zw_175 ?_
  refine zS_icmp_ge (tgt := 44) dX5_agreeingGrounds_22 (by decide) (fun c22 => ?_) (fun c22 => ?_)
  · rw [if_pos c22] at h
    refine zS_iload_n dX5_agreeingGrounds_44 rfl rfl ?_
    cases h
    exact zS_ireturn dX5_agreeingGrounds_45 rfl rfl
  · rw [if_neg c22] at h
    refine zS_ldc (v := (1000001 : Int32)) dX5_agreeingGrounds_25 zw_211 ?_
    refine zS_iload_n dX5_agreeingGrounds_27 rfl rfl ?_
    refine zS_aload_nO dX5_agreeingGrounds_28 rfl rfl ?_
    refine zS_iload_n dX5_agreeingGrounds_29 rfl rfl ?_
    obtain ⟨r30, h30, h⟩ := zbind h
    refine zS_callV (as := [zI x2]) (st := [zI x1, zI (1000001 : Int32)]) (ls0 := [some (zO 6), some (zI x2), none, none]) dX5_agreeingGrounds_30 okY_X5_blamelessNotes rfl rfl lay_6 rfl zw_212 zw_213 zw_214 np_X5_blamelessNotes (by decide) (Nat.le_of_ble_eq_true rfl) rfl (Nat.le_of_ble_eq_true rfl) (And.intro rfl (And.intro rfl trivial)) (zc_X5_blamelessNotes x2 M h30) ?_
    refine zS_imul dX5_agreeingGrounds_33 ?_
    refine zS_min dX5_agreeingGrounds_34 zw_215 zw_65 zw_66 zw_67 (by decide) (Nat.le_of_ble_eq_true rfl) ?_
    refine zS_istore_n (ls' := [some (zO 6), some (zI (if x1 * r30 < (1000001 : Int32) then x1 * r30 else (1000001 : Int32))), some (zI x2)]) dX5_agreeingGrounds_37 rfl (by decide) rfl rfl ?_
    refine zS_iinc (v := x2 + (1 : Int32)) (ls' := [some (zO 6), some (zI (if x1 * r30 < (1000001 : Int32) then x1 * r30 else (1000001 : Int32))), some (zI (x2 + (1 : Int32)))]) dX5_agreeingGrounds_38 rfl rfl (by decide) rfl rfl ?_
    refine zS_goto (tgt := 17) dX5_agreeingGrounds_41 (by decide) ?_
    exact zS_wk [some (zO 6), some (zI (if x1 * r30 < (1000001 : Int32) then x1 * r30 else (1000001 : Int32))), some (zI (x2 + (1 : Int32)))] (And.intro rfl (And.intro rfl (And.intro rfl trivial))) (ih (if x1 * r30 < (1000001 : Int32) then x1 * r30 else (1000001 : Int32)) (x2 + (1 : Int32)) r h)
def p_X5_agreeingGrounds (M : zM) : Option (Int32 × zM) :=
  (p_X5_poll M).bind fun M1 =>
  if (M1 6 9) ≤ 0 then
    p_X5_agreeingGrounds_17 M1 5000 (1 : Int32) (0 : Int32)
  else
    some ((0 : Int32), M1)
set_option maxRecDepth 20000 in
set_option maxHeartbeats 4000000 in
theorem zc_X5_agreeingGrounds (M : zM) {r : Int32 × zM} (h : p_X5_agreeingGrounds M = some r) : zS Y_X5_agreeingGrounds 0 [some (zO 6), none, none] [] M (some r.1, r.2) := by
  rw [p_X5_agreeingGrounds] at h
  refine zS_aload_nO dX5_agreeingGrounds_0 rfl rfl ?_
  obtain ⟨M1, h1, h⟩ := zbind h
  refine zS_callVv (as := []) (st := []) (ls0 := [some (zO 6), none, none]) dX5_agreeingGrounds_1 okY_X5_poll rfl rfl lay_6 rfl zw_216 zw_217 zw_218 np_X5_poll (by decide) (Nat.le_of_ble_eq_true rfl) rfl (Nat.le_of_ble_eq_true rfl) (And.intro rfl trivial) (zc_X5_poll M h1) ?_
  refine zS_aload_nO dX5_agreeingGrounds_4 rfl rfl ?_
  refine gf_6_9 dX5_agreeingGrounds_5 zw_204 ?_
  refine zS_if_le (tgt := 13) dX5_agreeingGrounds_8 (by decide) (fun c8 => ?_) (fun c8 => ?_)
  · rw [if_pos c8] at h
    refine zS_iconst (v := (1 : Int32)) dX5_agreeingGrounds_13 (by decide) ?_
    refine zS_istore_n (ls' := [some (zO 6), some (zI (1 : Int32)), none]) dX5_agreeingGrounds_14 rfl (by decide) rfl rfl ?_
    refine zS_iconst (v := (0 : Int32)) dX5_agreeingGrounds_15 (by decide) ?_
    refine zS_istore_n (ls' := [some (zO 6), some (zI (1 : Int32)), some (zI (0 : Int32))]) dX5_agreeingGrounds_16 rfl (by decide) rfl rfl ?_
    exact zS_wk [some (zO 6), some (zI (1 : Int32)), some (zI (0 : Int32))] (And.intro rfl (And.intro rfl (And.intro rfl trivial))) (zc_X5_agreeingGrounds_17 M1 5000 (1 : Int32) (0 : Int32) r h)
  · rw [if_neg c8] at h
    refine zS_iconst (v := (0 : Int32)) dX5_agreeingGrounds_11 (by decide) ?_
    cases h
    exact zS_ireturn dX5_agreeingGrounds_12 rfl rfl
def p_X5_mostVoted_4 (a0 : Nat) (n0 : Nat) (M : zM) : Nat → Int32 → Int32 → Option (Int32)
  | 0, _, _ => none
  | nn + 1, x1, x2 =>
  if (9 : Int32) ≤ x2 then
    some x1
  else
    if x2 < 0 ∨ n0 ≤ x2.toNatClampNeg then none else
    if x1 < 0 ∨ n0 ≤ x1.toNatClampNeg then none else
    if (M a0 x2.toNatClampNeg) ≤ (M a0 x1.toNatClampNeg) then
      p_X5_mostVoted_4 a0 n0 M nn x1 (x2 + (1 : Int32))
    else
      p_X5_mostVoted_4 a0 n0 M nn x2 (x2 + (1 : Int32))
set_option maxRecDepth 20000 in
set_option maxHeartbeats 4000000 in
theorem zc_X5_mostVoted_4 (a0 : Nat) (n0 : Nat) (M : zM) : ∀ (nn : Nat) (x1 : Int32) (x2 : Int32) (r : Int32), p_X5_mostVoted_4 a0 n0 M nn x1 x2 = some r → zS Y_X5_mostVoted 4 [some (zA a0 n0), some (zI x1), some (zI x2)] [] M (some r, M) := by
  intro nn
  induction nn with
  | zero => intro x1 x2 r h; cases h
  | succ nn ih =>
  intro x1 x2 r h
  rw [p_X5_mostVoted_4] at h
  refine zS_iload_n dX5_mostVoted_4 rfl rfl ?_
  refine zS_bipush (v := (9 : Int32)) dX5_mostVoted_5 (by decide) ?_
  refine zS_icmp_ge (tgt := 27) dX5_mostVoted_7 (by decide) (fun c7 => ?_) (fun c7 => ?_)
  · rw [if_pos c7] at h
    refine zS_iload_n dX5_mostVoted_27 rfl rfl ?_
    cases h
    exact zS_ireturn dX5_mostVoted_28 rfl rfl
  · rw [if_neg c7] at h
    refine zS_aload_nA dX5_mostVoted_10 rfl rfl ?_
    refine zS_iload_n dX5_mostVoted_11 rfl rfl ?_
    by_cases b12 : x2 < 0 ∨ n0 ≤ x2.toNatClampNeg
    · rw [if_pos b12] at h; cases h
    rw [if_neg b12] at h
    refine zS_iald b12 dX5_mostVoted_12 ?_
    refine zS_aload_nA dX5_mostVoted_13 rfl rfl ?_
    refine zS_iload_n dX5_mostVoted_14 rfl rfl ?_
    by_cases b15 : x1 < 0 ∨ n0 ≤ x1.toNatClampNeg
    · rw [if_pos b15] at h; cases h
    rw [if_neg b15] at h
    refine zS_iald b15 dX5_mostVoted_15 ?_
    refine zS_icmp_le (tgt := 21) dX5_mostVoted_16 (by decide) (fun c16 => ?_) (fun c16 => ?_)
    · rw [if_pos c16] at h
      refine zS_iinc (v := x2 + (1 : Int32)) (ls' := [some (zA a0 n0), some (zI x1), some (zI (x2 + (1 : Int32)))]) dX5_mostVoted_21 rfl rfl (by decide) rfl rfl ?_
      refine zS_goto (tgt := 4) dX5_mostVoted_24 (by decide) ?_
      exact zS_wk [some (zA a0 n0), some (zI x1), some (zI (x2 + (1 : Int32)))] (And.intro rfl (And.intro rfl (And.intro rfl trivial))) (ih x1 (x2 + (1 : Int32)) r h)
    · rw [if_neg c16] at h
      refine zS_iload_n dX5_mostVoted_19 rfl rfl ?_
      refine zS_istore_n (ls' := [some (zA a0 n0), some (zI x2), some (zI x2)]) dX5_mostVoted_20 rfl (by decide) rfl rfl ?_
      refine zS_iinc (v := x2 + (1 : Int32)) (ls' := [some (zA a0 n0), some (zI x2), some (zI (x2 + (1 : Int32)))]) dX5_mostVoted_21 rfl rfl (by decide) rfl rfl ?_
      refine zS_goto (tgt := 4) dX5_mostVoted_24 (by decide) ?_
      exact zS_wk [some (zA a0 n0), some (zI x2), some (zI (x2 + (1 : Int32)))] (And.intro rfl (And.intro rfl (And.intro rfl trivial))) (ih x2 (x2 + (1 : Int32)) r h)
def p_X5_mostVoted (a0 : Nat) (n0 : Nat) (M : zM) : Option (Int32) :=
  p_X5_mostVoted_4 a0 n0 M 5000 (0 : Int32) (1 : Int32)
set_option maxRecDepth 20000 in
set_option maxHeartbeats 4000000 in
theorem zc_X5_mostVoted (a0 : Nat) (n0 : Nat) (M : zM) {r : Int32} (h : p_X5_mostVoted a0 n0 M = some r) : zS Y_X5_mostVoted 0 [some (zA a0 n0), none, none] [] M (some r, M) := by
  rw [p_X5_mostVoted] at h
  refine zS_iconst (v := (0 : Int32)) dX5_mostVoted_0 (by decide) ?_
  refine zS_istore_n (ls' := [some (zA a0 n0), some (zI (0 : Int32)), none]) dX5_mostVoted_1 rfl (by decide) rfl rfl ?_
  refine zS_iconst (v := (1 : Int32)) dX5_mostVoted_2 (by decide) ?_
  refine zS_istore_n (ls' := [some (zA a0 n0), some (zI (0 : Int32)), some (zI (1 : Int32))]) dX5_mostVoted_3 rfl (by decide) rfl rfl ?_
  exact zS_wk [some (zA a0 n0), some (zI (0 : Int32)), some (zI (1 : Int32))] (And.intro rfl (And.intro rfl (And.intro rfl trivial))) (zc_X5_mostVoted_4 a0 n0 M 5000 (0 : Int32) (1 : Int32) r h)
def p_X5_chooseGround_6 : Nat → Int32 → zM → Option (zM)
  | 0, _, _ => none
  | nn + 1, x1, M =>
  if (M 6 5) ≤ x1 then
    some M
  else
    if x1 < 0 ∨ 16 ≤ x1.toNatClampNeg then none else
    (p_X5_mostVoted (52 + x1.toNatClampNeg) 9 M).bind fun r25 =>
    if x1 < 0 ∨ 16 ≤ x1.toNatClampNeg then none else
    p_X5_chooseGround_6 nn (x1 + (1 : Int32)) (zset M 69 x1.toNatClampNeg r25)
set_option maxRecDepth 20000 in
set_option maxHeartbeats 4000000 in
theorem zc_X5_chooseGround_6 : ∀ (nn : Nat) (x1 : Int32) (M : zM) (r : zM), p_X5_chooseGround_6 nn x1 M = some r → zS Y_X5_chooseGround 6 [some (zO 6), some (zI x1)] [] M (none, r) := by
  intro nn
  induction nn with
  | zero => intro x1 M r h; cases h
  | succ nn ih =>
  intro x1 M r h
  rw [p_X5_chooseGround_6] at h
  refine zS_iload_n dX5_chooseGround_6 rfl rfl ?_
  refine zS_aload_nO dX5_chooseGround_7 rfl rfl ?_
  refine gf_6_5 dX5_chooseGround_8 zw_175 ?_
  refine zS_icmp_ge (tgt := 35) dX5_chooseGround_11 (by decide) (fun c11 => ?_) (fun c11 => ?_)
  · rw [if_pos c11] at h
    cases h
    exact zS_return dX5_chooseGround_35
  · rw [if_neg c11] at h
    refine zS_aload_nO dX5_chooseGround_14 rfl rfl ?_
    refine gf_6_10 dX5_chooseGround_15 zw_222 ?_
    refine zS_iload_n dX5_chooseGround_18 rfl rfl ?_
    refine zS_aload_nO dX5_chooseGround_19 rfl rfl ?_
    refine gf_6_7 dX5_chooseGround_20 zw_206 ?_
    refine zS_iload_n dX5_chooseGround_23 rfl rfl ?_
    by_cases b24 : x1 < 0 ∨ 16 ≤ x1.toNatClampNeg
    · rw [if_pos b24] at h; cases h
    rw [if_neg b24] at h
    refine zS_aald lay_51 b24 dX5_chooseGround_24 ?_
    obtain ⟨r25, h25, h⟩ := zbind h
    refine zS_callS (as := [zA (52 + x1.toNatClampNeg) 9]) (st := [zI x1, zA 69 16]) (ls0 := [some (zA (52 + x1.toNatClampNeg) 9), none, none]) dX5_chooseGround_25 okY_X5_mostVoted rfl rfl zw_223 zw_224 np_X5_mostVoted (by decide) (Nat.le_of_ble_eq_true rfl) rfl (Nat.le_of_ble_eq_true rfl) (And.intro rfl trivial) (zc_X5_mostVoted (52 + x1.toNatClampNeg) 9 M h25) ?_
    by_cases b28 : x1 < 0 ∨ 16 ≤ x1.toNatClampNeg
    · rw [if_pos b28] at h; cases h
    rw [if_neg b28] at h
    refine zS_iast b28 dX5_chooseGround_28 ?_
    refine zS_iinc (v := x1 + (1 : Int32)) (ls' := [some (zO 6), some (zI (x1 + (1 : Int32)))]) dX5_chooseGround_29 rfl rfl (by decide) rfl rfl ?_
    refine zS_goto (tgt := 6) dX5_chooseGround_32 (by decide) ?_
    exact zS_wk [some (zO 6), some (zI (x1 + (1 : Int32)))] (And.intro rfl (And.intro rfl trivial)) (ih (x1 + (1 : Int32)) (zset M 69 x1.toNatClampNeg r25) r h)
def p_X5_chooseGround (M : zM) : Option (zM) :=
  (p_X5_poll M).bind fun M1 =>
  p_X5_chooseGround_6 5000 (0 : Int32) M1
set_option maxRecDepth 20000 in
set_option maxHeartbeats 4000000 in
theorem zc_X5_chooseGround (M : zM) {r : zM} (h : p_X5_chooseGround M = some r) : zS Y_X5_chooseGround 0 [some (zO 6), none] [] M (none, r) := by
  rw [p_X5_chooseGround] at h
  refine zS_aload_nO dX5_chooseGround_0 rfl rfl ?_
  obtain ⟨M1, h1, h⟩ := zbind h
  refine zS_callVv (as := []) (st := []) (ls0 := [some (zO 6), none, none]) dX5_chooseGround_1 okY_X5_poll rfl rfl lay_6 rfl zw_216 zw_217 zw_218 np_X5_poll (by decide) (Nat.le_of_ble_eq_true rfl) rfl (Nat.le_of_ble_eq_true rfl) (And.intro rfl trivial) (zc_X5_poll M h1) ?_
  refine zS_iconst (v := (0 : Int32)) dX5_chooseGround_4 (by decide) ?_
  refine zS_istore_n (ls' := [some (zO 6), some (zI (0 : Int32))]) dX5_chooseGround_5 rfl (by decide) rfl rfl ?_
  exact zS_wk [some (zO 6), some (zI (0 : Int32))] (And.intro rfl (And.intro rfl trivial)) (zc_X5_chooseGround_6 5000 (0 : Int32) M1 r h)
def p_X5_isWrong_42 (x1 : Int32) (x2 : Int32) (t0 : Int32) (M : zM) : Option (Int32) :=
  if x1 < 0 ∨ 3 ≤ x1.toNatClampNeg then none else
  if x2 < 0 ∨ 64 ≤ x2.toNatClampNeg then none else
  if (M (48 + x1.toNatClampNeg) x2.toNatClampNeg) = (-1 : Int32) then
    some (0 : Int32)
  else
    if x1 < 0 ∨ 3 ≤ x1.toNatClampNeg then none else
    if x2 < 0 ∨ 64 ≤ x2.toNatClampNeg then none else
    if (M (48 + x1.toNatClampNeg) x2.toNatClampNeg) = t0 then
      some (0 : Int32)
    else
      some (1 : Int32)
set_option maxRecDepth 20000 in
set_option maxHeartbeats 4000000 in
theorem zc_X5_isWrong_42 (x1 : Int32) (x2 : Int32) (t0 : Int32) (M : zM) {r : Int32} (h : p_X5_isWrong_42 x1 x2 t0 M = some r) : zS Y_X5_isWrong 42 [some (zO 6), some (zI x1), some (zI x2), none, none] [zI t0] M (some r, M) := by
  rw [p_X5_isWrong_42] at h
  refine zS_istore (ls' := [some (zO 6), some (zI x1), some (zI x2), none, some (zI t0)]) dX5_isWrong_42 (by decide) rfl rfl ?_
  refine zS_aload_nO dX5_isWrong_44 rfl rfl ?_
  refine gf_6_3 dX5_isWrong_45 zw_187 ?_
  refine zS_iload_n dX5_isWrong_48 rfl rfl ?_
  by_cases b49 : x1 < 0 ∨ 3 ≤ x1.toNatClampNeg
  · rw [if_pos b49] at h; cases h
  rw [if_neg b49] at h
  refine zS_aald lay_47 b49 dX5_isWrong_49 ?_
  refine zS_iload_n dX5_isWrong_50 rfl rfl ?_
  by_cases b51 : x2 < 0 ∨ 64 ≤ x2.toNatClampNeg
  · rw [if_pos b51] at h; cases h
  rw [if_neg b51] at h
  refine zS_iald b51 dX5_isWrong_51 ?_
  refine zS_iconst (v := (-1 : Int32)) dX5_isWrong_52 (by decide) ?_
  refine zS_icmp_eq (tgt := 73) dX5_isWrong_53 (by decide) (fun c53 => ?_) (fun c53 => ?_)
  · rw [if_pos c53] at h
    refine zS_iconst (v := (0 : Int32)) dX5_isWrong_73 (by decide) ?_
    cases h
    exact zS_ireturn dX5_isWrong_74 rfl rfl
  · rw [if_neg c53] at h
    refine zS_aload_nO dX5_isWrong_56 rfl rfl ?_
    refine gf_6_3 dX5_isWrong_57 zw_187 ?_
    refine zS_iload_n dX5_isWrong_60 rfl rfl ?_
    by_cases b61 : x1 < 0 ∨ 3 ≤ x1.toNatClampNeg
    · rw [if_pos b61] at h; cases h
    rw [if_neg b61] at h
    refine zS_aald lay_47 b61 dX5_isWrong_61 ?_
    refine zS_iload_n dX5_isWrong_62 rfl rfl ?_
    by_cases b63 : x2 < 0 ∨ 64 ≤ x2.toNatClampNeg
    · rw [if_pos b63] at h; cases h
    rw [if_neg b63] at h
    refine zS_iald b63 dX5_isWrong_63 ?_
    refine zS_iload dX5_isWrong_64 rfl ?_
    refine zS_icmp_eq (tgt := 73) dX5_isWrong_66 (by decide) (fun c66 => ?_) (fun c66 => ?_)
    · rw [if_pos c66] at h
      refine zS_iconst (v := (0 : Int32)) dX5_isWrong_73 (by decide) ?_
      cases h
      exact zS_ireturn dX5_isWrong_74 rfl rfl
    · rw [if_neg c66] at h
      refine zS_iconst (v := (1 : Int32)) dX5_isWrong_69 (by decide) ?_
      refine zS_goto (tgt := 74) dX5_isWrong_70 (by decide) ?_
      cases h
      exact zS_ireturn dX5_isWrong_74 rfl rfl
def p_X5_isWrong (x1 : Int32) (x2 : Int32) (M : zM) : Option (Int32) :=
  if x1 < 0 ∨ 3 ≤ x1.toNatClampNeg then none else
  (p_X4_source (M 45 x1.toNatClampNeg) (M 6 5) (M 6 6) x2 M).bind fun r19 =>
  if (16 : Int32) ≤ r19 then
    if r19 - (16 : Int32) < 0 ∨ 16 ≤ (r19 - (16 : Int32)).toNatClampNeg then none else
    p_X5_isWrong_42 x1 x2 (M 69 (r19 - (16 : Int32)).toNatClampNeg) M
  else
    p_X5_isWrong_42 x1 x2 r19 M
set_option maxRecDepth 20000 in
set_option maxHeartbeats 4000000 in
theorem zc_X5_isWrong (x1 : Int32) (x2 : Int32) (M : zM) {r : Int32} (h : p_X5_isWrong x1 x2 M = some r) : zS Y_X5_isWrong 0 [some (zO 6), some (zI x1), some (zI x2), none, none] [] M (some r, M) := by
  rw [p_X5_isWrong] at h
  refine zS_aload_nO dX5_isWrong_0 rfl rfl ?_
  refine gf_6_0 dX5_isWrong_1 zw_183 ?_
  refine zS_aload_nO dX5_isWrong_4 rfl rfl ?_
  refine gf_6_1 dX5_isWrong_5 zw_145 ?_
  refine zS_iload_n dX5_isWrong_8 rfl rfl ?_
  by_cases b9 : x1 < 0 ∨ 3 ≤ x1.toNatClampNeg
  · rw [if_pos b9] at h; cases h
  rw [if_neg b9] at h
  refine zS_iald b9 dX5_isWrong_9 ?_
  refine zS_aload_nO dX5_isWrong_10 rfl rfl ?_
  refine gf_6_5 dX5_isWrong_11 zw_175 ?_
  refine zS_aload_nO dX5_isWrong_14 rfl rfl ?_
  refine gf_6_6 dX5_isWrong_15 zw_176 ?_
  refine zS_iload_n dX5_isWrong_18 rfl rfl ?_
  obtain ⟨r19, h19, h⟩ := zbind h
  refine zS_callV (as := [zI (M 45 x1.toNatClampNeg), zI (M 6 5), zI (M 6 6), zI x2]) (st := []) (ls0 := [some (zO 4), some (zI (M 45 x1.toNatClampNeg)), some (zI (M 6 5)), some (zI (M 6 6)), some (zI x2), none, none, none, none]) dX5_isWrong_19 okY_X4_source rfl rfl lay_4 rfl zw_168 zw_169 zw_207 np_X4_source (by decide) (Nat.le_of_ble_eq_true rfl) rfl (Nat.le_of_ble_eq_true rfl) (And.intro rfl (And.intro rfl (And.intro rfl (And.intro rfl (And.intro rfl trivial))))) (zc_X4_source (M 45 x1.toNatClampNeg) (M 6 5) (M 6 6) x2 M h19) ?_
  refine zS_istore_n (ls' := [some (zO 6), some (zI x1), some (zI x2), some (zI r19), none]) dX5_isWrong_22 rfl (by decide) rfl rfl ?_
  refine zS_iload_n dX5_isWrong_23 rfl rfl ?_
  refine zS_bipush (v := (16 : Int32)) dX5_isWrong_24 (by decide) ?_
  refine zS_icmp_ge (tgt := 33) dX5_isWrong_26 (by decide) (fun c26 => ?_) (fun c26 => ?_)
  · rw [if_pos c26] at h
    refine zS_aload_nO dX5_isWrong_33 rfl rfl ?_
    refine gf_6_10 dX5_isWrong_34 zw_222 ?_
    refine zS_iload_n dX5_isWrong_37 rfl rfl ?_
    refine zS_bipush (v := (16 : Int32)) dX5_isWrong_38 (by decide) ?_
    refine zS_isub dX5_isWrong_40 ?_
    by_cases b41 : r19 - (16 : Int32) < 0 ∨ 16 ≤ (r19 - (16 : Int32)).toNatClampNeg
    · rw [if_pos b41] at h; cases h
    rw [if_neg b41] at h
    refine zS_iald b41 dX5_isWrong_41 ?_
    exact zS_wk [some (zO 6), some (zI x1), some (zI x2), none, none] (And.intro rfl (And.intro rfl (And.intro rfl trivial))) (zc_X5_isWrong_42 x1 x2 (M 69 (r19 - (16 : Int32)).toNatClampNeg) M h)
  · rw [if_neg c26] at h
    refine zS_iload_n dX5_isWrong_29 rfl rfl ?_
    refine zS_goto (tgt := 42) dX5_isWrong_30 (by decide) ?_
    exact zS_wk [some (zO 6), some (zI x1), some (zI x2), none, none] (And.intro rfl (And.intro rfl (And.intro rfl trivial))) (zc_X5_isWrong_42 x1 x2 r19 M h)
def p_X5_wrongCells_4 (x1 : Int32) (M : zM) : Nat → Int32 → Int32 → Option (Int32)
  | 0, _, _ => none
  | nn + 1, x2, x3 =>
  if x1 < 0 ∨ 3 ≤ x1.toNatClampNeg then none else
  if (M 46 x1.toNatClampNeg) ≤ x3 then
    some x2
  else
    (p_X5_isWrong x1 x3 M).bind fun r17 =>
    if r17 = 0 then
      p_X5_wrongCells_4 x1 M nn x2 (x3 + (1 : Int32))
    else
      p_X5_wrongCells_4 x1 M nn (x2 + (1 : Int32)) (x3 + (1 : Int32))
set_option maxRecDepth 20000 in
set_option maxHeartbeats 4000000 in
theorem zc_X5_wrongCells_4 (x1 : Int32) (M : zM) : ∀ (nn : Nat) (x2 : Int32) (x3 : Int32) (r : Int32), p_X5_wrongCells_4 x1 M nn x2 x3 = some r → zS Y_X5_wrongCells 4 [some (zO 6), some (zI x1), some (zI x2), some (zI x3)] [] M (some r, M) := by
  intro nn
  induction nn with
  | zero => intro x2 x3 r h; cases h
  | succ nn ih =>
  intro x2 x3 r h
  rw [p_X5_wrongCells_4] at h
  refine zS_iload_n dX5_wrongCells_4 rfl rfl ?_
  refine zS_aload_nO dX5_wrongCells_5 rfl rfl ?_
  refine gf_6_2 dX5_wrongCells_6 zw_182 ?_
  refine zS_iload_n dX5_wrongCells_9 rfl rfl ?_
  by_cases b10 : x1 < 0 ∨ 3 ≤ x1.toNatClampNeg
  · rw [if_pos b10] at h; cases h
  rw [if_neg b10] at h
  refine zS_iald b10 dX5_wrongCells_10 ?_
  refine zS_icmp_ge (tgt := 32) dX5_wrongCells_11 (by decide) (fun c11 => ?_) (fun c11 => ?_)
  · rw [if_pos c11] at h
    refine zS_iload_n dX5_wrongCells_32 rfl rfl ?_
    cases h
    exact zS_ireturn dX5_wrongCells_33 rfl rfl
  · rw [if_neg c11] at h
    refine zS_aload_nO dX5_wrongCells_14 rfl rfl ?_
    refine zS_iload_n dX5_wrongCells_15 rfl rfl ?_
    refine zS_iload_n dX5_wrongCells_16 rfl rfl ?_
    obtain ⟨r17, h17, h⟩ := zbind h
    refine zS_callV (as := [zI x1, zI x3]) (st := []) (ls0 := [some (zO 6), some (zI x1), some (zI x3), none, none]) dX5_wrongCells_17 okY_X5_isWrong rfl rfl lay_6 rfl zw_230 zw_231 zw_232 np_X5_isWrong (by decide) (Nat.le_of_ble_eq_true rfl) rfl (Nat.le_of_ble_eq_true rfl) (And.intro rfl (And.intro rfl (And.intro rfl trivial))) (zc_X5_isWrong x1 x3 M h17) ?_
    refine zS_if_eq (tgt := 26) dX5_wrongCells_20 (by decide) (fun c20 => ?_) (fun c20 => ?_)
    · rw [if_pos c20] at h
      refine zS_iinc (v := x3 + (1 : Int32)) (ls' := [some (zO 6), some (zI x1), some (zI x2), some (zI (x3 + (1 : Int32)))]) dX5_wrongCells_26 rfl rfl (by decide) rfl rfl ?_
      refine zS_goto (tgt := 4) dX5_wrongCells_29 (by decide) ?_
      exact zS_wk [some (zO 6), some (zI x1), some (zI x2), some (zI (x3 + (1 : Int32)))] (And.intro rfl (And.intro rfl (And.intro rfl (And.intro rfl trivial)))) (ih x2 (x3 + (1 : Int32)) r h)
    · rw [if_neg c20] at h
      refine zS_iinc (v := x2 + (1 : Int32)) (ls' := [some (zO 6), some (zI x1), some (zI (x2 + (1 : Int32))), some (zI x3)]) dX5_wrongCells_23 rfl rfl (by decide) rfl rfl ?_
      refine zS_iinc (v := x3 + (1 : Int32)) (ls' := [some (zO 6), some (zI x1), some (zI (x2 + (1 : Int32))), some (zI (x3 + (1 : Int32)))]) dX5_wrongCells_26 rfl rfl (by decide) rfl rfl ?_
      refine zS_goto (tgt := 4) dX5_wrongCells_29 (by decide) ?_
      exact zS_wk [some (zO 6), some (zI x1), some (zI (x2 + (1 : Int32))), some (zI (x3 + (1 : Int32)))] (And.intro rfl (And.intro rfl (And.intro rfl (And.intro rfl trivial)))) (ih (x2 + (1 : Int32)) (x3 + (1 : Int32)) r h)
def p_X5_wrongCells (x1 : Int32) (M : zM) : Option (Int32) :=
  p_X5_wrongCells_4 x1 M 5000 (0 : Int32) (0 : Int32)
set_option maxRecDepth 20000 in
set_option maxHeartbeats 4000000 in
theorem zc_X5_wrongCells (x1 : Int32) (M : zM) {r : Int32} (h : p_X5_wrongCells x1 M = some r) : zS Y_X5_wrongCells 0 [some (zO 6), some (zI x1), none, none] [] M (some r, M) := by
  rw [p_X5_wrongCells] at h
  refine zS_iconst (v := (0 : Int32)) dX5_wrongCells_0 (by decide) ?_
  refine zS_istore_n (ls' := [some (zO 6), some (zI x1), some (zI (0 : Int32)), none]) dX5_wrongCells_1 rfl (by decide) rfl rfl ?_
  refine zS_iconst (v := (0 : Int32)) dX5_wrongCells_2 (by decide) ?_
  refine zS_istore_n (ls' := [some (zO 6), some (zI x1), some (zI (0 : Int32)), some (zI (0 : Int32))]) dX5_wrongCells_3 rfl (by decide) rfl rfl ?_
  exact zS_wk [some (zO 6), some (zI x1), some (zI (0 : Int32)), some (zI (0 : Int32))] (And.intro rfl (And.intro rfl (And.intro rfl (And.intro rfl trivial)))) (zc_X5_wrongCells_4 x1 M 5000 (0 : Int32) (0 : Int32) r h)
