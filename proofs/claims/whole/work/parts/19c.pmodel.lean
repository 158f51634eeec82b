def p_X9_findOff_87 (k28 : Int32 → zM → Option (zM)) (k40 : Int32 → Int32 → zM → Option (zM)) (k51 : Int32 → Int32 → zM → Option (zM)) (x1 : Int32) (x2 : Int32) (x3 : Int32) (x4 : Int32) (x5 : Int32) : Nat → Int32 → zM → Option (zM)
  | 0, _, _ => none
  | nn + 1, x6, M =>
  if (81 : Int32) ≤ x6 then
    k51 (x2 + (1 : Int32)) (x4 + (1 : Int32)) M
  else
    if x5 = (-1 : Int32) then
      k51 (x2 + (1 : Int32)) (x4 + (1 : Int32)) M
    else
      if ((81 : Int32) * x3) + x6 < 0 ∨ 1296 ≤ (((81 : Int32) * x3) + x6).toNatClampNeg then none else
      if x1 < 0 ∨ 3 ≤ x1.toNatClampNeg then none else
      (p_X9_cellOf (M 89 x1.toNatClampNeg) (M 9 20) x3 x4 (x6 / (9 : Int32)) (x6 - x6 / (9 : Int32) * (9 : Int32)) M).bind fun r137 =>
      if r137 = x5 then
        if ((81 : Int32) * x3) + x6 < 0 ∨ 1296 ≤ (((81 : Int32) * x3) + x6).toNatClampNeg then none else
        p_X9_findOff_87 k28 k40 k51 x1 x2 x3 x4 x5 nn (x6 + (1 : Int32)) (zset M 91 ((((81 : Int32) * x3) + x6).toNatClampNeg) ((M 91 (((81 : Int32) * x3) + x6).toNatClampNeg) + (0 : Int32)))
      else
        if ((81 : Int32) * x3) + x6 < 0 ∨ 1296 ≤ (((81 : Int32) * x3) + x6).toNatClampNeg then none else
        p_X9_findOff_87 k28 k40 k51 x1 x2 x3 x4 x5 nn (x6 + (1 : Int32)) (zset M 91 ((((81 : Int32) * x3) + x6).toNatClampNeg) ((M 91 (((81 : Int32) * x3) + x6).toNatClampNeg) + (1 : Int32)))
set_option maxRecDepth 20000 in
set_option maxHeartbeats 4000000 in
theorem zc_X9_findOff_87 {k28 : Int32 → zM → Option (zM)} {k40 : Int32 → Int32 → zM → Option (zM)} {k51 : Int32 → Int32 → zM → Option (zM)} (x1 : Int32) (x2 : Int32) (x3 : Int32) (x4 : Int32) (x5 : Int32) (hk28 : ∀ (x1 : Int32) (M : zM) (r : zM), k28 x1 M = some r → zS Y_X9_findOff 28 [some (zO 9), some (zI x1), none, none, none, none, none] [] M (none, r)) (hk40 : ∀ (x2 : Int32) (x3 : Int32) (M : zM) (r : zM), k40 x2 x3 M = some r → zS Y_X9_findOff 40 [some (zO 9), some (zI x1), some (zI x2), some (zI x3), none, none, none] [] M (none, r)) (hk51 : ∀ (x2 : Int32) (x4 : Int32) (M : zM) (r : zM), k51 x2 x4 M = some r → zS Y_X9_findOff 51 [some (zO 9), some (zI x1), some (zI x2), some (zI x3), some (zI x4), none, none] [] M (none, r)) : ∀ (nn : Nat) (x6 : Int32) (M : zM) (r : zM), p_X9_findOff_87 k28 k40 k51 x1 x2 x3 x4 x5 nn x6 M = some r → zS Y_X9_findOff 87 [some (zO 9), some (zI x1), some (zI x2), some (zI x3), some (zI x4), some (zI x5), some (zI x6)] [] M (none, r) := by
  intro nn
  induction nn with
  | zero => intro x6 M r h; cases h
  | succ nn ih =>
  intro x6 M r h
  rw [p_X9_findOff_87] at h
  refine zS_iload dX9_findOff_87 rfl ?_
  refine zS_bipush (v := (81 : Int32)) dX9_findOff_89 (by decide) ?_
  refine zS_icmp_ge (tgt := 158) dX9_findOff_91 (by decide) (fun c91 => ?_) (fun c91 => ?_)
  · rw [if_pos c91] at h
    refine zS_iinc (v := x2 + (1 : Int32)) (ls' := [some (zO 9), some (zI x1), some (zI (x2 + (1 : Int32))), some (zI x3), some (zI x4), some (zI x5), some (zI x6)]) dX9_findOff_158 rfl rfl (by decide) rfl rfl ?_
    refine zS_iinc (v := x4 + (1 : Int32)) (ls' := [some (zO 9), some (zI x1), some (zI (x2 + (1 : Int32))), some (zI x3), some (zI (x4 + (1 : Int32))), some (zI x5), some (zI x6)]) dX9_findOff_161 rfl rfl (by decide) rfl rfl ?_
    refine zS_goto (tgt := 51) dX9_findOff_164 (by decide) ?_
    exact zS_wk [some (zO 9), some (zI x1), some (zI (x2 + (1 : Int32))), some (zI x3), some (zI (x4 + (1 : Int32))), none, none] (And.intro rfl (And.intro rfl (And.intro rfl (And.intro rfl (And.intro rfl trivial))))) (hk51 (x2 + (1 : Int32)) (x4 + (1 : Int32)) M r h)
  · rw [if_neg c91] at h
    refine zS_iload dX9_findOff_94 rfl ?_
    refine zS_iconst (v := (-1 : Int32)) dX9_findOff_96 (by decide) ?_
    refine zS_icmp_eq (tgt := 158) dX9_findOff_97 (by decide) (fun c97 => ?_) (fun c97 => ?_)
    · rw [if_pos c97] at h
      refine zS_iinc (v := x2 + (1 : Int32)) (ls' := [some (zO 9), some (zI x1), some (zI (x2 + (1 : Int32))), some (zI x3), some (zI x4), some (zI x5), some (zI x6)]) dX9_findOff_158 rfl rfl (by decide) rfl rfl ?_
      refine zS_iinc (v := x4 + (1 : Int32)) (ls' := [some (zO 9), some (zI x1), some (zI (x2 + (1 : Int32))), some (zI x3), some (zI (x4 + (1 : Int32))), some (zI x5), some (zI x6)]) dX9_findOff_161 rfl rfl (by decide) rfl rfl ?_
      refine zS_goto (tgt := 51) dX9_findOff_164 (by decide) ?_
      exact zS_wk [some (zO 9), some (zI x1), some (zI (x2 + (1 : Int32))), some (zI x3), some (zI (x4 + (1 : Int32))), none, none] (And.intro rfl (And.intro rfl (And.intro rfl (And.intro rfl (And.intro rfl trivial))))) (hk51 (x2 + (1 : Int32)) (x4 + (1 : Int32)) M r h)
    · rw [if_neg c97] at h
      refine zS_aload_nO dX9_findOff_100 rfl rfl ?_
      refine gf_9_23 dX9_findOff_101 zw_381 ?_
      refine zS_bipush (v := (81 : Int32)) dX9_findOff_104 (by decide) ?_
      refine zS_iload_n dX9_findOff_106 rfl rfl ?_
      refine zS_imul dX9_findOff_107 ?_
      refine zS_iload dX9_findOff_108 rfl ?_
      refine zS_iadd dX9_findOff_110 ?_
      refine zS_dup2 dX9_findOff_111 rfl ?_
      by_cases b112 : ((81 : Int32) * x3) + x6 < 0 ∨ 1296 ≤ (((81 : Int32) * x3) + x6).toNatClampNeg
      · rw [if_pos b112] at h; cases h
      rw [if_neg b112] at h
      refine zS_iald b112 dX9_findOff_112 ?_
      refine zS_aload_nO dX9_findOff_113 rfl rfl ?_
      refine zS_aload_nO dX9_findOff_114 rfl rfl ?_
      refine gf_9_21 dX9_findOff_115 zw_360 ?_
      refine zS_iload_n dX9_findOff_118 rfl rfl ?_
      by_cases b119 : x1 < 0 ∨ 3 ≤ x1.toNatClampNeg
      · rw [if_pos b119] at h; cases h
      rw [if_neg b119] at h
      refine zS_iald b119 dX9_findOff_119 ?_
      refine zS_aload_nO dX9_findOff_120 rfl rfl ?_
      refine gf_9_20 dX9_findOff_121 zw_374 ?_
      refine zS_iload_n dX9_findOff_124 rfl rfl ?_
      refine zS_iload dX9_findOff_125 rfl ?_
      refine zS_iload dX9_findOff_127 rfl ?_
      refine zS_bipush (v := (9 : Int32)) dX9_findOff_129 (by decide) ?_
      refine zS_idiv (by decide) dX9_findOff_131 ?_
      refine zS_iload dX9_findOff_132 rfl ?_
      refine zS_bipush (v := (9 : Int32)) dX9_findOff_134 (by decide) ?_
      refine zS_irem (by decide) dX9_findOff_136 ?_
      obtain ⟨r137, h137, h⟩ := zbind h
      refine zS_callV (as := [zI (M 89 x1.toNatClampNeg), zI (M 9 20), zI x3, zI x4, zI (x6 / (9 : Int32)), zI (x6 - x6 / (9 : Int32) * (9 : Int32))]) (st := [zI (M 91 (((81 : Int32) * x3) + x6).toNatClampNeg), zI (((81 : Int32) * x3) + x6), zA 91 1296]) (ls0 := [some (zO 9), some (zI (M 89 x1.toNatClampNeg)), some (zI (M 9 20)), some (zI x3), some (zI x4), some (zI (x6 / (9 : Int32))), some (zI (x6 - x6 / (9 : Int32) * (9 : Int32))), none]) dX9_findOff_137 okY_X9_cellOf rfl rfl lay_9 rfl zw_368 zw_369 zw_370 np_X9_cellOf (by decide) (Nat.le_of_ble_eq_true rfl) rfl (Nat.le_of_ble_eq_true rfl) (And.intro rfl (And.intro rfl (And.intro rfl (And.intro rfl (And.intro rfl (And.intro rfl (And.intro rfl trivial))))))) (zc_X9_cellOf (M 89 x1.toNatClampNeg) (M 9 20) x3 x4 (x6 / (9 : Int32)) (x6 - x6 / (9 : Int32) * (9 : Int32)) M h137) ?_
      refine zS_iload dX9_findOff_140 rfl ?_
      refine zS_icmp_eq (tgt := 149) dX9_findOff_142 (by decide) (fun c142 => ?_) (fun c142 => ?_)
      · rw [if_pos c142] at h
        refine zS_iconst (v := (0 : Int32)) dX9_findOff_149 (by decide) ?_
        refine zS_iadd dX9_findOff_150 ?_
        by_cases b151 : ((81 : Int32) * x3) + x6 < 0 ∨ 1296 ≤ (((81 : Int32) * x3) + x6).toNatClampNeg
        · rw [if_pos b151] at h; cases h
        rw [if_neg b151] at h
        refine zS_iast b151 dX9_findOff_151 ?_
        refine zS_iinc (v := x6 + (1 : Int32)) (ls' := [some (zO 9), some (zI x1), some (zI x2), some (zI x3), some (zI x4), some (zI x5), some (zI (x6 + (1 : Int32)))]) dX9_findOff_152 rfl rfl (by decide) rfl rfl ?_
        refine zS_goto (tgt := 87) dX9_findOff_155 (by decide) ?_
        exact zS_wk [some (zO 9), some (zI x1), some (zI x2), some (zI x3), some (zI x4), some (zI x5), some (zI (x6 + (1 : Int32)))] (And.intro rfl (And.intro rfl (And.intro rfl (And.intro rfl (And.intro rfl (And.intro rfl (And.intro rfl trivial))))))) (ih (x6 + (1 : Int32)) (zset M 91 ((((81 : Int32) * x3) + x6).toNatClampNeg) ((M 91 (((81 : Int32) * x3) + x6).toNatClampNeg) + (0 : Int32))) r h)
      · rw [if_neg c142] at h
        refine zS_iconst (v := (1 : Int32)) dX9_findOff_145 (by decide) ?_
        refine zS_goto (tgt := 150) dX9_findOff_146 (by decide) ?_
        refine zS_iadd dX9_findOff_150 ?_
        by_cases b151 : ((81 : Int32) * x3) + x6 < 0 ∨ 1296 ≤ (((81 : Int32) * x3) + x6).toNatClampNeg
        · rw [if_pos b151] at h; cases h
        rw [if_neg b151] at h
        refine zS_iast b151 dX9_findOff_151 ?_
        refine zS_iinc (v := x6 + (1 : Int32)) (ls' := [some (zO 9), some (zI x1), some (zI x2), some (zI x3), some (zI x4), some (zI x5), some (zI (x6 + (1 : Int32)))]) dX9_findOff_152 rfl rfl (by decide) rfl rfl ?_
        refine zS_goto (tgt := 87) dX9_findOff_155 (by decide) ?_
        exact zS_wk [some (zO 9), some (zI x1), some (zI x2), some (zI x3), some (zI x4), some (zI x5), some (zI (x6 + (1 : Int32)))] (And.intro rfl (And.intro rfl (And.intro rfl (And.intro rfl (And.intro rfl (And.intro rfl (And.intro rfl trivial))))))) (ih (x6 + (1 : Int32)) (zset M 91 ((((81 : Int32) * x3) + x6).toNatClampNeg) ((M 91 (((81 : Int32) * x3) + x6).toNatClampNeg) + (1 : Int32))) r h)
def p_X9_findOff_51 (k28 : Int32 → zM → Option (zM)) (k40 : Int32 → Int32 → zM → Option (zM)) (x1 : Int32) (x3 : Int32) : Nat → Int32 → Int32 → zM → Option (zM)
  | 0, _, _, _ => none
  | nn + 1, x2, x4, M =>
  if x1 < 0 ∨ 3 ≤ x1.toNatClampNeg then none else
  (p_X9_cellsOf (M 89 x1.toNatClampNeg) (M 9 20) x3 M).bind fun r65 =>
  if r65 ≤ x4 then
    k40 x2 (x3 + (1 : Int32)) M
  else
    if ((64 : Int32) * x1) + x2 < 0 ∨ 192 ≤ (((64 : Int32) * x1) + x2).toNatClampNeg then none else
    p_X9_findOff_87 k28 k40 (p_X9_findOff_51 k28 k40 x1 x3 nn) x1 x2 x3 x4 (M 90 (((64 : Int32) * x1) + x2).toNatClampNeg) 5000 (0 : Int32) M
set_option maxRecDepth 20000 in
set_option maxHeartbeats 4000000 in
theorem zc_X9_findOff_51 {k28 : Int32 → zM → Option (zM)} {k40 : Int32 → Int32 → zM → Option (zM)} (x1 : Int32) (x3 : Int32) (hk28 : ∀ (x1 : Int32) (M : zM) (r : zM), k28 x1 M = some r → zS Y_X9_findOff 28 [some (zO 9), some (zI x1), none, none, none, none, none] [] M (none, r)) (hk40 : ∀ (x2 : Int32) (x3 : Int32) (M : zM) (r : zM), k40 x2 x3 M = some r → zS Y_X9_findOff 40 [some (zO 9), some (zI x1), some (zI x2), some (zI x3), none, none, none] [] M (none, r)) : ∀ (nn : Nat) (x2 : Int32) (x4 : Int32) (M : zM) (r : zM), p_X9_findOff_51 k28 k40 x1 x3 nn x2 x4 M = some r → zS Y_X9_findOff 51 [some (zO 9), some (zI x1), some (zI x2), some (zI x3), some (zI x4), none, none] [] M (none, r) := by
  intro nn
  induction nn with
  | zero => intro x2 x4 M r h; cases h
  | succ nn ih =>
  intro x2 x4 M r h
  rw [p_X9_findOff_51] at h
  refine zS_iload dX9_findOff_51 rfl ?_
  refine zS_aload_nO dX9_findOff_53 rfl rfl ?_
  refine zS_aload_nO dX9_findOff_54 rfl rfl ?_
  refine gf_9_21 dX9_findOff_55 zw_360 ?_
  refine zS_iload_n dX9_findOff_58 rfl rfl ?_
  by_cases b59 : x1 < 0 ∨ 3 ≤ x1.toNatClampNeg
  · rw [if_pos b59] at h; cases h
  rw [if_neg b59] at h
  refine zS_iald b59 dX9_findOff_59 ?_
  refine zS_aload_nO dX9_findOff_60 rfl rfl ?_
  refine gf_9_20 dX9_findOff_61 zw_374 ?_
  refine zS_iload_n dX9_findOff_64 rfl rfl ?_
  obtain ⟨r65, h65, h⟩ := zbind h
  refine zS_callV (as := [zI (M 89 x1.toNatClampNeg), zI (M 9 20), zI x3]) (st := [zI x4]) (ls0 := [some (zO 9), some (zI (M 89 x1.toNatClampNeg)), some (zI (M 9 20)), some (zI x3)]) dX9_findOff_65 okY_X9_cellsOf rfl rfl lay_9 rfl zw_365 zw_366 zw_367 np_X9_cellsOf (by decide) (Nat.le_of_ble_eq_true rfl) rfl (Nat.le_of_ble_eq_true rfl) (And.intro rfl (And.intro rfl (And.intro rfl (And.intro rfl trivial)))) (zc_X9_cellsOf (M 89 x1.toNatClampNeg) (M 9 20) x3 M h65) ?_
  refine zS_icmp_ge (tgt := 167) dX9_findOff_68 (by decide) (fun c68 => ?_) (fun c68 => ?_)
  · rw [if_pos c68] at h
    refine zS_iinc (v := x3 + (1 : Int32)) (ls' := [some (zO 9), some (zI x1), some (zI x2), some (zI (x3 + (1 : Int32))), some (zI x4), none, none]) dX9_findOff_167 rfl rfl (by decide) rfl rfl ?_
    refine zS_goto (tgt := 40) dX9_findOff_170 (by decide) ?_
    exact zS_wk [some (zO 9), some (zI x1), some (zI x2), some (zI (x3 + (1 : Int32))), none, none, none] (And.intro rfl (And.intro rfl (And.intro rfl (And.intro rfl trivial)))) (hk40 x2 (x3 + (1 : Int32)) M r h)
  · rw [if_neg c68] at h
    refine zS_aload_nO dX9_findOff_71 rfl rfl ?_
    refine gf_9_22 dX9_findOff_72 zw_372 ?_
    refine zS_bipush (v := (64 : Int32)) dX9_findOff_75 (by decide) ?_
    refine zS_iload_n dX9_findOff_77 rfl rfl ?_
    refine zS_imul dX9_findOff_78 ?_
    refine zS_iload_n dX9_findOff_79 rfl rfl ?_
    refine zS_iadd dX9_findOff_80 ?_
    by_cases b81 : ((64 : Int32) * x1) + x2 < 0 ∨ 192 ≤ (((64 : Int32) * x1) + x2).toNatClampNeg
    · rw [if_pos b81] at h; cases h
    rw [if_neg b81] at h
    refine zS_iald b81 dX9_findOff_81 ?_
    refine zS_istore (ls' := [some (zO 9), some (zI x1), some (zI x2), some (zI x3), some (zI x4), some (zI (M 90 (((64 : Int32) * x1) + x2).toNatClampNeg)), none]) dX9_findOff_82 (by decide) rfl rfl ?_
    refine zS_iconst (v := (0 : Int32)) dX9_findOff_84 (by decide) ?_
    refine zS_istore (ls' := [some (zO 9), some (zI x1), some (zI x2), some (zI x3), some (zI x4), some (zI (M 90 (((64 : Int32) * x1) + x2).toNatClampNeg)), some (zI (0 : Int32))]) dX9_findOff_85 (by decide) rfl rfl ?_
    exact zS_wk [some (zO 9), some (zI x1), some (zI x2), some (zI x3), some (zI x4), some (zI (M 90 (((64 : Int32) * x1) + x2).toNatClampNeg)), some (zI (0 : Int32))] (And.intro rfl (And.intro rfl (And.intro rfl (And.intro rfl (And.intro rfl (And.intro rfl (And.intro rfl trivial))))))) (zc_X9_findOff_87 x1 x2 x3 x4 (M 90 (((64 : Int32) * x1) + x2).toNatClampNeg) hk28 hk40 ih 5000 (0 : Int32) M r h)
def p_X9_findOff_40 (k28 : Int32 → zM → Option (zM)) (x1 : Int32) : Nat → Int32 → Int32 → zM → Option (zM)
  | 0, _, _, _ => none
  | nn + 1, x2, x3, M =>
  if (M 9 19) ≤ x3 then
    k28 (x1 + (1 : Int32)) M
  else
    p_X9_findOff_51 k28 (p_X9_findOff_40 k28 x1 nn) x1 x3 5000 x2 (0 : Int32) M
set_option maxRecDepth 20000 in
set_option maxHeartbeats 4000000 in
theorem zc_X9_findOff_40 {k28 : Int32 → zM → Option (zM)} (x1 : Int32) (hk28 : ∀ (x1 : Int32) (M : zM) (r : zM), k28 x1 M = some r → zS Y_X9_findOff 28 [some (zO 9), some (zI x1), none, none, none, none, none] [] M (none, r)) : ∀ (nn : Nat) (x2 : Int32) (x3 : Int32) (M : zM) (r : zM), p_X9_findOff_40 k28 x1 nn x2 x3 M = some r → zS Y_X9_findOff 40 [some (zO 9), some (zI x1), some (zI x2), some (zI x3), none, none, none] [] M (none, r) := by
  intro nn
  induction nn with
  | zero => intro x2 x3 M r h; cases h
  | succ nn ih =>
  intro x2 x3 M r h
  rw [p_X9_findOff_40] at h
  refine zS_iload_n dX9_findOff_40 rfl rfl ?_
  refine zS_aload_nO dX9_findOff_41 rfl rfl ?_
  refine gf_9_19 dX9_findOff_42 zw_373 ?_
  refine zS_icmp_ge (tgt := 173) dX9_findOff_45 (by decide) (fun c45 => ?_) (fun c45 => ?_)
  · rw [if_pos c45] at h
    refine zS_iinc (v := x1 + (1 : Int32)) (ls' := [some (zO 9), some (zI (x1 + (1 : Int32))), some (zI x2), some (zI x3), none, none, none]) dX9_findOff_173 rfl rfl (by decide) rfl rfl ?_
    refine zS_goto (tgt := 28) dX9_findOff_176 (by decide) ?_
    exact zS_wk [some (zO 9), some (zI (x1 + (1 : Int32))), none, none, none, none, none] (And.intro rfl (And.intro rfl trivial)) (hk28 (x1 + (1 : Int32)) M r h)
  · rw [if_neg c45] at h
    refine zS_iconst (v := (0 : Int32)) dX9_findOff_48 (by decide) ?_
    refine zS_istore (ls' := [some (zO 9), some (zI x1), some (zI x2), some (zI x3), some (zI (0 : Int32)), none, none]) dX9_findOff_49 (by decide) rfl rfl ?_
    exact zS_wk [some (zO 9), some (zI x1), some (zI x2), some (zI x3), some (zI (0 : Int32)), none, none] (And.intro rfl (And.intro rfl (And.intro rfl (And.intro rfl (And.intro rfl trivial))))) (zc_X9_findOff_51 x1 x3 hk28 ih 5000 x2 (0 : Int32) M r h)
def p_X9_findOff_28 : Nat → Int32 → zM → Option (zM)
  | 0, _, _ => none
  | nn + 1, x1, M =>
  if (M 9 18) ≤ x1 then
    some M
  else
    p_X9_findOff_40 (p_X9_findOff_28 nn) x1 5000 (0 : Int32) (0 : Int32) M
set_option maxRecDepth 20000 in
set_option maxHeartbeats 4000000 in
theorem zc_X9_findOff_28 : ∀ (nn : Nat) (x1 : Int32) (M : zM) (r : zM), p_X9_findOff_28 nn x1 M = some r → zS Y_X9_findOff 28 [some (zO 9), some (zI x1), none, none, none, none, none] [] M (none, r) := by
  intro nn
  induction nn with
  | zero => intro x1 M r h; cases h
  | succ nn ih =>
  intro x1 M r h
  rw [p_X9_findOff_28] at h
  refine zS_iload_n dX9_findOff_28 rfl rfl ?_
  refine zS_aload_nO dX9_findOff_29 rfl rfl ?_
  refine gf_9_18 dX9_findOff_30 zw_358 ?_
  refine zS_icmp_ge (tgt := 179) dX9_findOff_33 (by decide) (fun c33 => ?_) (fun c33 => ?_)
  · rw [if_pos c33] at h
    cases h
    exact zS_return dX9_findOff_179
  · rw [if_neg c33] at h
    refine zS_iconst (v := (0 : Int32)) dX9_findOff_36 (by decide) ?_
    refine zS_istore_n (ls' := [some (zO 9), some (zI x1), some (zI (0 : Int32)), none, none, none, none]) dX9_findOff_37 rfl (by decide) rfl rfl ?_
    refine zS_iconst (v := (0 : Int32)) dX9_findOff_38 (by decide) ?_
    refine zS_istore_n (ls' := [some (zO 9), some (zI x1), some (zI (0 : Int32)), some (zI (0 : Int32)), none, none, none]) dX9_findOff_39 rfl (by decide) rfl rfl ?_
    exact zS_wk [some (zO 9), some (zI x1), some (zI (0 : Int32)), some (zI (0 : Int32)), none, none, none] (And.intro rfl (And.intro rfl (And.intro rfl (And.intro rfl trivial)))) (zc_X9_findOff_40 x1 ih 5000 (0 : Int32) (0 : Int32) M r h)
def p_X9_findOff_2 : Nat → Int32 → zM → Option (zM)
  | 0, _, _ => none
  | nn + 1, x1, M =>
  if ((81 : Int32) * (M 9 19)) ≤ x1 then
    p_X9_findOff_28 5000 (0 : Int32) M
  else
    if x1 < 0 ∨ 1296 ≤ x1.toNatClampNeg then none else
    p_X9_findOff_2 nn (x1 + (1 : Int32)) (zset M 91 x1.toNatClampNeg (0 : Int32))
set_option maxRecDepth 20000 in
set_option maxHeartbeats 4000000 in
theorem zc_X9_findOff_2 : ∀ (nn : Nat) (x1 : Int32) (M : zM) (r : zM), p_X9_findOff_2 nn x1 M = some r → zS Y_X9_findOff 2 [some (zO 9), some (zI x1), none, none, none, none, none] [] M (none, r) := by
  intro nn
  induction nn with
  | zero => intro x1 M r h; cases h
  | succ nn ih =>
  intro x1 M r h
  rw [p_X9_findOff_2] at h
  refine zS_iload_n dX9_findOff_2 rfl rfl ?_
  refine zS_bipush (v := (81 : Int32)) dX9_findOff_3 (by decide) ?_
  refine zS_aload_nO dX9_findOff_5 rfl rfl ?_
  refine gf_9_19 dX9_findOff_6 zw_373 ?_
  refine zS_imul dX9_findOff_9 ?_
  refine zS_icmp_ge (tgt := 26) dX9_findOff_10 (by decide) (fun c10 => ?_) (fun c10 => ?_)
  · rw [if_pos c10] at h
    refine zS_iconst (v := (0 : Int32)) dX9_findOff_26 (by decide) ?_
    refine zS_istore_n (ls' := [some (zO 9), some (zI (0 : Int32)), none, none, none, none, none]) dX9_findOff_27 rfl (by decide) rfl rfl ?_
    exact zS_wk [some (zO 9), some (zI (0 : Int32)), none, none, none, none, none] (And.intro rfl (And.intro rfl trivial)) (zc_X9_findOff_28 5000 (0 : Int32) M r h)
  · rw [if_neg c10] at h
    refine zS_aload_nO dX9_findOff_13 rfl rfl ?_
    refine gf_9_23 dX9_findOff_14 zw_381 ?_
    refine zS_iload_n dX9_findOff_17 rfl rfl ?_
    refine zS_iconst (v := (0 : Int32)) dX9_findOff_18 (by decide) ?_
    by_cases b19 : x1 < 0 ∨ 1296 ≤ x1.toNatClampNeg
    · rw [if_pos b19] at h; cases h
    rw [if_neg b19] at h
    refine zS_iast b19 dX9_findOff_19 ?_
    refine zS_iinc (v := x1 + (1 : Int32)) (ls' := [some (zO 9), some (zI (x1 + (1 : Int32))), none, none, none, none, none]) dX9_findOff_20 rfl rfl (by decide) rfl rfl ?_
    refine zS_goto (tgt := 2) dX9_findOff_23 (by decide) ?_
    exact zS_wk [some (zO 9), some (zI (x1 + (1 : Int32))), none, none, none, none, none] (And.intro rfl (And.intro rfl trivial)) (ih (x1 + (1 : Int32)) (zset M 91 x1.toNatClampNeg (0 : Int32)) r h)
def p_X9_findOff (M : zM) : Option (zM) :=
  p_X9_findOff_2 5000 (0 : Int32) M
set_option maxRecDepth 20000 in
set_option maxHeartbeats 4000000 in
theorem zc_X9_findOff (M : zM) {r : zM} (h : p_X9_findOff M = some r) : zS Y_X9_findOff 0 [some (zO 9), none, none, none, none, none, none] [] M (none, r) := by
  rw [p_X9_findOff] at h
  refine zS_iconst (v := (0 : Int32)) dX9_findOff_0 (by decide) ?_
  refine zS_istore_n (ls' := [some (zO 9), some (zI (0 : Int32)), none, none, none, none, none]) dX9_findOff_1 rfl (by decide) rfl rfl ?_
  exact zS_wk [some (zO 9), some (zI (0 : Int32)), none, none, none, none, none] (And.intro rfl (And.intro rfl trivial)) (zc_X9_findOff_2 5000 (0 : Int32) M r h)
def p_X9_agreeing_89 (k18 : Int32 → Int32 → zM → Option (Int32 × zM)) (k69 : Int32 → zM → Option (Int32 × zM)) (k76 : Int32 → zM → Option (Int32 × zM)) (x1 : Int32) (x2 : Int32) (x3 : Int32) (x4 : Int32) (M : zM) : Nat → Int32 → Int32 → Option (Int32 × zM)
  | 0, _, _ => none
  | nn + 1, x5, x6 =>
  if (9 : Int32) ≤ x6 then
    if ((9 : Int32) * x3) + x4 < 0 ∨ 153 ≤ (((9 : Int32) * x3) + x4).toNatClampNeg then none else
    k76 (x4 + (1 : Int32)) (zset M 92 ((((9 : Int32) * x3) + x4).toNatClampNeg) x5)
  else
    if (((81 : Int32) * x3) + ((9 : Int32) * x4)) + x6 < 0 ∨ 1296 ≤ ((((81 : Int32) * x3) + ((9 : Int32) * x4)) + x6).toNatClampNeg then none else
    if (M 91 ((((81 : Int32) * x3) + ((9 : Int32) * x4)) + x6).toNatClampNeg) = 0 then
      if ((9 : Int32) * (x3 + (1 : Int32))) + x6 < 0 ∨ 153 ≤ (((9 : Int32) * (x3 + (1 : Int32))) + x6).toNatClampNeg then none else
      (p_X9_plus x5 (M 92 (((9 : Int32) * (x3 + (1 : Int32))) + x6).toNatClampNeg)).bind fun r133 =>
      p_X9_agreeing_89 k18 k69 k76 x1 x2 x3 x4 M nn r133 (x6 + (1 : Int32))
    else
      p_X9_agreeing_89 k18 k69 k76 x1 x2 x3 x4 M nn x5 (x6 + (1 : Int32))
set_option maxRecDepth 20000 in
set_option maxHeartbeats 4000000 in
theorem zc_X9_agreeing_89 {k18 : Int32 → Int32 → zM → Option (Int32 × zM)} {k69 : Int32 → zM → Option (Int32 × zM)} {k76 : Int32 → zM → Option (Int32 × zM)} (x1 : Int32) (x2 : Int32) (x3 : Int32) (x4 : Int32) (M : zM) (hk18 : ∀ (x1 : Int32) (x2 : Int32) (M : zM) (r : Int32 × zM), k18 x1 x2 M = some r → zS Y_X9_agreeing 18 [some (zO 9), some (zI x1), some (zI x2), none, none, none, none] [] M (some r.1, r.2)) (hk69 : ∀ (x3 : Int32) (M : zM) (r : Int32 × zM), k69 x3 M = some r → zS Y_X9_agreeing 69 [some (zO 9), some (zI x1), some (zI x2), some (zI x3), none, none, none] [] M (some r.1, r.2)) (hk76 : ∀ (x4 : Int32) (M : zM) (r : Int32 × zM), k76 x4 M = some r → zS Y_X9_agreeing 76 [some (zO 9), some (zI x1), some (zI x2), some (zI x3), some (zI x4), none, none] [] M (some r.1, r.2)) : ∀ (nn : Nat) (x5 : Int32) (x6 : Int32) (r : Int32 × zM), p_X9_agreeing_89 k18 k69 k76 x1 x2 x3 x4 M nn x5 x6 = some r → zS Y_X9_agreeing 89 [some (zO 9), some (zI x1), some (zI x2), some (zI x3), some (zI x4), some (zI x5), some (zI x6)] [] M (some r.1, r.2) := by
  intro nn
  induction nn with
  | zero => intro x5 x6 r h; cases h
  | succ nn ih =>
  intro x5 x6 r h
  rw [p_X9_agreeing_89] at h
  refine zS_iload dX9_agreeing_89 rfl ?_
  refine zS_bipush (v := (9 : Int32)) dX9_agreeing_91 (by decide) ?_
  refine zS_icmp_ge (tgt := 149) dX9_agreeing_93 (by decide) (fun c93 => ?_) (fun c93 => ?_)
  · rw [if_pos c93] at h
    refine zS_aload_nO dX9_agreeing_149 rfl rfl ?_
    refine gf_9_24 dX9_agreeing_150 zw_382 ?_
    refine zS_bipush (v := (9 : Int32)) dX9_agreeing_153 (by decide) ?_
    refine zS_iload_n dX9_agreeing_155 rfl rfl ?_
    refine zS_imul dX9_agreeing_156 ?_
    refine zS_iload dX9_agreeing_157 rfl ?_
    refine zS_iadd dX9_agreeing_159 ?_
    refine zS_iload dX9_agreeing_160 rfl ?_
    by_cases b162 : ((9 : Int32) * x3) + x4 < 0 ∨ 153 ≤ (((9 : Int32) * x3) + x4).toNatClampNeg
    · rw [if_pos b162] at h; cases h
    rw [if_neg b162] at h
    refine zS_iast b162 dX9_agreeing_162 ?_
    refine zS_iinc (v := x4 + (1 : Int32)) (ls' := [some (zO 9), some (zI x1), some (zI x2), some (zI x3), some (zI (x4 + (1 : Int32))), some (zI x5), some (zI x6)]) dX9_agreeing_163 rfl rfl (by decide) rfl rfl ?_
    refine zS_goto (tgt := 76) dX9_agreeing_166 (by decide) ?_
    exact zS_wk [some (zO 9), some (zI x1), some (zI x2), some (zI x3), some (zI (x4 + (1 : Int32))), none, none] (And.intro rfl (And.intro rfl (And.intro rfl (And.intro rfl (And.intro rfl trivial))))) (hk76 (x4 + (1 : Int32)) (zset M 92 ((((9 : Int32) * x3) + x4).toNatClampNeg) x5) r h)
  · rw [if_neg c93] at h
    refine zS_aload_nO dX9_agreeing_96 rfl rfl ?_
    refine gf_9_23 dX9_agreeing_97 zw_381 ?_
    refine zS_bipush (v := (81 : Int32)) dX9_agreeing_100 (by decide) ?_
    refine zS_iload_n dX9_agreeing_102 rfl rfl ?_
    refine zS_imul dX9_agreeing_103 ?_
    refine zS_bipush (v := (9 : Int32)) dX9_agreeing_104 (by decide) ?_
    refine zS_iload dX9_agreeing_106 rfl ?_
    refine zS_imul dX9_agreeing_108 ?_
    refine zS_iadd dX9_agreeing_109 ?_
    refine zS_iload dX9_agreeing_110 rfl ?_
    refine zS_iadd dX9_agreeing_112 ?_
    by_cases b113 : (((81 : Int32) * x3) + ((9 : Int32) * x4)) + x6 < 0 ∨ 1296 ≤ ((((81 : Int32) * x3) + ((9 : Int32) * x4)) + x6).toNatClampNeg
    · rw [if_pos b113] at h; cases h
    rw [if_neg b113] at h
    refine zS_iald b113 dX9_agreeing_113 ?_
    refine zS_if_ne (tgt := 139) dX9_agreeing_114 (by decide) (fun c114 => ?_) (fun c114 => ?_)
    · rw [if_neg c114] at h
      refine zS_iload dX9_agreeing_139 rfl ?_
      refine zS_istore (ls' := [some (zO 9), some (zI x1), some (zI x2), some (zI x3), some (zI x4), some (zI x5), some (zI x6)]) dX9_agreeing_141 (by decide) rfl rfl ?_
      refine zS_iinc (v := x6 + (1 : Int32)) (ls' := [some (zO 9), some (zI x1), some (zI x2), some (zI x3), some (zI x4), some (zI x5), some (zI (x6 + (1 : Int32)))]) dX9_agreeing_143 rfl rfl (by decide) rfl rfl ?_
      refine zS_goto (tgt := 89) dX9_agreeing_146 (by decide) ?_
      exact zS_wk [some (zO 9), some (zI x1), some (zI x2), some (zI x3), some (zI x4), some (zI x5), some (zI (x6 + (1 : Int32)))] (And.intro rfl (And.intro rfl (And.intro rfl (And.intro rfl (And.intro rfl (And.intro rfl (And.intro rfl trivial))))))) (ih x5 (x6 + (1 : Int32)) r h)
    · rw [if_pos c114] at h
      refine zS_iload dX9_agreeing_117 rfl ?_
      refine zS_aload_nO dX9_agreeing_119 rfl rfl ?_
      refine gf_9_24 dX9_agreeing_120 zw_382 ?_
      refine zS_bipush (v := (9 : Int32)) dX9_agreeing_123 (by decide) ?_
      refine zS_iload_n dX9_agreeing_125 rfl rfl ?_
      refine zS_iconst (v := (1 : Int32)) dX9_agreeing_126 (by decide) ?_
      refine zS_iadd dX9_agreeing_127 ?_
      refine zS_imul dX9_agreeing_128 ?_
      refine zS_iload dX9_agreeing_129 rfl ?_
      refine zS_iadd dX9_agreeing_131 ?_
      by_cases b132 : ((9 : Int32) * (x3 + (1 : Int32))) + x6 < 0 ∨ 153 ≤ (((9 : Int32) * (x3 + (1 : Int32))) + x6).toNatClampNeg
      · rw [if_pos b132] at h; cases h
      rw [if_neg b132] at h
      refine zS_iald b132 dX9_agreeing_132 ?_
      obtain ⟨r133, h133, h⟩ := zbind h
      refine zS_callS (as := [zI x5, zI (M 92 (((9 : Int32) * (x3 + (1 : Int32))) + x6).toNatClampNeg)]) (st := []) (ls0 := [some (zI x5), some (zI (M 92 (((9 : Int32) * (x3 + (1 : Int32))) + x6).toNatClampNeg))]) dX9_agreeing_133 okY_X9_plus rfl rfl zw_349 zw_350 np_X9_plus (by decide) (Nat.le_of_ble_eq_true rfl) rfl (Nat.le_of_ble_eq_true rfl) (And.intro rfl (And.intro rfl trivial)) (zc_X9_plus x5 (M 92 (((9 : Int32) * (x3 + (1 : Int32))) + x6).toNatClampNeg) M h133) ?_
      refine zS_goto (tgt := 141) dX9_agreeing_136 (by decide) ?_
      refine zS_istore (ls' := [some (zO 9), some (zI x1), some (zI x2), some (zI x3), some (zI x4), some (zI r133), some (zI x6)]) dX9_agreeing_141 (by decide) rfl rfl ?_
      refine zS_iinc (v := x6 + (1 : Int32)) (ls' := [some (zO 9), some (zI x1), some (zI x2), some (zI x3), some (zI x4), some (zI r133), some (zI (x6 + (1 : Int32)))]) dX9_agreeing_143 rfl rfl (by decide) rfl rfl ?_
      refine zS_goto (tgt := 89) dX9_agreeing_146 (by decide) ?_
      exact zS_wk [some (zO 9), some (zI x1), some (zI x2), some (zI x3), some (zI x4), some (zI r133), some (zI (x6 + (1 : Int32)))] (And.intro rfl (And.intro rfl (And.intro rfl (And.intro rfl (And.intro rfl (And.intro rfl (And.intro rfl trivial))))))) (ih r133 (x6 + (1 : Int32)) r h)
def p_X9_agreeing_76 (k18 : Int32 → Int32 → zM → Option (Int32 × zM)) (k69 : Int32 → zM → Option (Int32 × zM)) (x1 : Int32) (x2 : Int32) (x3 : Int32) : Nat → Int32 → zM → Option (Int32 × zM)
  | 0, _, _ => none
  | nn + 1, x4, M =>
  if (9 : Int32) ≤ x4 then
    k69 (x3 + (-1 : Int32)) M
  else
    p_X9_agreeing_89 k18 k69 (p_X9_agreeing_76 k18 k69 x1 x2 x3 nn) x1 x2 x3 x4 M 5000 (0 : Int32) (0 : Int32)
set_option maxRecDepth 20000 in
set_option maxHeartbeats 4000000 in
theorem zc_X9_agreeing_76 {k18 : Int32 → Int32 → zM → Option (Int32 × zM)} {k69 : Int32 → zM → Option (Int32 × zM)} (x1 : Int32) (x2 : Int32) (x3 : Int32) (hk18 : ∀ (x1 : Int32) (x2 : Int32) (M : zM) (r : Int32 × zM), k18 x1 x2 M = some r → zS Y_X9_agreeing 18 [some (zO 9), some (zI x1), some (zI x2), none, none, none, none] [] M (some r.1, r.2)) (hk69 : ∀ (x3 : Int32) (M : zM) (r : Int32 × zM), k69 x3 M = some r → zS Y_X9_agreeing 69 [some (zO 9), some (zI x1), some (zI x2), some (zI x3), none, none, none] [] M (some r.1, r.2)) : ∀ (nn : Nat) (x4 : Int32) (M : zM) (r : Int32 × zM), p_X9_agreeing_76 k18 k69 x1 x2 x3 nn x4 M = some r → zS Y_X9_agreeing 76 [some (zO 9), some (zI x1), some (zI x2), some (zI x3), some (zI x4), none, none] [] M (some r.1, r.2) := by
  intro nn
  induction nn with
  | zero => intro x4 M r h; cases h
  | succ nn ih =>
  intro x4 M r h
  rw [p_X9_agreeing_76] at h
  refine zS_iload dX9_agreeing_76 rfl ?_
  refine zS_bipush (v := (9 : Int32)) dX9_agreeing_78 (by decide) ?_
  refine zS_icmp_ge (tgt := 169) dX9_agreeing_80 (by decide) (fun c80 => ?_) (fun c80 => ?_)
  · rw [if_pos c80] at h
    refine zS_iinc (v := x3 + (-1 : Int32)) (ls' := [some (zO 9), some (zI x1), some (zI x2), some (zI (x3 + (-1 : Int32))), some (zI x4), none, none]) dX9_agreeing_169 rfl rfl (by decide) rfl rfl ?_
    refine zS_goto (tgt := 69) dX9_agreeing_172 (by decide) ?_
    exact zS_wk [some (zO 9), some (zI x1), some (zI x2), some (zI (x3 + (-1 : Int32))), none, none, none] (And.intro rfl (And.intro rfl (And.intro rfl (And.intro rfl trivial)))) (hk69 (x3 + (-1 : Int32)) M r h)
  · rw [if_neg c80] at h
    refine zS_iconst (v := (0 : Int32)) dX9_agreeing_83 (by decide) ?_
    refine zS_istore (ls' := [some (zO 9), some (zI x1), some (zI x2), some (zI x3), some (zI x4), some (zI (0 : Int32)), none]) dX9_agreeing_84 (by decide) rfl rfl ?_
    refine zS_iconst (v := (0 : Int32)) dX9_agreeing_86 (by decide) ?_
    refine zS_istore (ls' := [some (zO 9), some (zI x1), some (zI x2), some (zI x3), some (zI x4), some (zI (0 : Int32)), some (zI (0 : Int32))]) dX9_agreeing_87 (by decide) rfl rfl ?_
    exact zS_wk [some (zO 9), some (zI x1), some (zI x2), some (zI x3), some (zI x4), some (zI (0 : Int32)), some (zI (0 : Int32))] (And.intro rfl (And.intro rfl (And.intro rfl (And.intro rfl (And.intro rfl (And.intro rfl (And.intro rfl trivial))))))) (zc_X9_agreeing_89 x1 x2 x3 x4 M hk18 hk69 ih 5000 (0 : Int32) (0 : Int32) r h)
def p_X9_agreeing_69 (k18 : Int32 → Int32 → zM → Option (Int32 × zM)) (x1 : Int32) (x2 : Int32) : Nat → Int32 → zM → Option (Int32 × zM)
  | 0, _, _ => none
  | nn + 1, x3, M =>
  if x3 < 0 then
    if x2 < 0 ∨ 153 ≤ x2.toNatClampNeg then none else
    (p_X9_plus x1 (M 92 x2.toNatClampNeg)).bind fun r182 =>
    k18 r182 (x2 + (1 : Int32)) M
  else
    p_X9_agreeing_76 k18 (p_X9_agreeing_69 k18 x1 x2 nn) x1 x2 x3 5000 (0 : Int32) M
set_option maxRecDepth 20000 in
set_option maxHeartbeats 4000000 in
theorem zc_X9_agreeing_69 {k18 : Int32 → Int32 → zM → Option (Int32 × zM)} (x1 : Int32) (x2 : Int32) (hk18 : ∀ (x1 : Int32) (x2 : Int32) (M : zM) (r : Int32 × zM), k18 x1 x2 M = some r → zS Y_X9_agreeing 18 [some (zO 9), some (zI x1), some (zI x2), none, none, none, none] [] M (some r.1, r.2)) : ∀ (nn : Nat) (x3 : Int32) (M : zM) (r : Int32 × zM), p_X9_agreeing_69 k18 x1 x2 nn x3 M = some r → zS Y_X9_agreeing 69 [some (zO 9), some (zI x1), some (zI x2), some (zI x3), none, none, none] [] M (some r.1, r.2) := by
  intro nn
  induction nn with
  | zero => intro x3 M r h; cases h
  | succ nn ih =>
  intro x3 M r h
  rw [p_X9_agreeing_69] at h
  refine zS_iload_n dX9_agreeing_69 rfl rfl ?_
  refine zS_if_lt (tgt := 175) dX9_agreeing_70 (by decide) (fun c70 => ?_) (fun c70 => ?_)
  · rw [if_pos c70] at h
    refine zS_iload_n dX9_agreeing_175 rfl rfl ?_
    refine zS_aload_nO dX9_agreeing_176 rfl rfl ?_
    refine gf_9_24 dX9_agreeing_177 zw_382 ?_
    refine zS_iload_n dX9_agreeing_180 rfl rfl ?_
    by_cases b181 : x2 < 0 ∨ 153 ≤ x2.toNatClampNeg
    · rw [if_pos b181] at h; cases h
    rw [if_neg b181] at h
    refine zS_iald b181 dX9_agreeing_181 ?_
    obtain ⟨r182, h182, h⟩ := zbind h
    refine zS_callS (as := [zI x1, zI (M 92 x2.toNatClampNeg)]) (st := []) (ls0 := [some (zI x1), some (zI (M 92 x2.toNatClampNeg))]) dX9_agreeing_182 okY_X9_plus rfl rfl zw_349 zw_350 np_X9_plus (by decide) (Nat.le_of_ble_eq_true rfl) rfl (Nat.le_of_ble_eq_true rfl) (And.intro rfl (And.intro rfl trivial)) (zc_X9_plus x1 (M 92 x2.toNatClampNeg) M h182) ?_
    refine zS_istore_n (ls' := [some (zO 9), some (zI r182), some (zI x2), some (zI x3), none, none, none]) dX9_agreeing_185 rfl (by decide) rfl rfl ?_
    refine zS_iinc (v := x2 + (1 : Int32)) (ls' := [some (zO 9), some (zI r182), some (zI (x2 + (1 : Int32))), some (zI x3), none, none, none]) dX9_agreeing_186 rfl rfl (by decide) rfl rfl ?_
    refine zS_goto (tgt := 18) dX9_agreeing_189 (by decide) ?_
    exact zS_wk [some (zO 9), some (zI r182), some (zI (x2 + (1 : Int32))), none, none, none, none] (And.intro rfl (And.intro rfl (And.intro rfl trivial))) (hk18 r182 (x2 + (1 : Int32)) M r h)
  · rw [if_neg c70] at h
    refine zS_iconst (v := (0 : Int32)) dX9_agreeing_73 (by decide) ?_
    refine zS_istore (ls' := [some (zO 9), some (zI x1), some (zI x2), some (zI x3), some (zI (0 : Int32)), none, none]) dX9_agreeing_74 (by decide) rfl rfl ?_
    exact zS_wk [some (zO 9), some (zI x1), some (zI x2), some (zI x3), some (zI (0 : Int32)), none, none] (And.intro rfl (And.intro rfl (And.intro rfl (And.intro rfl (And.intro rfl trivial))))) (zc_X9_agreeing_76 x1 x2 x3 hk18 ih 5000 (0 : Int32) M r h)
def p_X9_agreeing_26 (k18 : Int32 → Int32 → zM → Option (Int32 × zM)) (x1 : Int32) (x2 : Int32) : Nat → Int32 → zM → Option (Int32 × zM)
  | 0, _, _ => none
  | nn + 1, x3, M =>
  if (9 : Int32) ≤ x3 then
    p_X9_agreeing_69 k18 x1 x2 5000 ((M 9 19) - (1 : Int32)) M
  else
    if x3 = x2 then
      if ((9 : Int32) * (M 9 19)) + x3 < 0 ∨ 153 ≤ (((9 : Int32) * (M 9 19)) + x3).toNatClampNeg then none else
      p_X9_agreeing_26 k18 x1 x2 nn (x3 + (1 : Int32)) (zset M 92 ((((9 : Int32) * (M 9 19)) + x3).toNatClampNeg) (1 : Int32))
    else
      if ((9 : Int32) * (M 9 19)) + x3 < 0 ∨ 153 ≤ (((9 : Int32) * (M 9 19)) + x3).toNatClampNeg then none else
      p_X9_agreeing_26 k18 x1 x2 nn (x3 + (1 : Int32)) (zset M 92 ((((9 : Int32) * (M 9 19)) + x3).toNatClampNeg) (0 : Int32))
set_option maxRecDepth 20000 in
set_option maxHeartbeats 4000000 in
theorem zc_X9_agreeing_26 {k18 : Int32 → Int32 → zM → Option (Int32 × zM)} (x1 : Int32) (x2 : Int32) (hk18 : ∀ (x1 : Int32) (x2 : Int32) (M : zM) (r : Int32 × zM), k18 x1 x2 M = some r → zS Y_X9_agreeing 18 [some (zO 9), some (zI x1), some (zI x2), none, none, none, none] [] M (some r.1, r.2)) : ∀ (nn : Nat) (x3 : Int32) (M : zM) (r : Int32 × zM), p_X9_agreeing_26 k18 x1 x2 nn x3 M = some r → zS Y_X9_agreeing 26 [some (zO 9), some (zI x1), some (zI x2), some (zI x3), none, none, none] [] M (some r.1, r.2) := by
  intro nn
  induction nn with
  | zero => intro x3 M r h; cases h
  | succ nn ih =>
  intro x3 M r h
  rw [p_X9_agreeing_26] at h
  refine zS_iload_n dX9_agreeing_26 rfl rfl ?_
  refine zS_bipush (v := (9 : Int32)) dX9_agreeing_27 (by decide) ?_
  refine zS_icmp_ge (tgt := 62) dX9_agreeing_29 (by decide) (fun c29 => ?_) (fun c29 => ?_)
  · rw [if_pos c29] at h
    refine zS_aload_nO dX9_agreeing_62 rfl rfl ?_
    refine gf_9_19 dX9_agreeing_63 zw_373 ?_
    refine zS_iconst (v := (1 : Int32)) dX9_agreeing_66 (by decide) ?_
    refine zS_isub dX9_agreeing_67 ?_
    refine zS_istore_n (ls' := [some (zO 9), some (zI x1), some (zI x2), some (zI ((M 9 19) - (1 : Int32))), none, none, none]) dX9_agreeing_68 rfl (by decide) rfl rfl ?_
    exact zS_wk [some (zO 9), some (zI x1), some (zI x2), some (zI ((M 9 19) - (1 : Int32))), none, none, none] (And.intro rfl (And.intro rfl (And.intro rfl (And.intro rfl trivial)))) (zc_X9_agreeing_69 x1 x2 hk18 5000 ((M 9 19) - (1 : Int32)) M r h)
  · rw [if_neg c29] at h
    refine zS_aload_nO dX9_agreeing_32 rfl rfl ?_
    refine gf_9_24 dX9_agreeing_33 zw_382 ?_
    refine zS_bipush (v := (9 : Int32)) dX9_agreeing_36 (by decide) ?_
    refine zS_aload_nO dX9_agreeing_38 rfl rfl ?_
    refine gf_9_19 dX9_agreeing_39 zw_373 ?_
    refine zS_imul dX9_agreeing_42 ?_
    refine zS_iload_n dX9_agreeing_43 rfl rfl ?_
    refine zS_iadd dX9_agreeing_44 ?_
    refine zS_iload_n dX9_agreeing_45 rfl rfl ?_
    refine zS_iload_n dX9_agreeing_46 rfl rfl ?_
    refine zS_icmp_ne (tgt := 54) dX9_agreeing_47 (by decide) (fun c47 => ?_) (fun c47 => ?_)
    · rw [if_neg c47] at h
      refine zS_iconst (v := (0 : Int32)) dX9_agreeing_54 (by decide) ?_
      by_cases b55 : ((9 : Int32) * (M 9 19)) + x3 < 0 ∨ 153 ≤ (((9 : Int32) * (M 9 19)) + x3).toNatClampNeg
      · rw [if_pos b55] at h; cases h
      rw [if_neg b55] at h
      refine zS_iast b55 dX9_agreeing_55 ?_
      refine zS_iinc (v := x3 + (1 : Int32)) (ls' := [some (zO 9), some (zI x1), some (zI x2), some (zI (x3 + (1 : Int32))), none, none, none]) dX9_agreeing_56 rfl rfl (by decide) rfl rfl ?_
      refine zS_goto (tgt := 26) dX9_agreeing_59 (by decide) ?_
      exact zS_wk [some (zO 9), some (zI x1), some (zI x2), some (zI (x3 + (1 : Int32))), none, none, none] (And.intro rfl (And.intro rfl (And.intro rfl (And.intro rfl trivial)))) (ih (x3 + (1 : Int32)) (zset M 92 ((((9 : Int32) * (M 9 19)) + x3).toNatClampNeg) (0 : Int32)) r h)
    · rw [if_pos c47] at h
      refine zS_iconst (v := (1 : Int32)) dX9_agreeing_50 (by decide) ?_
      refine zS_goto (tgt := 55) dX9_agreeing_51 (by decide) ?_
      by_cases b55 : ((9 : Int32) * (M 9 19)) + x3 < 0 ∨ 153 ≤ (((9 : Int32) * (M 9 19)) + x3).toNatClampNeg
      · rw [if_pos b55] at h; cases h
      rw [if_neg b55] at h
      refine zS_iast b55 dX9_agreeing_55 ?_
      refine zS_iinc (v := x3 + (1 : Int32)) (ls' := [some (zO 9), some (zI x1), some (zI x2), some (zI (x3 + (1 : Int32))), none, none, none]) dX9_agreeing_56 rfl rfl (by decide) rfl rfl ?_
      refine zS_goto (tgt := 26) dX9_agreeing_59 (by decide) ?_
      exact zS_wk [some (zO 9), some (zI x1), some (zI x2), some (zI (x3 + (1 : Int32))), none, none, none] (And.intro rfl (And.intro rfl (And.intro rfl (And.intro rfl trivial)))) (ih (x3 + (1 : Int32)) (zset M 92 ((((9 : Int32) * (M 9 19)) + x3).toNatClampNeg) (1 : Int32)) r h)
def p_X9_agreeing_18 : Nat → Int32 → Int32 → zM → Option (Int32 × zM)
  | 0, _, _, _ => none
  | nn + 1, x1, x2, M =>
  if (9 : Int32) ≤ x2 then
    some (x1, M)
  else
    p_X9_agreeing_26 (p_X9_agreeing_18 nn) x1 x2 5000 (0 : Int32) M
set_option maxRecDepth 20000 in
set_option maxHeartbeats 4000000 in
theorem zc_X9_agreeing_18 : ∀ (nn : Nat) (x1 : Int32) (x2 : Int32) (M : zM) (r : Int32 × zM), p_X9_agreeing_18 nn x1 x2 M = some r → zS Y_X9_agreeing 18 [some (zO 9), some (zI x1), some (zI x2), none, none, none, none] [] M (some r.1, r.2) := by
  intro nn
  induction nn with
  | zero => intro x1 x2 M r h; cases h
  | succ nn ih =>
  intro x1 x2 M r h
  rw [p_X9_agreeing_18] at h
  refine zS_iload_n dX9_agreeing_18 rfl rfl ?_
  refine zS_bipush (v := (9 : Int32)) dX9_agreeing_19 (by decide) ?_
  refine zS_icmp_ge (tgt := 192) dX9_agreeing_21 (by decide) (fun c21 => ?_) (fun c21 => ?_)
  · rw [if_pos c21] at h
    refine zS_iload_n dX9_agreeing_192 rfl rfl ?_
    cases h
    exact zS_ireturn dX9_agreeing_193 rfl rfl
  · rw [if_neg c21] at h
    refine zS_iconst (v := (0 : Int32)) dX9_agreeing_24 (by decide) ?_
    refine zS_istore_n (ls' := [some (zO 9), some (zI x1), some (zI x2), some (zI (0 : Int32)), none, none, none]) dX9_agreeing_25 rfl (by decide) rfl rfl ?_
    exact zS_wk [some (zO 9), some (zI x1), some (zI x2), some (zI (0 : Int32)), none, none, none] (And.intro rfl (And.intro rfl (And.intro rfl (And.intro rfl trivial)))) (zc_X9_agreeing_26 x1 x2 ih 5000 (0 : Int32) M r h)
def p_X9_agreeing (M : zM) : Option (Int32 × zM) :=
  if (M 9 18) = 0 then
    some ((-4 : Int32), M)
  else
    (p_X9_findOff M).bind fun M11 =>
    p_X9_agreeing_18 5000 (0 : Int32) (0 : Int32) M11
set_option maxRecDepth 20000 in
set_option maxHeartbeats 4000000 in
theorem zc_X9_agreeing (M : zM) {r : Int32 × zM} (h : p_X9_agreeing M = some r) : zS Y_X9_agreeing 0 [some (zO 9), none, none, none, none, none, none] [] M (some r.1, r.2) := by
  rw [p_X9_agreeing] at h
  refine zS_aload_nO dX9_agreeing_0 rfl rfl ?_
  refine gf_9_18 dX9_agreeing_1 zw_358 ?_
  refine zS_if_ne (tgt := 10) dX9_agreeing_4 (by decide) (fun c4 => ?_) (fun c4 => ?_)
  · rw [if_neg c4] at h
    refine zS_aload_nO dX9_agreeing_10 rfl rfl ?_
    obtain ⟨M11, h11, h⟩ := zbind h
    refine zS_callVv (as := []) (st := []) (ls0 := [some (zO 9), none, none, none, none, none, none]) dX9_agreeing_11 okY_X9_findOff rfl rfl lay_9 rfl zw_383 zw_384 zw_385 np_X9_findOff (by decide) (Nat.le_of_ble_eq_true rfl) rfl (Nat.le_of_ble_eq_true rfl) (And.intro rfl trivial) (zc_X9_findOff M h11) ?_
    refine zS_iconst (v := (0 : Int32)) dX9_agreeing_14 (by decide) ?_
    refine zS_istore_n (ls' := [some (zO 9), some (zI (0 : Int32)), none, none, none, none, none]) dX9_agreeing_15 rfl (by decide) rfl rfl ?_
    refine zS_iconst (v := (0 : Int32)) dX9_agreeing_16 (by decide) ?_
    refine zS_istore_n (ls' := [some (zO 9), some (zI (0 : Int32)), some (zI (0 : Int32)), none, none, none, none]) dX9_agreeing_17 rfl (by decide) rfl rfl ?_
    exact zS_wk [some (zO 9), some (zI (0 : Int32)), some (zI (0 : Int32)), none, none, none, none] (And.intro rfl (And.intro rfl (And.intro rfl trivial))) (zc_X9_agreeing_18 5000 (0 : Int32) (0 : Int32) M11 r h)
  · rw [if_pos c4] at h
    refine zS_bipush (v := (-4 : Int32)) dX9_agreeing_7 (by decide) ?_
    cases h
    exact zS_ireturn dX9_agreeing_9 rfl rfl
def p_X9_findTable_66 (k47 : Int32 → zM → Option (Int32 × zM)) (k53 : Int32 → zM → Option (Int32 × zM)) (x1 : Int32) (x2 : Int32) (x3 : Int32) (M : zM) : Nat → Int32 → Int32 → Option (Int32 × zM)
  | 0, _, _ => none
  | nn + 1, x4, x5 =>
  if (9 : Int32) ≤ x5 then
    if ((9 : Int32) * x2) + x3 < 0 ∨ 153 ≤ (((9 : Int32) * x2) + x3).toNatClampNeg then none else
    k53 (x3 + (1 : Int32)) (zset M 92 ((((9 : Int32) * x2) + x3).toNatClampNeg) x4)
  else
    if (((81 : Int32) * x2) + ((9 : Int32) * x3)) + x5 < 0 ∨ 1296 ≤ ((((81 : Int32) * x2) + ((9 : Int32) * x3)) + x5).toNatClampNeg then none else
    if ((9 : Int32) * (x2 + (1 : Int32))) + x5 < 0 ∨ 153 ≤ (((9 : Int32) * (x2 + (1 : Int32))) + x5).toNatClampNeg then none else
    if x4 ≤ ((M 91 ((((81 : Int32) * x2) + ((9 : Int32) * x3)) + x5).toNatClampNeg) + (M 92 (((9 : Int32) * (x2 + (1 : Int32))) + x5).toNatClampNeg)) then
      p_X9_findTable_66 k47 k53 x1 x2 x3 M nn x4 (x5 + (1 : Int32))
    else
      p_X9_findTable_66 k47 k53 x1 x2 x3 M nn ((M 91 ((((81 : Int32) * x2) + ((9 : Int32) * x3)) + x5).toNatClampNeg) + (M 92 (((9 : Int32) * (x2 + (1 : Int32))) + x5).toNatClampNeg)) (x5 + (1 : Int32))
set_option maxRecDepth 20000 in
set_option maxHeartbeats 4000000 in
theorem zc_X9_findTable_66 {k47 : Int32 → zM → Option (Int32 × zM)} {k53 : Int32 → zM → Option (Int32 × zM)} (x1 : Int32) (x2 : Int32) (x3 : Int32) (M : zM) (hk47 : ∀ (x2 : Int32) (M : zM) (r : Int32 × zM), k47 x2 M = some r → zS Y_X9_findTable 47 [some (zO 9), some (zI x1), some (zI x2), none, none, none, none] [] M (some r.1, r.2)) (hk53 : ∀ (x3 : Int32) (M : zM) (r : Int32 × zM), k53 x3 M = some r → zS Y_X9_findTable 53 [some (zO 9), some (zI x1), some (zI x2), some (zI x3), none, none, none] [] M (some r.1, r.2)) : ∀ (nn : Nat) (x4 : Int32) (x5 : Int32) (r : Int32 × zM), p_X9_findTable_66 k47 k53 x1 x2 x3 M nn x4 x5 = some r → zS Y_X9_findTable 66 [some (zO 9), some (zI x1), some (zI x2), some (zI x3), some (zI x4), some (zI x5), none] [] M (some r.1, r.2) := by
  intro nn
  induction nn with
  | zero => intro x4 x5 r h; cases h
  | succ nn ih =>
  intro x4 x5 r h
  rw [p_X9_findTable_66] at h
  refine zS_iload dX9_findTable_66 rfl ?_
  refine zS_bipush (v := (9 : Int32)) dX9_findTable_68 (by decide) ?_
  refine zS_icmp_ge (tgt := 129) dX9_findTable_70 (by decide) (fun c70 => ?_) (fun c70 => ?_)
  · rw [if_pos c70] at h
    refine zS_aload_nO dX9_findTable_129 rfl rfl ?_
    refine gf_9_24 dX9_findTable_130 zw_382 ?_
    refine zS_bipush (v := (9 : Int32)) dX9_findTable_133 (by decide) ?_
    refine zS_iload_n dX9_findTable_135 rfl rfl ?_
    refine zS_imul dX9_findTable_136 ?_
    refine zS_iload_n dX9_findTable_137 rfl rfl ?_
    refine zS_iadd dX9_findTable_138 ?_
    refine zS_iload dX9_findTable_139 rfl ?_
    by_cases b141 : ((9 : Int32) * x2) + x3 < 0 ∨ 153 ≤ (((9 : Int32) * x2) + x3).toNatClampNeg
    · rw [if_pos b141] at h; cases h
    rw [if_neg b141] at h
    refine zS_iast b141 dX9_findTable_141 ?_
    refine zS_iinc (v := x3 + (1 : Int32)) (ls' := [some (zO 9), some (zI x1), some (zI x2), some (zI (x3 + (1 : Int32))), some (zI x4), some (zI x5), none]) dX9_findTable_142 rfl rfl (by decide) rfl rfl ?_
    refine zS_goto (tgt := 53) dX9_findTable_145 (by decide) ?_
    exact zS_wk [some (zO 9), some (zI x1), some (zI x2), some (zI (x3 + (1 : Int32))), none, none, none] (And.intro rfl (And.intro rfl (And.intro rfl (And.intro rfl trivial)))) (hk53 (x3 + (1 : Int32)) (zset M 92 ((((9 : Int32) * x2) + x3).toNatClampNeg) x4) r h)
  · rw [if_neg c70] at h
    refine zS_aload_nO dX9_findTable_73 rfl rfl ?_
    refine gf_9_23 dX9_findTable_74 zw_381 ?_
    refine zS_bipush (v := (81 : Int32)) dX9_findTable_77 (by decide) ?_
    refine zS_iload_n dX9_findTable_79 rfl rfl ?_
    refine zS_imul dX9_findTable_80 ?_
    refine zS_bipush (v := (9 : Int32)) dX9_findTable_81 (by decide) ?_
    refine zS_iload_n dX9_findTable_83 rfl rfl ?_
    refine zS_imul dX9_findTable_84 ?_
    refine zS_iadd dX9_findTable_85 ?_
    refine zS_iload dX9_findTable_86 rfl ?_
    refine zS_iadd dX9_findTable_88 ?_
    by_cases b89 : (((81 : Int32) * x2) + ((9 : Int32) * x3)) + x5 < 0 ∨ 1296 ≤ ((((81 : Int32) * x2) + ((9 : Int32) * x3)) + x5).toNatClampNeg
    · rw [if_pos b89] at h; cases h
    rw [if_neg b89] at h
    refine zS_iald b89 dX9_findTable_89 ?_
    refine zS_aload_nO dX9_findTable_90 rfl rfl ?_
    refine gf_9_24 dX9_findTable_91 zw_382 ?_
    refine zS_bipush (v := (9 : Int32)) dX9_findTable_94 (by decide) ?_
    refine zS_iload_n dX9_findTable_96 rfl rfl ?_
    refine zS_iconst (v := (1 : Int32)) dX9_findTable_97 (by decide) ?_
    refine zS_iadd dX9_findTable_98 ?_
    refine zS_imul dX9_findTable_99 ?_
    refine zS_iload dX9_findTable_100 rfl ?_
    refine zS_iadd dX9_findTable_102 ?_
    by_cases b103 : ((9 : Int32) * (x2 + (1 : Int32))) + x5 < 0 ∨ 153 ≤ (((9 : Int32) * (x2 + (1 : Int32))) + x5).toNatClampNeg
    · rw [if_pos b103] at h; cases h
    rw [if_neg b103] at h
    refine zS_iald b103 dX9_findTable_103 ?_
    refine zS_iadd dX9_findTable_104 ?_
    refine zS_istore (ls' := [some (zO 9), some (zI x1), some (zI x2), some (zI x3), some (zI x4), some (zI x5), some (zI ((M 91 ((((81 : Int32) * x2) + ((9 : Int32) * x3)) + x5).toNatClampNeg) + (M 92 (((9 : Int32) * (x2 + (1 : Int32))) + x5).toNatClampNeg)))]) dX9_findTable_105 (by decide) rfl rfl ?_
    refine zS_iload dX9_findTable_107 rfl ?_
    refine zS_iload dX9_findTable_109 rfl ?_
    refine zS_icmp_ge (tgt := 119) dX9_findTable_111 (by decide) (fun c111 => ?_) (fun c111 => ?_)
    · rw [if_pos c111] at h
      refine zS_iload dX9_findTable_119 rfl ?_
      refine zS_istore (ls' := [some (zO 9), some (zI x1), some (zI x2), some (zI x3), some (zI x4), some (zI x5), some (zI ((M 91 ((((81 : Int32) * x2) + ((9 : Int32) * x3)) + x5).toNatClampNeg) + (M 92 (((9 : Int32) * (x2 + (1 : Int32))) + x5).toNatClampNeg)))]) dX9_findTable_121 (by decide) rfl rfl ?_
      refine zS_iinc (v := x5 + (1 : Int32)) (ls' := [some (zO 9), some (zI x1), some (zI x2), some (zI x3), some (zI x4), some (zI (x5 + (1 : Int32))), some (zI ((M 91 ((((81 : Int32) * x2) + ((9 : Int32) * x3)) + x5).toNatClampNeg) + (M 92 (((9 : Int32) * (x2 + (1 : Int32))) + x5).toNatClampNeg)))]) dX9_findTable_123 rfl rfl (by decide) rfl rfl ?_
      refine zS_goto (tgt := 66) dX9_findTable_126 (by decide) ?_
      exact zS_wk [some (zO 9), some (zI x1), some (zI x2), some (zI x3), some (zI x4), some (zI (x5 + (1 : Int32))), none] (And.intro rfl (And.intro rfl (And.intro rfl (And.intro rfl (And.intro rfl (And.intro rfl trivial)))))) (ih x4 (x5 + (1 : Int32)) r h)
    · rw [if_neg c111] at h
      refine zS_iload dX9_findTable_114 rfl ?_
      refine zS_goto (tgt := 121) dX9_findTable_116 (by decide) ?_
      refine zS_istore (ls' := [some (zO 9), some (zI x1), some (zI x2), some (zI x3), some (zI ((M 91 ((((81 : Int32) * x2) + ((9 : Int32) * x3)) + x5).toNatClampNeg) + (M 92 (((9 : Int32) * (x2 + (1 : Int32))) + x5).toNatClampNeg))), some (zI x5), some (zI ((M 91 ((((81 : Int32) * x2) + ((9 : Int32) * x3)) + x5).toNatClampNeg) + (M 92 (((9 : Int32) * (x2 + (1 : Int32))) + x5).toNatClampNeg)))]) dX9_findTable_121 (by decide) rfl rfl ?_
      refine zS_iinc (v := x5 + (1 : Int32)) (ls' := [some (zO 9), some (zI x1), some (zI x2), some (zI x3), some (zI ((M 91 ((((81 : Int32) * x2) + ((9 : Int32) * x3)) + x5).toNatClampNeg) + (M 92 (((9 : Int32) * (x2 + (1 : Int32))) + x5).toNatClampNeg))), some (zI (x5 + (1 : Int32))), some (zI ((M 91 ((((81 : Int32) * x2) + ((9 : Int32) * x3)) + x5).toNatClampNeg) + (M 92 (((9 : Int32) * (x2 + (1 : Int32))) + x5).toNatClampNeg)))]) dX9_findTable_123 rfl rfl (by decide) rfl rfl ?_
      refine zS_goto (tgt := 66) dX9_findTable_126 (by decide) ?_
      exact zS_wk [some (zO 9), some (zI x1), some (zI x2), some (zI x3), some (zI ((M 91 ((((81 : Int32) * x2) + ((9 : Int32) * x3)) + x5).toNatClampNeg) + (M 92 (((9 : Int32) * (x2 + (1 : Int32))) + x5).toNatClampNeg))), some (zI (x5 + (1 : Int32))), none] (And.intro rfl (And.intro rfl (And.intro rfl (And.intro rfl (And.intro rfl (And.intro rfl trivial)))))) (ih ((M 91 ((((81 : Int32) * x2) + ((9 : Int32) * x3)) + x5).toNatClampNeg) + (M 92 (((9 : Int32) * (x2 + (1 : Int32))) + x5).toNatClampNeg)) (x5 + (1 : Int32)) r h)
def p_X9_findTable_53 (k47 : Int32 → zM → Option (Int32 × zM)) (x1 : Int32) (x2 : Int32) : Nat → Int32 → zM → Option (Int32 × zM)
  | 0, _, _ => none
  | nn + 1, x3, M =>
  if (9 : Int32) ≤ x3 then
    k47 (x2 + (-1 : Int32)) M
  else
    p_X9_findTable_66 k47 (p_X9_findTable_53 k47 x1 x2 nn) x1 x2 x3 M 5000 (100000 : Int32) (0 : Int32)
set_option maxRecDepth 20000 in
set_option maxHeartbeats 4000000 in
theorem zc_X9_findTable_53 {k47 : Int32 → zM → Option (Int32 × zM)} (x1 : Int32) (x2 : Int32) (hk47 : ∀ (x2 : Int32) (M : zM) (r : Int32 × zM), k47 x2 M = some r → zS Y_X9_findTable 47 [some (zO 9), some (zI x1), some (zI x2), none, none, none, none] [] M (some r.1, r.2)) : ∀ (nn : Nat) (x3 : Int32) (M : zM) (r : Int32 × zM), p_X9_findTable_53 k47 x1 x2 nn x3 M = some r → zS Y_X9_findTable 53 [some (zO 9), some (zI x1), some (zI x2), some (zI x3), none, none, none] [] M (some r.1, r.2) := by
  intro nn
  induction nn with
  | zero => intro x3 M r h; cases h
  | succ nn ih =>
  intro x3 M r h
  rw [p_X9_findTable_53] at h
  refine zS_iload_n dX9_findTable_53 rfl rfl ?_
  refine zS_bipush (v := (9 : Int32)) dX9_findTable_54 (by decide) ?_
  refine zS_icmp_ge (tgt := 148) dX9_findTable_56 (by decide) (fun c56 => ?_) (fun c56 => ?_)
  · rw [if_pos c56] at h
    refine zS_iinc (v := x2 + (-1 : Int32)) (ls' := [some (zO 9), some (zI x1), some (zI (x2 + (-1 : Int32))), some (zI x3), none, none, none]) dX9_findTable_148 rfl rfl (by decide) rfl rfl ?_
    refine zS_goto (tgt := 47) dX9_findTable_151 (by decide) ?_
    exact zS_wk [some (zO 9), some (zI x1), some (zI (x2 + (-1 : Int32))), none, none, none, none] (And.intro rfl (And.intro rfl (And.intro rfl trivial))) (hk47 (x2 + (-1 : Int32)) M r h)
  · rw [if_neg c56] at h
    refine zS_ldc (v := (100000 : Int32)) dX9_findTable_59 zw_386 ?_
    refine zS_istore (ls' := [some (zO 9), some (zI x1), some (zI x2), some (zI x3), some (zI (100000 : Int32)), none, none]) dX9_findTable_61 (by decide) rfl rfl ?_
    refine zS_iconst (v := (0 : Int32)) dX9_findTable_63 (by decide) ?_
    refine zS_istore (ls' := [some (zO 9), some (zI x1), some (zI x2), some (zI x3), some (zI (100000 : Int32)), some (zI (0 : Int32)), none]) dX9_findTable_64 (by decide) rfl rfl ?_
    exact zS_wk [some (zO 9), some (zI x1), some (zI x2), some (zI x3), some (zI (100000 : Int32)), some (zI (0 : Int32)), none] (And.intro rfl (And.intro rfl (And.intro rfl (And.intro rfl (And.intro rfl (And.intro rfl trivial)))))) (zc_X9_findTable_66 x1 x2 x3 M hk47 ih 5000 (100000 : Int32) (0 : Int32) r h)
def p_X9_findTable_47 (x1 : Int32) : Nat → Int32 → zM → Option (Int32 × zM)
  | 0, _, _ => none
  | nn + 1, x2, M =>
  if x2 < 0 then
    if x1 < 0 ∨ 153 ≤ x1.toNatClampNeg then none else
    some (M 92 x1.toNatClampNeg, M)
  else
    p_X9_findTable_53 (p_X9_findTable_47 x1 nn) x1 x2 5000 (0 : Int32) M
set_option maxRecDepth 20000 in
set_option maxHeartbeats 4000000 in
theorem zc_X9_findTable_47 (x1 : Int32) : ∀ (nn : Nat) (x2 : Int32) (M : zM) (r : Int32 × zM), p_X9_findTable_47 x1 nn x2 M = some r → zS Y_X9_findTable 47 [some (zO 9), some (zI x1), some (zI x2), none, none, none, none] [] M (some r.1, r.2) := by
  intro nn
  induction nn with
  | zero => intro x2 M r h; cases h
  | succ nn ih =>
  intro x2 M r h
  rw [p_X9_findTable_47] at h
  refine zS_iload_n dX9_findTable_47 rfl rfl ?_
  refine zS_if_lt (tgt := 154) dX9_findTable_48 (by decide) (fun c48 => ?_) (fun c48 => ?_)
  · rw [if_pos c48] at h
    refine zS_aload_nO dX9_findTable_154 rfl rfl ?_
    refine gf_9_24 dX9_findTable_155 zw_382 ?_
    refine zS_iload_n dX9_findTable_158 rfl rfl ?_
    by_cases b159 : x1 < 0 ∨ 153 ≤ x1.toNatClampNeg
    · rw [if_pos b159] at h; cases h
    rw [if_neg b159] at h
    refine zS_iald b159 dX9_findTable_159 ?_
    cases h
    exact zS_ireturn dX9_findTable_160 rfl rfl
  · rw [if_neg c48] at h
    refine zS_iconst (v := (0 : Int32)) dX9_findTable_51 (by decide) ?_
    refine zS_istore_n (ls' := [some (zO 9), some (zI x1), some (zI x2), some (zI (0 : Int32)), none, none, none]) dX9_findTable_52 rfl (by decide) rfl rfl ?_
    exact zS_wk [some (zO 9), some (zI x1), some (zI x2), some (zI (0 : Int32)), none, none, none] (And.intro rfl (And.intro rfl (And.intro rfl (And.intro rfl trivial)))) (zc_X9_findTable_53 x1 x2 ih 5000 (0 : Int32) M r h)
def p_X9_findTable_2 (x1 : Int32) : Nat → Int32 → zM → Option (Int32 × zM)
  | 0, _, _ => none
  | nn + 1, x2, M =>
  if (9 : Int32) ≤ x2 then
    p_X9_findTable_47 x1 5000 ((M 9 19) - (1 : Int32)) M
  else
    if x2 = x1 then
      if ((9 : Int32) * (M 9 19)) + x2 < 0 ∨ 153 ≤ (((9 : Int32) * (M 9 19)) + x2).toNatClampNeg then none else
      p_X9_findTable_2 x1 nn (x2 + (1 : Int32)) (zset M 92 ((((9 : Int32) * (M 9 19)) + x2).toNatClampNeg) (0 : Int32))
    else
      if ((9 : Int32) * (M 9 19)) + x2 < 0 ∨ 153 ≤ (((9 : Int32) * (M 9 19)) + x2).toNatClampNeg then none else
      p_X9_findTable_2 x1 nn (x2 + (1 : Int32)) (zset M 92 ((((9 : Int32) * (M 9 19)) + x2).toNatClampNeg) (10000 : Int32))
set_option maxRecDepth 20000 in
set_option maxHeartbeats 4000000 in
theorem zc_X9_findTable_2 (x1 : Int32) : ∀ (nn : Nat) (x2 : Int32) (M : zM) (r : Int32 × zM), p_X9_findTable_2 x1 nn x2 M = some r → zS Y_X9_findTable 2 [some (zO 9), some (zI x1), some (zI x2), none, none, none, none] [] M (some r.1, r.2) := by
  intro nn
  induction nn with
  | zero => intro x2 M r h; cases h
  | succ nn ih =>
  intro x2 M r h
  rw [p_X9_findTable_2] at h
  refine zS_iload_n dX9_findTable_2 rfl rfl ?_
  refine zS_bipush (v := (9 : Int32)) dX9_findTable_3 (by decide) ?_
  refine zS_icmp_ge (tgt := 40) dX9_findTable_5 (by decide) (fun c5 => ?_) (fun c5 => ?_)
  · rw [if_pos c5] at h
    refine zS_aload_nO dX9_findTable_40 rfl rfl ?_
    refine gf_9_19 dX9_findTable_41 zw_373 ?_
    refine zS_iconst (v := (1 : Int32)) dX9_findTable_44 (by decide) ?_
    refine zS_isub dX9_findTable_45 ?_
    refine zS_istore_n (ls' := [some (zO 9), some (zI x1), some (zI ((M 9 19) - (1 : Int32))), none, none, none, none]) dX9_findTable_46 rfl (by decide) rfl rfl ?_
    exact zS_wk [some (zO 9), some (zI x1), some (zI ((M 9 19) - (1 : Int32))), none, none, none, none] (And.intro rfl (And.intro rfl (And.intro rfl trivial))) (zc_X9_findTable_47 x1 5000 ((M 9 19) - (1 : Int32)) M r h)
  · rw [if_neg c5] at h
    refine zS_aload_nO dX9_findTable_8 rfl rfl ?_
    refine gf_9_24 dX9_findTable_9 zw_382 ?_
    refine zS_bipush (v := (9 : Int32)) dX9_findTable_12 (by decide) ?_
    refine zS_aload_nO dX9_findTable_14 rfl rfl ?_
    refine gf_9_19 dX9_findTable_15 zw_373 ?_
    refine zS_imul dX9_findTable_18 ?_
    refine zS_iload_n dX9_findTable_19 rfl rfl ?_
    refine zS_iadd dX9_findTable_20 ?_
    refine zS_iload_n dX9_findTable_21 rfl rfl ?_
    refine zS_iload_n dX9_findTable_22 rfl rfl ?_
    refine zS_icmp_ne (tgt := 30) dX9_findTable_23 (by decide) (fun c23 => ?_) (fun c23 => ?_)
    · rw [if_neg c23] at h
      refine zS_sipush (v := (10000 : Int32)) dX9_findTable_30 (by decide) ?_
      by_cases b33 : ((9 : Int32) * (M 9 19)) + x2 < 0 ∨ 153 ≤ (((9 : Int32) * (M 9 19)) + x2).toNatClampNeg
      · rw [if_pos b33] at h; cases h
      rw [if_neg b33] at h
      refine zS_iast b33 dX9_findTable_33 ?_
      refine zS_iinc (v := x2 + (1 : Int32)) (ls' := [some (zO 9), some (zI x1), some (zI (x2 + (1 : Int32))), none, none, none, none]) dX9_findTable_34 rfl rfl (by decide) rfl rfl ?_
      refine zS_goto (tgt := 2) dX9_findTable_37 (by decide) ?_
      exact zS_wk [some (zO 9), some (zI x1), some (zI (x2 + (1 : Int32))), none, none, none, none] (And.intro rfl (And.intro rfl (And.intro rfl trivial))) (ih (x2 + (1 : Int32)) (zset M 92 ((((9 : Int32) * (M 9 19)) + x2).toNatClampNeg) (10000 : Int32)) r h)
    · rw [if_pos c23] at h
      refine zS_iconst (v := (0 : Int32)) dX9_findTable_26 (by decide) ?_
      refine zS_goto (tgt := 33) dX9_findTable_27 (by decide) ?_
      by_cases b33 : ((9 : Int32) * (M 9 19)) + x2 < 0 ∨ 153 ≤ (((9 : Int32) * (M 9 19)) + x2).toNatClampNeg
      · rw [if_pos b33] at h; cases h
      rw [if_neg b33] at h
      refine zS_iast b33 dX9_findTable_33 ?_
      refine zS_iinc (v := x2 + (1 : Int32)) (ls' := [some (zO 9), some (zI x1), some (zI (x2 + (1 : Int32))), none, none, none, none]) dX9_findTable_34 rfl rfl (by decide) rfl rfl ?_
      refine zS_goto (tgt := 2) dX9_findTable_37 (by decide) ?_
      exact zS_wk [some (zO 9), some (zI x1), some (zI (x2 + (1 : Int32))), none, none, none, none] (And.intro rfl (And.intro rfl (And.intro rfl trivial))) (ih (x2 + (1 : Int32)) (zset M 92 ((((9 : Int32) * (M 9 19)) + x2).toNatClampNeg) (0 : Int32)) r h)
def p_X9_findTable (x1 : Int32) (M : zM) : Option (Int32 × zM) :=
  p_X9_findTable_2 x1 5000 (0 : Int32) M
set_option maxRecDepth 20000 in
set_option maxHeartbeats 4000000 in
theorem zc_X9_findTable (x1 : Int32) (M : zM) {r : Int32 × zM} (h : p_X9_findTable x1 M = some r) : zS Y_X9_findTable 0 [some (zO 9), some (zI x1), none, none, none, none, none] [] M (some r.1, r.2) := by
  rw [p_X9_findTable] at h
  refine zS_iconst (v := (0 : Int32)) dX9_findTable_0 (by decide) ?_
  refine zS_istore_n (ls' := [some (zO 9), some (zI x1), some (zI (0 : Int32)), none, none, none, none]) dX9_findTable_1 rfl (by decide) rfl rfl ?_
  exact zS_wk [some (zO 9), some (zI x1), some (zI (0 : Int32)), none, none, none, none] (And.intro rfl (And.intro rfl (And.intro rfl trivial))) (zc_X9_findTable_2 x1 5000 (0 : Int32) M r h)
def p_X9_findBest_83 (k70 : Int32 → zM → Option (zM)) (x3 : Int32) (M : zM) : Nat → Int32 → Option (zM)
  | 0, _ => none
  | nn + 1, x4 =>
  if x3 < 0 ∨ 16 ≤ x3.toNatClampNeg then none else
  if (((81 : Int32) * x3) + ((9 : Int32) * (M 93 x3.toNatClampNeg))) + x4 < 0 ∨ 1296 ≤ ((((81 : Int32) * x3) + ((9 : Int32) * (M 93 x3.toNatClampNeg))) + x4).toNatClampNeg then none else
  if ((9 : Int32) * (x3 + (1 : Int32))) + x4 < 0 ∨ 153 ≤ (((9 : Int32) * (x3 + (1 : Int32))) + x4).toNatClampNeg then none else
  if x3 < 0 ∨ 16 ≤ x3.toNatClampNeg then none else
  if ((9 : Int32) * x3) + (M 93 x3.toNatClampNeg) < 0 ∨ 153 ≤ (((9 : Int32) * x3) + (M 93 x3.toNatClampNeg)).toNatClampNeg then none else
  if ((M 91 ((((81 : Int32) * x3) + ((9 : Int32) * (M 93 x3.toNatClampNeg))) + x4).toNatClampNeg) + (M 92 (((9 : Int32) * (x3 + (1 : Int32))) + x4).toNatClampNeg)) = (M 92 (((9 : Int32) * x3) + (M 93 x3.toNatClampNeg)).toNatClampNeg) then
    if x3 + (1 : Int32) < 0 ∨ 16 ≤ (x3 + (1 : Int32)).toNatClampNeg then none else
    k70 (x3 + (1 : Int32)) (zset M 93 ((x3 + (1 : Int32)).toNatClampNeg) x4)
  else
    p_X9_findBest_83 k70 x3 M nn (x4 + (1 : Int32))
set_option maxRecDepth 20000 in
set_option maxHeartbeats 4000000 in
theorem zc_X9_findBest_83 {k70 : Int32 → zM → Option (zM)} (x3 : Int32) (M : zM) (hk70 : ∀ (x3 : Int32) (M : zM) (r : zM), k70 x3 M = some r → zS Y_X9_findBest 70 [some (zO 9), none, none, some (zI x3), none] [] M (none, r)) : ∀ (nn : Nat) (x4 : Int32) (r : zM), p_X9_findBest_83 k70 x3 M nn x4 = some r → zS Y_X9_findBest 83 [some (zO 9), none, none, some (zI x3), some (zI x4)] [] M (none, r) := by
  intro nn
  induction nn with
  | zero => intro x4 r h; cases h
  | succ nn ih =>
  intro x4 r h
  rw [p_X9_findBest_83] at h
  refine zS_aload_nO dX9_findBest_83 rfl rfl ?_
  refine gf_9_23 dX9_findBest_84 zw_381 ?_
  refine zS_bipush (v := (81 : Int32)) dX9_findBest_87 (by decide) ?_
  refine zS_iload_n dX9_findBest_89 rfl rfl ?_
  refine zS_imul dX9_findBest_90 ?_
  refine zS_bipush (v := (9 : Int32)) dX9_findBest_91 (by decide) ?_
  refine zS_aload_nO dX9_findBest_93 rfl rfl ?_
  refine gf_9_25 dX9_findBest_94 zw_387 ?_
  refine zS_iload_n dX9_findBest_97 rfl rfl ?_
  by_cases b98 : x3 < 0 ∨ 16 ≤ x3.toNatClampNeg
  · rw [if_pos b98] at h; cases h
  rw [if_neg b98] at h
  refine zS_iald b98 dX9_findBest_98 ?_
  refine zS_imul dX9_findBest_99 ?_
  refine zS_iadd dX9_findBest_100 ?_
  refine zS_iload dX9_findBest_101 rfl ?_
  refine zS_iadd dX9_findBest_103 ?_
  by_cases b104 : (((81 : Int32) * x3) + ((9 : Int32) * (M 93 x3.toNatClampNeg))) + x4 < 0 ∨ 1296 ≤ ((((81 : Int32) * x3) + ((9 : Int32) * (M 93 x3.toNatClampNeg))) + x4).toNatClampNeg
  · rw [if_pos b104] at h; cases h
  rw [if_neg b104] at h
  refine zS_iald b104 dX9_findBest_104 ?_
  refine zS_aload_nO dX9_findBest_105 rfl rfl ?_
  refine gf_9_24 dX9_findBest_106 zw_382 ?_
  refine zS_bipush (v := (9 : Int32)) dX9_findBest_109 (by decide) ?_
  refine zS_iload_n dX9_findBest_111 rfl rfl ?_
  refine zS_iconst (v := (1 : Int32)) dX9_findBest_112 (by decide) ?_
  refine zS_iadd dX9_findBest_113 ?_
  refine zS_imul dX9_findBest_114 ?_
  refine zS_iload dX9_findBest_115 rfl ?_
  refine zS_iadd dX9_findBest_117 ?_
  by_cases b118 : ((9 : Int32) * (x3 + (1 : Int32))) + x4 < 0 ∨ 153 ≤ (((9 : Int32) * (x3 + (1 : Int32))) + x4).toNatClampNeg
  · rw [if_pos b118] at h; cases h
  rw [if_neg b118] at h
  refine zS_iald b118 dX9_findBest_118 ?_
  refine zS_iadd dX9_findBest_119 ?_
  refine zS_aload_nO dX9_findBest_120 rfl rfl ?_
  refine gf_9_24 dX9_findBest_121 zw_382 ?_
  refine zS_bipush (v := (9 : Int32)) dX9_findBest_124 (by decide) ?_
  refine zS_iload_n dX9_findBest_126 rfl rfl ?_
  refine zS_imul dX9_findBest_127 ?_
  refine zS_aload_nO dX9_findBest_128 rfl rfl ?_
  refine gf_9_25 dX9_findBest_129 zw_387 ?_
  refine zS_iload_n dX9_findBest_132 rfl rfl ?_
  by_cases b133 : x3 < 0 ∨ 16 ≤ x3.toNatClampNeg
  · rw [if_pos b133] at h; cases h
  rw [if_neg b133] at h
  refine zS_iald b133 dX9_findBest_133 ?_
  refine zS_iadd dX9_findBest_134 ?_
  by_cases b135 : ((9 : Int32) * x3) + (M 93 x3.toNatClampNeg) < 0 ∨ 153 ≤ (((9 : Int32) * x3) + (M 93 x3.toNatClampNeg)).toNatClampNeg
  · rw [if_pos b135] at h; cases h
  rw [if_neg b135] at h
  refine zS_iald b135 dX9_findBest_135 ?_
  refine zS_icmp_eq (tgt := 145) dX9_findBest_136 (by decide) (fun c136 => ?_) (fun c136 => ?_)
  · rw [if_pos c136] at h
    refine zS_aload_nO dX9_findBest_145 rfl rfl ?_
    refine gf_9_25 dX9_findBest_146 zw_387 ?_
    refine zS_iload_n dX9_findBest_149 rfl rfl ?_
    refine zS_iconst (v := (1 : Int32)) dX9_findBest_150 (by decide) ?_
    refine zS_iadd dX9_findBest_151 ?_
    refine zS_iload dX9_findBest_152 rfl ?_
    by_cases b154 : x3 + (1 : Int32) < 0 ∨ 16 ≤ (x3 + (1 : Int32)).toNatClampNeg
    · rw [if_pos b154] at h; cases h
    rw [if_neg b154] at h
    refine zS_iast b154 dX9_findBest_154 ?_
    refine zS_iinc (v := x3 + (1 : Int32)) (ls' := [some (zO 9), none, none, some (zI (x3 + (1 : Int32))), some (zI x4)]) dX9_findBest_155 rfl rfl (by decide) rfl rfl ?_
    refine zS_goto (tgt := 70) dX9_findBest_158 (by decide) ?_
    exact zS_wk [some (zO 9), none, none, some (zI (x3 + (1 : Int32))), none] (And.intro rfl (And.intro rfl trivial)) (hk70 (x3 + (1 : Int32)) (zset M 93 ((x3 + (1 : Int32)).toNatClampNeg) x4) r h)
  · rw [if_neg c136] at h
    refine zS_iinc (v := x4 + (1 : Int32)) (ls' := [some (zO 9), none, none, some (zI x3), some (zI (x4 + (1 : Int32)))]) dX9_findBest_139 rfl rfl (by decide) rfl rfl ?_
    refine zS_goto (tgt := 83) dX9_findBest_142 (by decide) ?_
    exact zS_wk [some (zO 9), none, none, some (zI x3), some (zI (x4 + (1 : Int32)))] (And.intro rfl (And.intro rfl (And.intro rfl trivial))) (ih (x4 + (1 : Int32)) r h)
def p_X9_findBest_70 : Nat → Int32 → zM → Option (zM)
  | 0, _, _ => none
  | nn + 1, x3, M =>
  if (M 9 19) ≤ (x3 + (1 : Int32)) then
    some M
  else
    p_X9_findBest_83 (p_X9_findBest_70 nn) x3 M 5000 (0 : Int32)
set_option maxRecDepth 20000 in
set_option maxHeartbeats 4000000 in
theorem zc_X9_findBest_70 : ∀ (nn : Nat) (x3 : Int32) (M : zM) (r : zM), p_X9_findBest_70 nn x3 M = some r → zS Y_X9_findBest 70 [some (zO 9), none, none, some (zI x3), none] [] M (none, r) := by
  intro nn
  induction nn with
  | zero => intro x3 M r h; cases h
  | succ nn ih =>
  intro x3 M r h
  rw [p_X9_findBest_70] at h
  refine zS_iload_n dX9_findBest_70 rfl rfl ?_
  refine zS_iconst (v := (1 : Int32)) dX9_findBest_71 (by decide) ?_
  refine zS_iadd dX9_findBest_72 ?_
  refine zS_aload_nO dX9_findBest_73 rfl rfl ?_
  refine gf_9_19 dX9_findBest_74 zw_373 ?_
  refine zS_icmp_ge (tgt := 161) dX9_findBest_77 (by decide) (fun c77 => ?_) (fun c77 => ?_)
  · rw [if_pos c77] at h
    cases h
    exact zS_return dX9_findBest_161
  · rw [if_neg c77] at h
    refine zS_iconst (v := (0 : Int32)) dX9_findBest_80 (by decide) ?_
    refine zS_istore (ls' := [some (zO 9), none, none, some (zI x3), some (zI (0 : Int32))]) dX9_findBest_81 (by decide) rfl rfl ?_
    exact zS_wk [some (zO 9), none, none, some (zI x3), some (zI (0 : Int32))] (And.intro rfl (And.intro rfl (And.intro rfl trivial))) (zc_X9_findBest_83 x3 M ih 5000 (0 : Int32) r h)
def p_X9_findBest_35 (k11 : Int32 → Int32 → Int32 → zM → Option (zM)) (x2 : Int32) (x3 : Int32) (x4 : Int32) (t0 : Int32) (M : zM) : Option (zM) :=
  if x2 ≤ x4 then
    k11 t0 x2 (x3 + (1 : Int32)) M
  else
    k11 t0 x4 (x3 + (1 : Int32)) M
set_option maxRecDepth 20000 in
set_option maxHeartbeats 4000000 in
theorem zc_X9_findBest_35 {k11 : Int32 → Int32 → Int32 → zM → Option (zM)} (x2 : Int32) (x3 : Int32) (x4 : Int32) (t0 : Int32) (M : zM) (hk11 : ∀ (x1 : Int32) (x2 : Int32) (x3 : Int32) (M : zM) (r : zM), k11 x1 x2 x3 M = some r → zS Y_X9_findBest 11 [some (zO 9), some (zI x1), some (zI x2), some (zI x3), none] [] M (none, r)) {r : zM} (h : p_X9_findBest_35 k11 x2 x3 x4 t0 M = some r) : zS Y_X9_findBest 35 [some (zO 9), none, some (zI x2), some (zI x3), some (zI x4)] [zI t0] M (none, r) := by
  rw [p_X9_findBest_35] at h
  refine zS_istore_n (ls' := [some (zO 9), some (zI t0), some (zI x2), some (zI x3), some (zI x4)]) dX9_findBest_35 rfl (by decide) rfl rfl ?_
  refine zS_iload dX9_findBest_36 rfl ?_
  refine zS_iload_n dX9_findBest_38 rfl rfl ?_
  refine zS_icmp_ge (tgt := 47) dX9_findBest_39 (by decide) (fun c39 => ?_) (fun c39 => ?_)
  · rw [if_pos c39] at h
    refine zS_iload_n dX9_findBest_47 rfl rfl ?_
    refine zS_istore_n (ls' := [some (zO 9), some (zI t0), some (zI x2), some (zI x3), some (zI x4)]) dX9_findBest_48 rfl (by decide) rfl rfl ?_
    refine zS_iinc (v := x3 + (1 : Int32)) (ls' := [some (zO 9), some (zI t0), some (zI x2), some (zI (x3 + (1 : Int32))), some (zI x4)]) dX9_findBest_49 rfl rfl (by decide) rfl rfl ?_
    refine zS_goto (tgt := 11) dX9_findBest_52 (by decide) ?_
    exact zS_wk [some (zO 9), some (zI t0), some (zI x2), some (zI (x3 + (1 : Int32))), none] (And.intro rfl (And.intro rfl (And.intro rfl (And.intro rfl trivial)))) (hk11 t0 x2 (x3 + (1 : Int32)) M r h)
  · rw [if_neg c39] at h
    refine zS_iload dX9_findBest_42 rfl ?_
    refine zS_goto (tgt := 48) dX9_findBest_44 (by decide) ?_
    refine zS_istore_n (ls' := [some (zO 9), some (zI t0), some (zI x4), some (zI x3), some (zI x4)]) dX9_findBest_48 rfl (by decide) rfl rfl ?_
    refine zS_iinc (v := x3 + (1 : Int32)) (ls' := [some (zO 9), some (zI t0), some (zI x4), some (zI (x3 + (1 : Int32))), some (zI x4)]) dX9_findBest_49 rfl rfl (by decide) rfl rfl ?_
    refine zS_goto (tgt := 11) dX9_findBest_52 (by decide) ?_
    exact zS_wk [some (zO 9), some (zI t0), some (zI x4), some (zI (x3 + (1 : Int32))), none] (And.intro rfl (And.intro rfl (And.intro rfl (And.intro rfl trivial)))) (hk11 t0 x4 (x3 + (1 : Int32)) M r h)
def p_X9_findBest_11 : Nat → Int32 → Int32 → Int32 → zM → Option (zM)
  | 0, _, _, _, _ => none
  | nn + 1, x1, x2, x3, M =>
  if (9 : Int32) ≤ x3 then
    (p_X9_findTable x1 M).bind fun q57 =>
    p_X9_findBest_70 5000 (0 : Int32) (zset q57.2 93 ((0 : Int32).toNatClampNeg) x1)
  else
    (p_X9_findTable x3 M).bind fun q19 =>
    if x2 ≤ q19.1 then
      p_X9_findBest_35 (p_X9_findBest_11 nn) x2 x3 q19.1 x1 q19.2
    else
      p_X9_findBest_35 (p_X9_findBest_11 nn) x2 x3 q19.1 x3 q19.2
set_option maxRecDepth 20000 in
set_option maxHeartbeats 4000000 in
theorem zc_X9_findBest_11 : ∀ (nn : Nat) (x1 : Int32) (x2 : Int32) (x3 : Int32) (M : zM) (r : zM), p_X9_findBest_11 nn x1 x2 x3 M = some r → zS Y_X9_findBest 11 [some (zO 9), some (zI x1), some (zI x2), some (zI x3), none] [] M (none, r) := by
  intro nn
  induction nn with
  | zero => intro x1 x2 x3 M r h; cases h
  | succ nn ih =>
  intro x1 x2 x3 M r h
  rw [p_X9_findBest_11] at h
  refine zS_iload_n dX9_findBest_11 rfl rfl ?_
  refine zS_bipush (v := (9 : Int32)) dX9_findBest_12 (by decide) ?_
  refine zS_icmp_ge (tgt := 55) dX9_findBest_14 (by decide) (fun c14 => ?_) (fun c14 => ?_)
  · rw [if_pos c14] at h
    refine zS_aload_nO dX9_findBest_55 rfl rfl ?_
    refine zS_iload_n dX9_findBest_56 rfl rfl ?_
    obtain ⟨q57, h57, h⟩ := zbind h
    refine zS_callV (as := [zI x1]) (st := []) (ls0 := [some (zO 9), some (zI x1), none, none, none, none, none]) dX9_findBest_57 okY_X9_findTable rfl rfl lay_9 rfl zw_388 zw_389 zw_390 np_X9_findTable (by decide) (Nat.le_of_ble_eq_true rfl) rfl (Nat.le_of_ble_eq_true rfl) (And.intro rfl (And.intro rfl trivial)) (zc_X9_findTable x1 M h57) ?_
    refine zS_pop dX9_findBest_60 rfl ?_
    refine zS_aload_nO dX9_findBest_61 rfl rfl ?_
    refine gf_9_25 dX9_findBest_62 zw_387 ?_
    refine zS_iconst (v := (0 : Int32)) dX9_findBest_65 (by decide) ?_
    refine zS_iload_n dX9_findBest_66 rfl rfl ?_
    refine zS_iast (by decide) dX9_findBest_67 ?_
    refine zS_iconst (v := (0 : Int32)) dX9_findBest_68 (by decide) ?_
    refine zS_istore_n (ls' := [some (zO 9), some (zI x1), some (zI x2), some (zI (0 : Int32)), none]) dX9_findBest_69 rfl (by decide) rfl rfl ?_
    exact zS_wk [some (zO 9), none, none, some (zI (0 : Int32)), none] (And.intro rfl (And.intro rfl trivial)) (zc_X9_findBest_70 5000 (0 : Int32) (zset q57.2 93 ((0 : Int32).toNatClampNeg) x1) r h)
  · rw [if_neg c14] at h
    refine zS_aload_nO dX9_findBest_17 rfl rfl ?_
    refine zS_iload_n dX9_findBest_18 rfl rfl ?_
    obtain ⟨q19, h19, h⟩ := zbind h
    refine zS_callV (as := [zI x3]) (st := []) (ls0 := [some (zO 9), some (zI x3), none, none, none, none, none]) dX9_findBest_19 okY_X9_findTable rfl rfl lay_9 rfl zw_388 zw_389 zw_390 np_X9_findTable (by decide) (Nat.le_of_ble_eq_true rfl) rfl (Nat.le_of_ble_eq_true rfl) (And.intro rfl (And.intro rfl trivial)) (zc_X9_findTable x3 M h19) ?_
    refine zS_istore (ls' := [some (zO 9), some (zI x1), some (zI x2), some (zI x3), some (zI q19.1)]) dX9_findBest_22 (by decide) rfl rfl ?_
    refine zS_iload dX9_findBest_24 rfl ?_
    refine zS_iload_n dX9_findBest_26 rfl rfl ?_
    refine zS_icmp_ge (tgt := 34) dX9_findBest_27 (by decide) (fun c27 => ?_) (fun c27 => ?_)
    · rw [if_pos c27] at h
      refine zS_iload_n dX9_findBest_34 rfl rfl ?_
      exact zS_wk [some (zO 9), none, some (zI x2), some (zI x3), some (zI q19.1)] (And.intro rfl (And.intro rfl (And.intro rfl (And.intro rfl trivial)))) (zc_X9_findBest_35 x2 x3 q19.1 x1 q19.2 ih h)
    · rw [if_neg c27] at h
      refine zS_iload_n dX9_findBest_30 rfl rfl ?_
      refine zS_goto (tgt := 35) dX9_findBest_31 (by decide) ?_
      exact zS_wk [some (zO 9), none, some (zI x2), some (zI x3), some (zI q19.1)] (And.intro rfl (And.intro rfl (And.intro rfl (And.intro rfl trivial)))) (zc_X9_findBest_35 x2 x3 q19.1 x3 q19.2 ih h)
def p_X9_findBest (M : zM) : Option (zM) :=
  (p_X9_findOff M).bind fun M1 =>
  p_X9_findBest_11 5000 (0 : Int32) (100000 : Int32) (0 : Int32) M1
set_option maxRecDepth 20000 in
set_option maxHeartbeats 4000000 in
theorem zc_X9_findBest (M : zM) {r : zM} (h : p_X9_findBest M = some r) : zS Y_X9_findBest 0 [some (zO 9), none, none, none, none] [] M (none, r) := by
  rw [p_X9_findBest] at h
  refine zS_aload_nO dX9_findBest_0 rfl rfl ?_
  obtain ⟨M1, h1, h⟩ := zbind h
  refine zS_callVv (as := []) (st := []) (ls0 := [some (zO 9), none, none, none, none, none, none]) dX9_findBest_1 okY_X9_findOff rfl rfl lay_9 rfl zw_383 zw_384 zw_385 np_X9_findOff (by decide) (Nat.le_of_ble_eq_true rfl) rfl (Nat.le_of_ble_eq_true rfl) (And.intro rfl trivial) (zc_X9_findOff M h1) ?_
  refine zS_iconst (v := (0 : Int32)) dX9_findBest_4 (by decide) ?_
  refine zS_istore_n (ls' := [some (zO 9), some (zI (0 : Int32)), none, none, none]) dX9_findBest_5 rfl (by decide) rfl rfl ?_
  refine zS_ldc (v := (100000 : Int32)) dX9_findBest_6 zw_386 ?_
  refine zS_istore_n (ls' := [some (zO 9), some (zI (0 : Int32)), some (zI (100000 : Int32)), none, none]) dX9_findBest_8 rfl (by decide) rfl rfl ?_
  refine zS_iconst (v := (0 : Int32)) dX9_findBest_9 (by decide) ?_
  refine zS_istore_n (ls' := [some (zO 9), some (zI (0 : Int32)), some (zI (100000 : Int32)), some (zI (0 : Int32)), none]) dX9_findBest_10 rfl (by decide) rfl rfl ?_
  exact zS_wk [some (zO 9), some (zI (0 : Int32)), some (zI (100000 : Int32)), some (zI (0 : Int32)), none] (And.intro rfl (And.intro rfl (And.intro rfl (And.intro rfl trivial)))) (zc_X9_findBest_11 5000 (0 : Int32) (100000 : Int32) (0 : Int32) M1 r h)
def p_X9_least (x1 : Int32) (M : zM) : Option (Int32 × zM) :=
  if (M 9 18) = 0 then
    some ((-4 : Int32), M)
  else
    (p_X9_in x1 (0 : Int32) ((M 9 19) - (1 : Int32))).bind fun r18 =>
    if r18 = 0 then
      some ((-1 : Int32), M)
    else
      (p_X9_findBest M).bind fun M27 =>
      if x1 < 0 ∨ 16 ≤ x1.toNatClampNeg then none else
      some (M27 93 x1.toNatClampNeg, M27)
set_option maxRecDepth 20000 in
set_option maxHeartbeats 4000000 in
theorem zc_X9_least (x1 : Int32) (M : zM) {r : Int32 × zM} (h : p_X9_least x1 M = some r) : zS Y_X9_least 0 [some (zO 9), some (zI x1)] [] M (some r.1, r.2) := by
  rw [p_X9_least] at h
  refine zS_aload_nO dX9_least_0 rfl rfl ?_
  refine gf_9_18 dX9_least_1 zw_358 ?_
  refine zS_if_ne (tgt := 10) dX9_least_4 (by decide) (fun c4 => ?_) (fun c4 => ?_)
  · rw [if_neg c4] at h
    refine zS_iload_n dX9_least_10 rfl rfl ?_
    refine zS_iconst (v := (0 : Int32)) dX9_least_11 (by decide) ?_
    refine zS_aload_nO dX9_least_12 rfl rfl ?_
    refine gf_9_19 dX9_least_13 zw_373 ?_
    refine zS_iconst (v := (1 : Int32)) dX9_least_16 (by decide) ?_
    refine zS_isub dX9_least_17 ?_
    obtain ⟨r18, h18, h⟩ := zbind h
    refine zS_callS (as := [zI x1, zI (0 : Int32), zI ((M 9 19) - (1 : Int32))]) (st := []) (ls0 := [some (zI x1), some (zI (0 : Int32)), some (zI ((M 9 19) - (1 : Int32)))]) dX9_least_18 okY_X9_in rfl rfl zw_310 zw_311 np_X9_in (by decide) (Nat.le_of_ble_eq_true rfl) rfl (Nat.le_of_ble_eq_true rfl) (And.intro rfl (And.intro rfl (And.intro rfl trivial))) (zc_X9_in x1 (0 : Int32) ((M 9 19) - (1 : Int32)) M h18) ?_
    refine zS_if_ne (tgt := 26) dX9_least_21 (by decide) (fun c21 => ?_) (fun c21 => ?_)
    · rw [if_neg c21] at h
      refine zS_aload_nO dX9_least_26 rfl rfl ?_
      obtain ⟨M27, h27, h⟩ := zbind h
      refine zS_callVv (as := []) (st := []) (ls0 := [some (zO 9), none, none, none, none]) dX9_least_27 okY_X9_findBest rfl rfl lay_9 rfl zw_391 zw_392 zw_393 np_X9_findBest (by decide) (Nat.le_of_ble_eq_true rfl) rfl (Nat.le_of_ble_eq_true rfl) (And.intro rfl trivial) (zc_X9_findBest M h27) ?_
      refine zS_aload_nO dX9_least_30 rfl rfl ?_
      refine gf_9_25 dX9_least_31 zw_387 ?_
      refine zS_iload_n dX9_least_34 rfl rfl ?_
      by_cases b35 : x1 < 0 ∨ 16 ≤ x1.toNatClampNeg
      · rw [if_pos b35] at h; cases h
      rw [if_neg b35] at h
      refine zS_iald b35 dX9_least_35 ?_
      cases h
      exact zS_ireturn dX9_least_36 rfl rfl
    · rw [if_pos c21] at h
      refine zS_iconst (v := (-1 : Int32)) dX9_least_24 (by decide) ?_
      cases h
      exact zS_ireturn dX9_least_25 rfl rfl
  · rw [if_pos c4] at h
    refine zS_bipush (v := (-4 : Int32)) dX9_least_7 (by decide) ?_
    cases h
    exact zS_ireturn dX9_least_9 rfl rfl
def p_X9_blamed_159 (k38 : Int32 → Int32 → Int32 → Option (Int32 × zM)) (k50 : Int32 → Int32 → Int32 → Option (Int32 × zM)) (x1 : Int32) (x2 : Int32) (x4 : Int32) (x5 : Int32) (x6 : Int32) (t0 : Int32) (M : zM) : Option (Int32 × zM) :=
  k50 (t0 + (1 : Int32)) (x4 + (1 : Int32)) (x6 + (1 : Int32))
set_option maxRecDepth 20000 in
set_option maxHeartbeats 4000000 in
theorem zc_X9_blamed_159 {k38 : Int32 → Int32 → Int32 → Option (Int32 × zM)} {k50 : Int32 → Int32 → Int32 → Option (Int32 × zM)} (x1 : Int32) (x2 : Int32) (x4 : Int32) (x5 : Int32) (x6 : Int32) (t0 : Int32) (M : zM) (hk38 : ∀ (x3 : Int32) (x4 : Int32) (x5 : Int32) (r : Int32 × zM), k38 x3 x4 x5 = some r → zS Y_X9_blamed 38 [some (zO 9), some (zI x1), some (zI x2), some (zI x3), some (zI x4), some (zI x5), none, none, none] [] M (some r.1, r.2)) (hk50 : ∀ (x3 : Int32) (x4 : Int32) (x6 : Int32) (r : Int32 × zM), k50 x3 x4 x6 = some r → zS Y_X9_blamed 50 [some (zO 9), some (zI x1), some (zI x2), some (zI x3), some (zI x4), some (zI x5), some (zI x6), none, none] [] M (some r.1, r.2)) {r : Int32 × zM} (h : p_X9_blamed_159 k38 k50 x1 x2 x4 x5 x6 t0 M = some r) : zS Y_X9_blamed 159 [some (zO 9), some (zI x1), some (zI x2), none, some (zI x4), some (zI x5), some (zI x6), none, none] [zI t0] M (some r.1, r.2) := by
  rw [p_X9_blamed_159] at h
  refine zS_iconst (v := (1 : Int32)) dX9_blamed_159 (by decide) ?_
  refine zS_goto (tgt := 164) dX9_blamed_160 (by decide) ?_
  refine zS_iadd dX9_blamed_164 ?_
  refine zS_istore_n (ls' := [some (zO 9), some (zI x1), some (zI x2), some (zI (t0 + (1 : Int32))), some (zI x4), some (zI x5), some (zI x6), none, none]) dX9_blamed_165 rfl (by decide) rfl rfl ?_
  refine zS_iinc (v := x4 + (1 : Int32)) (ls' := [some (zO 9), some (zI x1), some (zI x2), some (zI (t0 + (1 : Int32))), some (zI (x4 + (1 : Int32))), some (zI x5), some (zI x6), none, none]) dX9_blamed_166 rfl rfl (by decide) rfl rfl ?_
  refine zS_iinc (v := x6 + (1 : Int32)) (ls' := [some (zO 9), some (zI x1), some (zI x2), some (zI (t0 + (1 : Int32))), some (zI (x4 + (1 : Int32))), some (zI x5), some (zI (x6 + (1 : Int32))), none, none]) dX9_blamed_169 rfl rfl (by decide) rfl rfl ?_
  refine zS_goto (tgt := 50) dX9_blamed_172 (by decide) ?_
  exact zS_wk [some (zO 9), some (zI x1), some (zI x2), some (zI (t0 + (1 : Int32))), some (zI (x4 + (1 : Int32))), some (zI x5), some (zI (x6 + (1 : Int32))), none, none] (And.intro rfl (And.intro rfl (And.intro rfl (And.intro rfl (And.intro rfl (And.intro rfl (And.intro rfl trivial))))))) (hk50 (t0 + (1 : Int32)) (x4 + (1 : Int32)) (x6 + (1 : Int32)) r h)
def p_X9_blamed_140 (k38 : Int32 → Int32 → Int32 → Option (Int32 × zM)) (k50 : Int32 → Int32 → Int32 → Option (Int32 × zM)) (x1 : Int32) (x2 : Int32) (x3 : Int32) (x4 : Int32) (x5 : Int32) (x6 : Int32) (t0 : Int32) (M : zM) : Option (Int32 × zM) :=
  if t0 = 0 then
    k50 (x3 + (0 : Int32)) (x4 + (1 : Int32)) (x6 + (1 : Int32))
  else
    if x2 = (-1 : Int32) then
      p_X9_blamed_159 k38 k50 x1 x2 x4 x5 x6 x3 M
    else
      if x2 = x4 then
        p_X9_blamed_159 k38 k50 x1 x2 x4 x5 x6 x3 M
      else
        k50 (x3 + (0 : Int32)) (x4 + (1 : Int32)) (x6 + (1 : Int32))
set_option maxRecDepth 20000 in
set_option maxHeartbeats 4000000 in
theorem zc_X9_blamed_140 {k38 : Int32 → Int32 → Int32 → Option (Int32 × zM)} {k50 : Int32 → Int32 → Int32 → Option (Int32 × zM)} (x1 : Int32) (x2 : Int32) (x3 : Int32) (x4 : Int32) (x5 : Int32) (x6 : Int32) (t0 : Int32) (M : zM) (hk38 : ∀ (x3 : Int32) (x4 : Int32) (x5 : Int32) (r : Int32 × zM), k38 x3 x4 x5 = some r → zS Y_X9_blamed 38 [some (zO 9), some (zI x1), some (zI x2), some (zI x3), some (zI x4), some (zI x5), none, none, none] [] M (some r.1, r.2)) (hk50 : ∀ (x3 : Int32) (x4 : Int32) (x6 : Int32) (r : Int32 × zM), k50 x3 x4 x6 = some r → zS Y_X9_blamed 50 [some (zO 9), some (zI x1), some (zI x2), some (zI x3), some (zI x4), some (zI x5), some (zI x6), none, none] [] M (some r.1, r.2)) {r : Int32 × zM} (h : p_X9_blamed_140 k38 k50 x1 x2 x3 x4 x5 x6 t0 M = some r) : zS Y_X9_blamed 140 [some (zO 9), some (zI x1), some (zI x2), some (zI x3), some (zI x4), some (zI x5), some (zI x6), none, none] [zI t0] M (some r.1, r.2) := by
  rw [p_X9_blamed_140] at h
  refine zS_istore (ls' := [some (zO 9), some (zI x1), some (zI x2), some (zI x3), some (zI x4), some (zI x5), some (zI x6), none, some (zI t0)]) dX9_blamed_140 (by decide) rfl rfl ?_
  refine zS_iload_n dX9_blamed_142 rfl rfl ?_
  refine zS_iload dX9_blamed_143 rfl ?_
  refine zS_if_eq (tgt := 163) dX9_blamed_145 (by decide) (fun c145 => ?_) (fun c145 => ?_)
  · rw [if_pos c145] at h
    refine zS_iconst (v := (0 : Int32)) dX9_blamed_163 (by decide) ?_
    refine zS_iadd dX9_blamed_164 ?_
    refine zS_istore_n (ls' := [some (zO 9), some (zI x1), some (zI x2), some (zI (x3 + (0 : Int32))), some (zI x4), some (zI x5), some (zI x6), none, some (zI t0)]) dX9_blamed_165 rfl (by decide) rfl rfl ?_
    refine zS_iinc (v := x4 + (1 : Int32)) (ls' := [some (zO 9), some (zI x1), some (zI x2), some (zI (x3 + (0 : Int32))), some (zI (x4 + (1 : Int32))), some (zI x5), some (zI x6), none, some (zI t0)]) dX9_blamed_166 rfl rfl (by decide) rfl rfl ?_
    refine zS_iinc (v := x6 + (1 : Int32)) (ls' := [some (zO 9), some (zI x1), some (zI x2), some (zI (x3 + (0 : Int32))), some (zI (x4 + (1 : Int32))), some (zI x5), some (zI (x6 + (1 : Int32))), none, some (zI t0)]) dX9_blamed_169 rfl rfl (by decide) rfl rfl ?_
    refine zS_goto (tgt := 50) dX9_blamed_172 (by decide) ?_
    exact zS_wk [some (zO 9), some (zI x1), some (zI x2), some (zI (x3 + (0 : Int32))), some (zI (x4 + (1 : Int32))), some (zI x5), some (zI (x6 + (1 : Int32))), none, none] (And.intro rfl (And.intro rfl (And.intro rfl (And.intro rfl (And.intro rfl (And.intro rfl (And.intro rfl trivial))))))) (hk50 (x3 + (0 : Int32)) (x4 + (1 : Int32)) (x6 + (1 : Int32)) r h)
  · rw [if_neg c145] at h
    refine zS_iload_n dX9_blamed_148 rfl rfl ?_
    refine zS_iconst (v := (-1 : Int32)) dX9_blamed_149 (by decide) ?_
    refine zS_icmp_eq (tgt := 159) dX9_blamed_150 (by decide) (fun c150 => ?_) (fun c150 => ?_)
    · rw [if_pos c150] at h
      exact zS_wk [some (zO 9), some (zI x1), some (zI x2), none, some (zI x4), some (zI x5), some (zI x6), none, none] (And.intro rfl (And.intro rfl (And.intro rfl (And.intro rfl (And.intro rfl (And.intro rfl trivial)))))) (zc_X9_blamed_159 x1 x2 x4 x5 x6 x3 M hk38 hk50 h)
    · rw [if_neg c150] at h
      refine zS_iload_n dX9_blamed_153 rfl rfl ?_
      refine zS_iload dX9_blamed_154 rfl ?_
      refine zS_icmp_ne (tgt := 163) dX9_blamed_156 (by decide) (fun c156 => ?_) (fun c156 => ?_)
      · rw [if_neg c156] at h
        refine zS_iconst (v := (0 : Int32)) dX9_blamed_163 (by decide) ?_
        refine zS_iadd dX9_blamed_164 ?_
        refine zS_istore_n (ls' := [some (zO 9), some (zI x1), some (zI x2), some (zI (x3 + (0 : Int32))), some (zI x4), some (zI x5), some (zI x6), none, some (zI t0)]) dX9_blamed_165 rfl (by decide) rfl rfl ?_
        refine zS_iinc (v := x4 + (1 : Int32)) (ls' := [some (zO 9), some (zI x1), some (zI x2), some (zI (x3 + (0 : Int32))), some (zI (x4 + (1 : Int32))), some (zI x5), some (zI x6), none, some (zI t0)]) dX9_blamed_166 rfl rfl (by decide) rfl rfl ?_
        refine zS_iinc (v := x6 + (1 : Int32)) (ls' := [some (zO 9), some (zI x1), some (zI x2), some (zI (x3 + (0 : Int32))), some (zI (x4 + (1 : Int32))), some (zI x5), some (zI (x6 + (1 : Int32))), none, some (zI t0)]) dX9_blamed_169 rfl rfl (by decide) rfl rfl ?_
        refine zS_goto (tgt := 50) dX9_blamed_172 (by decide) ?_
        exact zS_wk [some (zO 9), some (zI x1), some (zI x2), some (zI (x3 + (0 : Int32))), some (zI (x4 + (1 : Int32))), some (zI x5), some (zI (x6 + (1 : Int32))), none, none] (And.intro rfl (And.intro rfl (And.intro rfl (And.intro rfl (And.intro rfl (And.intro rfl (And.intro rfl trivial))))))) (hk50 (x3 + (0 : Int32)) (x4 + (1 : Int32)) (x6 + (1 : Int32)) r h)
      · rw [if_pos c156] at h
        exact zS_wk [some (zO 9), some (zI x1), some (zI x2), none, some (zI x4), some (zI x5), some (zI x6), none, none] (And.intro rfl (And.intro rfl (And.intro rfl (And.intro rfl (And.intro rfl (And.intro rfl trivial)))))) (zc_X9_blamed_159 x1 x2 x4 x5 x6 x3 M hk38 hk50 h)
def p_X9_blamed_139 (k38 : Int32 → Int32 → Int32 → Option (Int32 × zM)) (k50 : Int32 → Int32 → Int32 → Option (Int32 × zM)) (x1 : Int32) (x2 : Int32) (x3 : Int32) (x4 : Int32) (x5 : Int32) (x6 : Int32) (M : zM) : Option (Int32 × zM) :=
  p_X9_blamed_140 k38 k50 x1 x2 x3 x4 x5 x6 (0 : Int32) M
set_option maxRecDepth 20000 in
set_option maxHeartbeats 4000000 in
theorem zc_X9_blamed_139 {k38 : Int32 → Int32 → Int32 → Option (Int32 × zM)} {k50 : Int32 → Int32 → Int32 → Option (Int32 × zM)} (x1 : Int32) (x2 : Int32) (x3 : Int32) (x4 : Int32) (x5 : Int32) (x6 : Int32) (M : zM) (hk38 : ∀ (x3 : Int32) (x4 : Int32) (x5 : Int32) (r : Int32 × zM), k38 x3 x4 x5 = some r → zS Y_X9_blamed 38 [some (zO 9), some (zI x1), some (zI x2), some (zI x3), some (zI x4), some (zI x5), none, none, none] [] M (some r.1, r.2)) (hk50 : ∀ (x3 : Int32) (x4 : Int32) (x6 : Int32) (r : Int32 × zM), k50 x3 x4 x6 = some r → zS Y_X9_blamed 50 [some (zO 9), some (zI x1), some (zI x2), some (zI x3), some (zI x4), some (zI x5), some (zI x6), none, none] [] M (some r.1, r.2)) {r : Int32 × zM} (h : p_X9_blamed_139 k38 k50 x1 x2 x3 x4 x5 x6 M = some r) : zS Y_X9_blamed 139 [some (zO 9), some (zI x1), some (zI x2), some (zI x3), some (zI x4), some (zI x5), some (zI x6), none, none] [] M (some r.1, r.2) := by
  rw [p_X9_blamed_139] at h
  refine zS_iconst (v := (0 : Int32)) dX9_blamed_139 (by decide) ?_
  exact zS_wk [some (zO 9), some (zI x1), some (zI x2), some (zI x3), some (zI x4), some (zI x5), some (zI x6), none, none] (And.intro rfl (And.intro rfl (And.intro rfl (And.intro rfl (And.intro rfl (And.intro rfl (And.intro rfl trivial))))))) (zc_X9_blamed_140 x1 x2 x3 x4 x5 x6 (0 : Int32) M hk38 hk50 h)
def p_X9_blamed_50 (k38 : Int32 → Int32 → Int32 → Option (Int32 × zM)) (x1 : Int32) (x2 : Int32) (x5 : Int32) (M : zM) : Nat → Int32 → Int32 → Int32 → Option (Int32 × zM)
  | 0, _, _, _ => none
  | nn + 1, x3, x4, x6 =>
  if x1 < 0 ∨ 3 ≤ x1.toNatClampNeg then none else
  (p_X9_cellsOf (M 89 x1.toNatClampNeg) (M 9 20) x5 M).bind fun r65 =>
  if r65 ≤ x6 then
    k38 x3 x4 (x5 + (1 : Int32))
  else
    if ((64 : Int32) * x1) + x4 < 0 ∨ 192 ≤ (((64 : Int32) * x1) + x4).toNatClampNeg then none else
    if (M 90 (((64 : Int32) * x1) + x4).toNatClampNeg) = (-1 : Int32) then
      p_X9_blamed_139 k38 (p_X9_blamed_50 k38 x1 x2 x5 M nn) x1 x2 x3 x4 x5 x6 M
    else
      if x1 < 0 ∨ 3 ≤ x1.toNatClampNeg then none else
      if x5 < 0 ∨ 16 ≤ x5.toNatClampNeg then none else
      if M 9 19 = 0 then none else
      if (x5 + (1 : Int32)) - (x5 + (1 : Int32)) / (M 9 19) * (M 9 19) < 0 ∨ 16 ≤ ((x5 + (1 : Int32)) - (x5 + (1 : Int32)) / (M 9 19) * (M 9 19)).toNatClampNeg then none else
      (p_X9_cellOf (M 89 x1.toNatClampNeg) (M 9 20) x5 x6 (M 93 x5.toNatClampNeg) (M 93 ((x5 + (1 : Int32)) - (x5 + (1 : Int32)) / (M 9 19) * (M 9 19)).toNatClampNeg) M).bind fun r129 =>
      if (M 90 (((64 : Int32) * x1) + x4).toNatClampNeg) = r129 then
        p_X9_blamed_139 k38 (p_X9_blamed_50 k38 x1 x2 x5 M nn) x1 x2 x3 x4 x5 x6 M
      else
        p_X9_blamed_140 k38 (p_X9_blamed_50 k38 x1 x2 x5 M nn) x1 x2 x3 x4 x5 x6 (1 : Int32) M
set_option maxRecDepth 20000 in
set_option maxHeartbeats 4000000 in
theorem zc_X9_blamed_50 {k38 : Int32 → Int32 → Int32 → Option (Int32 × zM)} (x1 : Int32) (x2 : Int32) (x5 : Int32) (M : zM) (hk38 : ∀ (x3 : Int32) (x4 : Int32) (x5 : Int32) (r : Int32 × zM), k38 x3 x4 x5 = some r → zS Y_X9_blamed 38 [some (zO 9), some (zI x1), some (zI x2), some (zI x3), some (zI x4), some (zI x5), none, none, none] [] M (some r.1, r.2)) : ∀ (nn : Nat) (x3 : Int32) (x4 : Int32) (x6 : Int32) (r : Int32 × zM), p_X9_blamed_50 k38 x1 x2 x5 M nn x3 x4 x6 = some r → zS Y_X9_blamed 50 [some (zO 9), some (zI x1), some (zI x2), some (zI x3), some (zI x4), some (zI x5), some (zI x6), none, none] [] M (some r.1, r.2) := by
  intro nn
  induction nn with
  | zero => intro x3 x4 x6 r h; cases h
  | succ nn ih =>
  intro x3 x4 x6 r h
  rw [p_X9_blamed_50] at h
  refine zS_iload dX9_blamed_50 rfl ?_
  refine zS_aload_nO dX9_blamed_52 rfl rfl ?_
  refine zS_aload_nO dX9_blamed_53 rfl rfl ?_
  refine gf_9_21 dX9_blamed_54 zw_360 ?_
  refine zS_iload_n dX9_blamed_57 rfl rfl ?_
  by_cases b58 : x1 < 0 ∨ 3 ≤ x1.toNatClampNeg
  · rw [if_pos b58] at h; cases h
  rw [if_neg b58] at h
  refine zS_iald b58 dX9_blamed_58 ?_
  refine zS_aload_nO dX9_blamed_59 rfl rfl ?_
  refine gf_9_20 dX9_blamed_60 zw_374 ?_
  refine zS_iload dX9_blamed_63 rfl ?_
  obtain ⟨r65, h65, h⟩ := zbind h
  refine zS_callV (as := [zI (M 89 x1.toNatClampNeg), zI (M 9 20), zI x5]) (st := [zI x6]) (ls0 := [some (zO 9), some (zI (M 89 x1.toNatClampNeg)), some (zI (M 9 20)), some (zI x5)]) dX9_blamed_65 okY_X9_cellsOf rfl rfl lay_9 rfl zw_365 zw_366 zw_367 np_X9_cellsOf (by decide) (Nat.le_of_ble_eq_true rfl) rfl (Nat.le_of_ble_eq_true rfl) (And.intro rfl (And.intro rfl (And.intro rfl (And.intro rfl trivial)))) (zc_X9_cellsOf (M 89 x1.toNatClampNeg) (M 9 20) x5 M h65) ?_
  refine zS_icmp_ge (tgt := 175) dX9_blamed_68 (by decide) (fun c68 => ?_) (fun c68 => ?_)
  · rw [if_pos c68] at h
    refine zS_iinc (v := x5 + (1 : Int32)) (ls' := [some (zO 9), some (zI x1), some (zI x2), some (zI x3), some (zI x4), some (zI (x5 + (1 : Int32))), some (zI x6), none, none]) dX9_blamed_175 rfl rfl (by decide) rfl rfl ?_
    refine zS_goto (tgt := 38) dX9_blamed_178 (by decide) ?_
    exact zS_wk [some (zO 9), some (zI x1), some (zI x2), some (zI x3), some (zI x4), some (zI (x5 + (1 : Int32))), none, none, none] (And.intro rfl (And.intro rfl (And.intro rfl (And.intro rfl (And.intro rfl (And.intro rfl trivial)))))) (hk38 x3 x4 (x5 + (1 : Int32)) r h)
  · rw [if_neg c68] at h
    refine zS_aload_nO dX9_blamed_71 rfl rfl ?_
    refine gf_9_22 dX9_blamed_72 zw_372 ?_
    refine zS_bipush (v := (64 : Int32)) dX9_blamed_75 (by decide) ?_
    refine zS_iload_n dX9_blamed_77 rfl rfl ?_
    refine zS_imul dX9_blamed_78 ?_
    refine zS_iload dX9_blamed_79 rfl ?_
    refine zS_iadd dX9_blamed_81 ?_
    by_cases b82 : ((64 : Int32) * x1) + x4 < 0 ∨ 192 ≤ (((64 : Int32) * x1) + x4).toNatClampNeg
    · rw [if_pos b82] at h; cases h
    rw [if_neg b82] at h
    refine zS_iald b82 dX9_blamed_82 ?_
    refine zS_istore (ls' := [some (zO 9), some (zI x1), some (zI x2), some (zI x3), some (zI x4), some (zI x5), some (zI x6), some (zI (M 90 (((64 : Int32) * x1) + x4).toNatClampNeg)), none]) dX9_blamed_83 (by decide) rfl rfl ?_
    refine zS_iload dX9_blamed_85 rfl ?_
    refine zS_iconst (v := (-1 : Int32)) dX9_blamed_87 (by decide) ?_
    refine zS_icmp_eq (tgt := 139) dX9_blamed_88 (by decide) (fun c88 => ?_) (fun c88 => ?_)
    · rw [if_pos c88] at h
      exact zS_wk [some (zO 9), some (zI x1), some (zI x2), some (zI x3), some (zI x4), some (zI x5), some (zI x6), none, none] (And.intro rfl (And.intro rfl (And.intro rfl (And.intro rfl (And.intro rfl (And.intro rfl (And.intro rfl trivial))))))) (zc_X9_blamed_139 x1 x2 x3 x4 x5 x6 M hk38 ih h)
    · rw [if_neg c88] at h
      refine zS_iload dX9_blamed_91 rfl ?_
      refine zS_aload_nO dX9_blamed_93 rfl rfl ?_
      refine zS_aload_nO dX9_blamed_94 rfl rfl ?_
      refine gf_9_21 dX9_blamed_95 zw_360 ?_
      refine zS_iload_n dX9_blamed_98 rfl rfl ?_
      by_cases b99 : x1 < 0 ∨ 3 ≤ x1.toNatClampNeg
      · rw [if_pos b99] at h; cases h
      rw [if_neg b99] at h
      refine zS_iald b99 dX9_blamed_99 ?_
      refine zS_aload_nO dX9_blamed_100 rfl rfl ?_
      refine gf_9_20 dX9_blamed_101 zw_374 ?_
      refine zS_iload dX9_blamed_104 rfl ?_
      refine zS_iload dX9_blamed_106 rfl ?_
      refine zS_aload_nO dX9_blamed_108 rfl rfl ?_
      refine gf_9_25 dX9_blamed_109 zw_387 ?_
      refine zS_iload dX9_blamed_112 rfl ?_
      by_cases b114 : x5 < 0 ∨ 16 ≤ x5.toNatClampNeg
      · rw [if_pos b114] at h; cases h
      rw [if_neg b114] at h
      refine zS_iald b114 dX9_blamed_114 ?_
      refine zS_aload_nO dX9_blamed_115 rfl rfl ?_
      refine gf_9_25 dX9_blamed_116 zw_387 ?_
      refine zS_iload dX9_blamed_119 rfl ?_
      refine zS_iconst (v := (1 : Int32)) dX9_blamed_121 (by decide) ?_
      refine zS_iadd dX9_blamed_122 ?_
      refine zS_aload_nO dX9_blamed_123 rfl rfl ?_
      refine gf_9_19 dX9_blamed_124 zw_373 ?_
      by_cases z127 : M 9 19 = 0
      · rw [if_pos z127] at h; cases h
      rw [if_neg z127] at h
      refine zS_irem z127 dX9_blamed_127 ?_
      by_cases b128 : (x5 + (1 : Int32)) - (x5 + (1 : Int32)) / (M 9 19) * (M 9 19) < 0 ∨ 16 ≤ ((x5 + (1 : Int32)) - (x5 + (1 : Int32)) / (M 9 19) * (M 9 19)).toNatClampNeg
      · rw [if_pos b128] at h; cases h
      rw [if_neg b128] at h
      refine zS_iald b128 dX9_blamed_128 ?_
      obtain ⟨r129, h129, h⟩ := zbind h
      refine zS_callV (as := [zI (M 89 x1.toNatClampNeg), zI (M 9 20), zI x5, zI x6, zI (M 93 x5.toNatClampNeg), zI (M 93 ((x5 + (1 : Int32)) - (x5 + (1 : Int32)) / (M 9 19) * (M 9 19)).toNatClampNeg)]) (st := [zI (M 90 (((64 : Int32) * x1) + x4).toNatClampNeg)]) (ls0 := [some (zO 9), some (zI (M 89 x1.toNatClampNeg)), some (zI (M 9 20)), some (zI x5), some (zI x6), some (zI (M 93 x5.toNatClampNeg)), some (zI (M 93 ((x5 + (1 : Int32)) - (x5 + (1 : Int32)) / (M 9 19) * (M 9 19)).toNatClampNeg)), none]) dX9_blamed_129 okY_X9_cellOf rfl rfl lay_9 rfl zw_368 zw_369 zw_370 np_X9_cellOf (by decide) (Nat.le_of_ble_eq_true rfl) rfl (Nat.le_of_ble_eq_true rfl) (And.intro rfl (And.intro rfl (And.intro rfl (And.intro rfl (And.intro rfl (And.intro rfl (And.intro rfl trivial))))))) (zc_X9_cellOf (M 89 x1.toNatClampNeg) (M 9 20) x5 x6 (M 93 x5.toNatClampNeg) (M 93 ((x5 + (1 : Int32)) - (x5 + (1 : Int32)) / (M 9 19) * (M 9 19)).toNatClampNeg) M h129) ?_
      refine zS_icmp_eq (tgt := 139) dX9_blamed_132 (by decide) (fun c132 => ?_) (fun c132 => ?_)
      · rw [if_pos c132] at h
        exact zS_wk [some (zO 9), some (zI x1), some (zI x2), some (zI x3), some (zI x4), some (zI x5), some (zI x6), none, none] (And.intro rfl (And.intro rfl (And.intro rfl (And.intro rfl (And.intro rfl (And.intro rfl (And.intro rfl trivial))))))) (zc_X9_blamed_139 x1 x2 x3 x4 x5 x6 M hk38 ih h)
      · rw [if_neg c132] at h
        refine zS_iconst (v := (1 : Int32)) dX9_blamed_135 (by decide) ?_
        refine zS_goto (tgt := 140) dX9_blamed_136 (by decide) ?_
        exact zS_wk [some (zO 9), some (zI x1), some (zI x2), some (zI x3), some (zI x4), some (zI x5), some (zI x6), none, none] (And.intro rfl (And.intro rfl (And.intro rfl (And.intro rfl (And.intro rfl (And.intro rfl (And.intro rfl trivial))))))) (zc_X9_blamed_140 x1 x2 x3 x4 x5 x6 (1 : Int32) M hk38 ih h)
def p_X9_blamed_38 (x1 : Int32) (x2 : Int32) (M : zM) : Nat → Int32 → Int32 → Int32 → Option (Int32 × zM)
  | 0, _, _, _ => none
  | nn + 1, x3, x4, x5 =>
  if (M 9 19) ≤ x5 then
    some (x3, M)
  else
    p_X9_blamed_50 (p_X9_blamed_38 x1 x2 M nn) x1 x2 x5 M 5000 x3 x4 (0 : Int32)
set_option maxRecDepth 20000 in
set_option maxHeartbeats 4000000 in
theorem zc_X9_blamed_38 (x1 : Int32) (x2 : Int32) (M : zM) : ∀ (nn : Nat) (x3 : Int32) (x4 : Int32) (x5 : Int32) (r : Int32 × zM), p_X9_blamed_38 x1 x2 M nn x3 x4 x5 = some r → zS Y_X9_blamed 38 [some (zO 9), some (zI x1), some (zI x2), some (zI x3), some (zI x4), some (zI x5), none, none, none] [] M (some r.1, r.2) := by
  intro nn
  induction nn with
  | zero => intro x3 x4 x5 r h; cases h
  | succ nn ih =>
  intro x3 x4 x5 r h
  rw [p_X9_blamed_38] at h
  refine zS_iload dX9_blamed_38 rfl ?_
  refine zS_aload_nO dX9_blamed_40 rfl rfl ?_
  refine gf_9_19 dX9_blamed_41 zw_373 ?_
  refine zS_icmp_ge (tgt := 181) dX9_blamed_44 (by decide) (fun c44 => ?_) (fun c44 => ?_)
  · rw [if_pos c44] at h
    refine zS_iload_n dX9_blamed_181 rfl rfl ?_
    cases h
    exact zS_ireturn dX9_blamed_182 rfl rfl
  · rw [if_neg c44] at h
    refine zS_iconst (v := (0 : Int32)) dX9_blamed_47 (by decide) ?_
    refine zS_istore (ls' := [some (zO 9), some (zI x1), some (zI x2), some (zI x3), some (zI x4), some (zI x5), some (zI (0 : Int32)), none, none]) dX9_blamed_48 (by decide) rfl rfl ?_
    exact zS_wk [some (zO 9), some (zI x1), some (zI x2), some (zI x3), some (zI x4), some (zI x5), some (zI (0 : Int32)), none, none] (And.intro rfl (And.intro rfl (And.intro rfl (And.intro rfl (And.intro rfl (And.intro rfl (And.intro rfl trivial))))))) (zc_X9_blamed_50 x1 x2 x5 M ih 5000 x3 x4 (0 : Int32) r h)
def p_X9_blamed (x1 : Int32) (x2 : Int32) (M : zM) : Option (Int32 × zM) :=
  (p_X9_isSheet x1 M).bind fun r2 =>
  if r2 = 0 then
    some ((-2 : Int32), M)
  else
    (p_X9_sizeOf x1 M).bind fun r12 =>
    (p_X9_in x2 (-1 : Int32) (r12 - (1 : Int32))).bind fun r17 =>
    if r17 = 0 then
      some ((-2 : Int32), M)
    else
      (p_X9_findBest M).bind fun M27 =>
      p_X9_blamed_38 x1 x2 M27 5000 (0 : Int32) (0 : Int32) (0 : Int32)
set_option maxRecDepth 20000 in
set_option maxHeartbeats 4000000 in
theorem zc_X9_blamed (x1 : Int32) (x2 : Int32) (M : zM) {r : Int32 × zM} (h : p_X9_blamed x1 x2 M = some r) : zS Y_X9_blamed 0 [some (zO 9), some (zI x1), some (zI x2), none, none, none, none, none, none] [] M (some r.1, r.2) := by
  rw [p_X9_blamed] at h
  refine zS_aload_nO dX9_blamed_0 rfl rfl ?_
  refine zS_iload_n dX9_blamed_1 rfl rfl ?_
  obtain ⟨r2, h2, h⟩ := zbind h
  refine zS_callV (as := [zI x1]) (st := []) (ls0 := [some (zO 9), some (zI x1)]) dX9_blamed_2 okY_X9_isSheet rfl rfl lay_9 rfl zw_375 zw_376 zw_377 np_X9_isSheet (by decide) (Nat.le_of_ble_eq_true rfl) rfl (Nat.le_of_ble_eq_true rfl) (And.intro rfl (And.intro rfl trivial)) (zc_X9_isSheet x1 M h2) ?_
  refine zS_if_eq (tgt := 23) dX9_blamed_5 (by decide) (fun c5 => ?_) (fun c5 => ?_)
  · rw [if_pos c5] at h
    refine zS_bipush (v := (-2 : Int32)) dX9_blamed_23 (by decide) ?_
    cases h
    exact zS_ireturn dX9_blamed_25 rfl rfl
  · rw [if_neg c5] at h
    refine zS_iload_n dX9_blamed_8 rfl rfl ?_
    refine zS_iconst (v := (-1 : Int32)) dX9_blamed_9 (by decide) ?_
    refine zS_aload_nO dX9_blamed_10 rfl rfl ?_
    refine zS_iload_n dX9_blamed_11 rfl rfl ?_
    obtain ⟨r12, h12, h⟩ := zbind h
    refine zS_callV (as := [zI x1]) (st := [zI (-1 : Int32), zI x2]) (ls0 := [some (zO 9), some (zI x1), none, none]) dX9_blamed_12 okY_X9_sizeOf rfl rfl lay_9 rfl zw_378 zw_379 zw_380 np_X9_sizeOf (by decide) (Nat.le_of_ble_eq_true rfl) rfl (Nat.le_of_ble_eq_true rfl) (And.intro rfl (And.intro rfl trivial)) (zc_X9_sizeOf x1 M h12) ?_
    refine zS_iconst (v := (1 : Int32)) dX9_blamed_15 (by decide) ?_
    refine zS_isub dX9_blamed_16 ?_
    obtain ⟨r17, h17, h⟩ := zbind h
    refine zS_callS (as := [zI x2, zI (-1 : Int32), zI (r12 - (1 : Int32))]) (st := []) (ls0 := [some (zI x2), some (zI (-1 : Int32)), some (zI (r12 - (1 : Int32)))]) dX9_blamed_17 okY_X9_in rfl rfl zw_310 zw_311 np_X9_in (by decide) (Nat.le_of_ble_eq_true rfl) rfl (Nat.le_of_ble_eq_true rfl) (And.intro rfl (And.intro rfl (And.intro rfl trivial))) (zc_X9_in x2 (-1 : Int32) (r12 - (1 : Int32)) M h17) ?_
    refine zS_if_ne (tgt := 26) dX9_blamed_20 (by decide) (fun c20 => ?_) (fun c20 => ?_)
    · rw [if_neg c20] at h
      refine zS_aload_nO dX9_blamed_26 rfl rfl ?_
      obtain ⟨M27, h27, h⟩ := zbind h
      refine zS_callVv (as := []) (st := []) (ls0 := [some (zO 9), none, none, none, none]) dX9_blamed_27 okY_X9_findBest rfl rfl lay_9 rfl zw_391 zw_392 zw_393 np_X9_findBest (by decide) (Nat.le_of_ble_eq_true rfl) rfl (Nat.le_of_ble_eq_true rfl) (And.intro rfl trivial) (zc_X9_findBest M h27) ?_
      refine zS_iconst (v := (0 : Int32)) dX9_blamed_30 (by decide) ?_
      refine zS_istore_n (ls' := [some (zO 9), some (zI x1), some (zI x2), some (zI (0 : Int32)), none, none, none, none, none]) dX9_blamed_31 rfl (by decide) rfl rfl ?_
      refine zS_iconst (v := (0 : Int32)) dX9_blamed_32 (by decide) ?_
      refine zS_istore (ls' := [some (zO 9), some (zI x1), some (zI x2), some (zI (0 : Int32)), some (zI (0 : Int32)), none, none, none, none]) dX9_blamed_33 (by decide) rfl rfl ?_
      refine zS_iconst (v := (0 : Int32)) dX9_blamed_35 (by decide) ?_
      refine zS_istore (ls' := [some (zO 9), some (zI x1), some (zI x2), some (zI (0 : Int32)), some (zI (0 : Int32)), some (zI (0 : Int32)), none, none, none]) dX9_blamed_36 (by decide) rfl rfl ?_
      exact zS_wk [some (zO 9), some (zI x1), some (zI x2), some (zI (0 : Int32)), some (zI (0 : Int32)), some (zI (0 : Int32)), none, none, none] (And.intro rfl (And.intro rfl (And.intro rfl (And.intro rfl (And.intro rfl (And.intro rfl trivial)))))) (zc_X9_blamed_38 x1 x2 M27 5000 (0 : Int32) (0 : Int32) (0 : Int32) r h)
    · rw [if_pos c20] at h
      refine zS_bipush (v := (-2 : Int32)) dX9_blamed_23 (by decide) ?_
      cases h
      exact zS_ireturn dX9_blamed_25 rfl rfl
def p_X9_piper (x1 : Int32) (x2 : Int32) (x3 : Int32) (x4 : Int32) (x5 : Int32) (M : zM) : Option (Int32 × zM) :=
  (p_X9_isPiper x1).bind fun r1 =>
  if r1 = 0 then
    some ((-2 : Int32), M)
  else
    (p_X9_in x2 (-99 : Int32) (99 : Int32)).bind fun r15 =>
    if r15 = 0 then
      some ((-3 : Int32), M)
    else
      (p_X9_in x3 (0 : Int32) (9 : Int32)).bind fun r25 =>
      if r25 = 0 then
        some ((-3 : Int32), M)
      else
        (p_X9_in x4 (1 : Int32) (60 : Int32)).bind fun r36 =>
        if r36 = 0 then
          some ((-3 : Int32), M)
        else
          (p_X9_in x5 (0 : Int32) (90 : Int32)).bind fun r47 =>
          if r47 = 0 then
            some ((-3 : Int32), M)
          else
            if x1 < 0 ∨ 6 ≤ x1.toNatClampNeg then none else
            if x1 < 0 ∨ 6 ≤ x1.toNatClampNeg then none else
            if x1 < 0 ∨ 6 ≤ x1.toNatClampNeg then none else
            if x1 < 0 ∨ 6 ≤ x1.toNatClampNeg then none else
            some ((1 : Int32), zset (zset (zset (zset M 94 x1.toNatClampNeg x2) 95 x1.toNatClampNeg x3) 96 x1.toNatClampNeg x4) 97 x1.toNatClampNeg x5)
set_option maxRecDepth 20000 in
set_option maxHeartbeats 4000000 in
theorem zc_X9_piper (x1 : Int32) (x2 : Int32) (x3 : Int32) (x4 : Int32) (x5 : Int32) (M : zM) {r : Int32 × zM} (h : p_X9_piper x1 x2 x3 x4 x5 M = some r) : zS Y_X9_piper 0 [some (zO 9), some (zI x1), some (zI x2), some (zI x3), some (zI x4), some (zI x5)] [] M (some r.1, r.2) := by
  rw [p_X9_piper] at h
  refine zS_iload_n dX9_piper_0 rfl rfl ?_
  obtain ⟨r1, h1, h⟩ := zbind h
  refine zS_callS (as := [zI x1]) (st := []) (ls0 := [some (zI x1)]) dX9_piper_1 okY_X9_isPiper rfl rfl zw_394 zw_395 np_X9_isPiper (by decide) (Nat.le_of_ble_eq_true rfl) rfl (Nat.le_of_ble_eq_true rfl) (And.intro rfl trivial) (zc_X9_isPiper x1 M h1) ?_
  refine zS_if_ne (tgt := 10) dX9_piper_4 (by decide) (fun c4 => ?_) (fun c4 => ?_)
  · rw [if_neg c4] at h
    refine zS_iload_n dX9_piper_10 rfl rfl ?_
    refine zS_bipush (v := (-99 : Int32)) dX9_piper_11 (by decide) ?_
    refine zS_bipush (v := (99 : Int32)) dX9_piper_13 (by decide) ?_
    obtain ⟨r15, h15, h⟩ := zbind h
    refine zS_callS (as := [zI x2, zI (-99 : Int32), zI (99 : Int32)]) (st := []) (ls0 := [some (zI x2), some (zI (-99 : Int32)), some (zI (99 : Int32))]) dX9_piper_15 okY_X9_in rfl rfl zw_310 zw_311 np_X9_in (by decide) (Nat.le_of_ble_eq_true rfl) rfl (Nat.le_of_ble_eq_true rfl) (And.intro rfl (And.intro rfl (And.intro rfl trivial))) (zc_X9_in x2 (-99 : Int32) (99 : Int32) M h15) ?_
    refine zS_if_eq (tgt := 53) dX9_piper_18 (by decide) (fun c18 => ?_) (fun c18 => ?_)
    · rw [if_pos c18] at h
      refine zS_bipush (v := (-3 : Int32)) dX9_piper_53 (by decide) ?_
      cases h
      exact zS_ireturn dX9_piper_55 rfl rfl
    · rw [if_neg c18] at h
      refine zS_iload_n dX9_piper_21 rfl rfl ?_
      refine zS_iconst (v := (0 : Int32)) dX9_piper_22 (by decide) ?_
      refine zS_bipush (v := (9 : Int32)) dX9_piper_23 (by decide) ?_
      obtain ⟨r25, h25, h⟩ := zbind h
      refine zS_callS (as := [zI x3, zI (0 : Int32), zI (9 : Int32)]) (st := []) (ls0 := [some (zI x3), some (zI (0 : Int32)), some (zI (9 : Int32))]) dX9_piper_25 okY_X9_in rfl rfl zw_310 zw_311 np_X9_in (by decide) (Nat.le_of_ble_eq_true rfl) rfl (Nat.le_of_ble_eq_true rfl) (And.intro rfl (And.intro rfl (And.intro rfl trivial))) (zc_X9_in x3 (0 : Int32) (9 : Int32) M h25) ?_
      refine zS_if_eq (tgt := 53) dX9_piper_28 (by decide) (fun c28 => ?_) (fun c28 => ?_)
      · rw [if_pos c28] at h
        refine zS_bipush (v := (-3 : Int32)) dX9_piper_53 (by decide) ?_
        cases h
        exact zS_ireturn dX9_piper_55 rfl rfl
      · rw [if_neg c28] at h
        refine zS_iload dX9_piper_31 rfl ?_
        refine zS_iconst (v := (1 : Int32)) dX9_piper_33 (by decide) ?_
        refine zS_bipush (v := (60 : Int32)) dX9_piper_34 (by decide) ?_
        obtain ⟨r36, h36, h⟩ := zbind h
        refine zS_callS (as := [zI x4, zI (1 : Int32), zI (60 : Int32)]) (st := []) (ls0 := [some (zI x4), some (zI (1 : Int32)), some (zI (60 : Int32))]) dX9_piper_36 okY_X9_in rfl rfl zw_310 zw_311 np_X9_in (by decide) (Nat.le_of_ble_eq_true rfl) rfl (Nat.le_of_ble_eq_true rfl) (And.intro rfl (And.intro rfl (And.intro rfl trivial))) (zc_X9_in x4 (1 : Int32) (60 : Int32) M h36) ?_
        refine zS_if_eq (tgt := 53) dX9_piper_39 (by decide) (fun c39 => ?_) (fun c39 => ?_)
        · rw [if_pos c39] at h
          refine zS_bipush (v := (-3 : Int32)) dX9_piper_53 (by decide) ?_
          cases h
          exact zS_ireturn dX9_piper_55 rfl rfl
        · rw [if_neg c39] at h
          refine zS_iload dX9_piper_42 rfl ?_
          refine zS_iconst (v := (0 : Int32)) dX9_piper_44 (by decide) ?_
          refine zS_bipush (v := (90 : Int32)) dX9_piper_45 (by decide) ?_
          obtain ⟨r47, h47, h⟩ := zbind h
          refine zS_callS (as := [zI x5, zI (0 : Int32), zI (90 : Int32)]) (st := []) (ls0 := [some (zI x5), some (zI (0 : Int32)), some (zI (90 : Int32))]) dX9_piper_47 okY_X9_in rfl rfl zw_310 zw_311 np_X9_in (by decide) (Nat.le_of_ble_eq_true rfl) rfl (Nat.le_of_ble_eq_true rfl) (And.intro rfl (And.intro rfl (And.intro rfl trivial))) (zc_X9_in x5 (0 : Int32) (90 : Int32) M h47) ?_
          refine zS_if_ne (tgt := 56) dX9_piper_50 (by decide) (fun c50 => ?_) (fun c50 => ?_)
          · rw [if_neg c50] at h
            refine zS_aload_nO dX9_piper_56 rfl rfl ?_
            refine gf_9_26 dX9_piper_57 zw_396 ?_
            refine zS_iload_n dX9_piper_60 rfl rfl ?_
            refine zS_iload_n dX9_piper_61 rfl rfl ?_
            by_cases b62 : x1 < 0 ∨ 6 ≤ x1.toNatClampNeg
            · rw [if_pos b62] at h; cases h
            rw [if_neg b62] at h
            refine zS_iast b62 dX9_piper_62 ?_
            refine zS_aload_nO dX9_piper_63 rfl rfl ?_
            refine gf_9_27 dX9_piper_64 zw_397 ?_
            refine zS_iload_n dX9_piper_67 rfl rfl ?_
            refine zS_iload_n dX9_piper_68 rfl rfl ?_
            by_cases b69 : x1 < 0 ∨ 6 ≤ x1.toNatClampNeg
            · rw [if_pos b69] at h; cases h
            rw [if_neg b69] at h
            refine zS_iast b69 dX9_piper_69 ?_
            refine zS_aload_nO dX9_piper_70 rfl rfl ?_
            refine gf_9_28 dX9_piper_71 zw_398 ?_
            refine zS_iload_n dX9_piper_74 rfl rfl ?_
            refine zS_iload dX9_piper_75 rfl ?_
            by_cases b77 : x1 < 0 ∨ 6 ≤ x1.toNatClampNeg
            · rw [if_pos b77] at h; cases h
            rw [if_neg b77] at h
            refine zS_iast b77 dX9_piper_77 ?_
            refine zS_aload_nO dX9_piper_78 rfl rfl ?_
            refine gf_9_29 dX9_piper_79 zw_399 ?_
            refine zS_iload_n dX9_piper_82 rfl rfl ?_
            refine zS_iload dX9_piper_83 rfl ?_
            by_cases b85 : x1 < 0 ∨ 6 ≤ x1.toNatClampNeg
            · rw [if_pos b85] at h; cases h
            rw [if_neg b85] at h
            refine zS_iast b85 dX9_piper_85 ?_
            refine zS_iconst (v := (1 : Int32)) dX9_piper_86 (by decide) ?_
            cases h
            exact zS_ireturn dX9_piper_87 rfl rfl
          · rw [if_pos c50] at h
            refine zS_bipush (v := (-3 : Int32)) dX9_piper_53 (by decide) ?_
            cases h
            exact zS_ireturn dX9_piper_55 rfl rfl
  · rw [if_pos c4] at h
    refine zS_bipush (v := (-2 : Int32)) dX9_piper_7 (by decide) ?_
    cases h
    exact zS_ireturn dX9_piper_9 rfl rfl
def p_X9_damp (x1 : Int32) (M : zM) : Option (Int32 × zM) :=
  (p_X9_in x1 (0 : Int32) (5 : Int32)).bind fun r3 =>
  if r3 = 0 then
    some ((-3 : Int32), M)
  else
    some (M 9 30, zset M 9 30 x1)
set_option maxRecDepth 20000 in
set_option maxHeartbeats 4000000 in
theorem zc_X9_damp (x1 : Int32) (M : zM) {r : Int32 × zM} (h : p_X9_damp x1 M = some r) : zS Y_X9_damp 0 [some (zO 9), some (zI x1), none] [] M (some r.1, r.2) := by
  rw [p_X9_damp] at h
  refine zS_iload_n dX9_damp_0 rfl rfl ?_
  refine zS_iconst (v := (0 : Int32)) dX9_damp_1 (by decide) ?_
  refine zS_iconst (v := (5 : Int32)) dX9_damp_2 (by decide) ?_
  obtain ⟨r3, h3, h⟩ := zbind h
  refine zS_callS (as := [zI x1, zI (0 : Int32), zI (5 : Int32)]) (st := []) (ls0 := [some (zI x1), some (zI (0 : Int32)), some (zI (5 : Int32))]) dX9_damp_3 okY_X9_in rfl rfl zw_310 zw_311 np_X9_in (by decide) (Nat.le_of_ble_eq_true rfl) rfl (Nat.le_of_ble_eq_true rfl) (And.intro rfl (And.intro rfl (And.intro rfl trivial))) (zc_X9_in x1 (0 : Int32) (5 : Int32) M h3) ?_
  refine zS_if_ne (tgt := 12) dX9_damp_6 (by decide) (fun c6 => ?_) (fun c6 => ?_)
  · rw [if_neg c6] at h
    refine zS_aload_nO dX9_damp_12 rfl rfl ?_
    refine gf_9_30 dX9_damp_13 zw_400 ?_
    refine zS_istore_n (ls' := [some (zO 9), some (zI x1), some (zI (M 9 30))]) dX9_damp_16 rfl (by decide) rfl rfl ?_
    refine zS_aload_nO dX9_damp_17 rfl rfl ?_
    refine zS_iload_n dX9_damp_18 rfl rfl ?_
    refine pf_9_30 dX9_damp_19 zw_400 ?_
    refine zS_iload_n dX9_damp_22 rfl rfl ?_
    cases h
    exact zS_ireturn dX9_damp_23 rfl rfl
  · rw [if_pos c6] at h
    refine zS_bipush (v := (-3 : Int32)) dX9_damp_9 (by decide) ?_
    cases h
    exact zS_ireturn dX9_damp_11 rfl rfl
def p_X9_pitchFor_28 (x1 : Int32) (x2 : Int32) (t0 : Int32) (M : zM) : Option (Int32) :=
  if x1 < 0 ∨ 6 ≤ x1.toNatClampNeg then none else
  if x1 < 0 ∨ 6 ≤ x1.toNatClampNeg then none else
  if (M 96 x1.toNatClampNeg) ≤ x2 then
    if x1 < 0 ∨ 6 ≤ x1.toNatClampNeg then none else
    some ((M 94 x1.toNatClampNeg) + (t0 * (M 96 x1.toNatClampNeg)))
  else
    some ((M 94 x1.toNatClampNeg) + (t0 * x2))
set_option maxRecDepth 20000 in
set_option maxHeartbeats 4000000 in
theorem zc_X9_pitchFor_28 (x1 : Int32) (x2 : Int32) (t0 : Int32) (M : zM) {r : Int32} (h : p_X9_pitchFor_28 x1 x2 t0 M = some r) : zS Y_X9_pitchFor 28 [some (zO 9), some (zI x1), some (zI x2), none] [zI t0] M (some r, M) := by
  rw [p_X9_pitchFor_28] at h
  refine zS_istore_n (ls' := [some (zO 9), some (zI x1), some (zI x2), some (zI t0)]) dX9_pitchFor_28 rfl (by decide) rfl rfl ?_
  refine zS_aload_nO dX9_pitchFor_29 rfl rfl ?_
  refine gf_9_26 dX9_pitchFor_30 zw_396 ?_
  refine zS_iload_n dX9_pitchFor_33 rfl rfl ?_
  by_cases b34 : x1 < 0 ∨ 6 ≤ x1.toNatClampNeg
  · rw [if_pos b34] at h; cases h
  rw [if_neg b34] at h
  refine zS_iald b34 dX9_pitchFor_34 ?_
  refine zS_iload_n dX9_pitchFor_35 rfl rfl ?_
  refine zS_iload_n dX9_pitchFor_36 rfl rfl ?_
  refine zS_aload_nO dX9_pitchFor_37 rfl rfl ?_
  refine gf_9_28 dX9_pitchFor_38 zw_398 ?_
  refine zS_iload_n dX9_pitchFor_41 rfl rfl ?_
  by_cases b42 : x1 < 0 ∨ 6 ≤ x1.toNatClampNeg
  · rw [if_pos b42] at h; cases h
  rw [if_neg b42] at h
  refine zS_iald b42 dX9_pitchFor_42 ?_
  refine zS_icmp_ge (tgt := 50) dX9_pitchFor_43 (by decide) (fun c43 => ?_) (fun c43 => ?_)
  · rw [if_pos c43] at h
    refine zS_aload_nO dX9_pitchFor_50 rfl rfl ?_
    refine gf_9_28 dX9_pitchFor_51 zw_398 ?_
    refine zS_iload_n dX9_pitchFor_54 rfl rfl ?_
    by_cases b55 : x1 < 0 ∨ 6 ≤ x1.toNatClampNeg
    · rw [if_pos b55] at h; cases h
    rw [if_neg b55] at h
    refine zS_iald b55 dX9_pitchFor_55 ?_
    refine zS_imul dX9_pitchFor_56 ?_
    refine zS_iadd dX9_pitchFor_57 ?_
    cases h
    exact zS_ireturn dX9_pitchFor_58 rfl rfl
  · rw [if_neg c43] at h
    refine zS_iload_n dX9_pitchFor_46 rfl rfl ?_
    refine zS_goto (tgt := 56) dX9_pitchFor_47 (by decide) ?_
    refine zS_imul dX9_pitchFor_56 ?_
    refine zS_iadd dX9_pitchFor_57 ?_
    cases h
    exact zS_ireturn dX9_pitchFor_58 rfl rfl
def p_X9_pitchFor (x1 : Int32) (x2 : Int32) (M : zM) : Option (Int32) :=
  if x1 < 0 ∨ 6 ≤ x1.toNatClampNeg then none else
  if (M 9 30) ≤ (M 95 x1.toNatClampNeg) then
    if x1 < 0 ∨ 6 ≤ x1.toNatClampNeg then none else
    p_X9_pitchFor_28 x1 x2 ((M 95 x1.toNatClampNeg) - (M 9 30)) M
  else
    p_X9_pitchFor_28 x1 x2 (0 : Int32) M
set_option maxRecDepth 20000 in
set_option maxHeartbeats 4000000 in
theorem zc_X9_pitchFor (x1 : Int32) (x2 : Int32) (M : zM) {r : Int32} (h : p_X9_pitchFor x1 x2 M = some r) : zS Y_X9_pitchFor 0 [some (zO 9), some (zI x1), some (zI x2), none] [] M (some r, M) := by
  rw [p_X9_pitchFor] at h
  refine zS_aload_nO dX9_pitchFor_0 rfl rfl ?_
  refine gf_9_27 dX9_pitchFor_1 zw_397 ?_
  refine zS_iload_n dX9_pitchFor_4 rfl rfl ?_
  by_cases b5 : x1 < 0 ∨ 6 ≤ x1.toNatClampNeg
  · rw [if_pos b5] at h; cases h
  rw [if_neg b5] at h
  refine zS_iald b5 dX9_pitchFor_5 ?_
  refine zS_aload_nO dX9_pitchFor_6 rfl rfl ?_
  refine gf_9_30 dX9_pitchFor_7 zw_400 ?_
  refine zS_icmp_ge (tgt := 17) dX9_pitchFor_10 (by decide) (fun c10 => ?_) (fun c10 => ?_)
  · rw [if_pos c10] at h
    refine zS_aload_nO dX9_pitchFor_17 rfl rfl ?_
    refine gf_9_27 dX9_pitchFor_18 zw_397 ?_
    refine zS_iload_n dX9_pitchFor_21 rfl rfl ?_
    by_cases b22 : x1 < 0 ∨ 6 ≤ x1.toNatClampNeg
    · rw [if_pos b22] at h; cases h
    rw [if_neg b22] at h
    refine zS_iald b22 dX9_pitchFor_22 ?_
    refine zS_aload_nO dX9_pitchFor_23 rfl rfl ?_
    refine gf_9_30 dX9_pitchFor_24 zw_400 ?_
    refine zS_isub dX9_pitchFor_27 ?_
    exact zS_wk [some (zO 9), some (zI x1), some (zI x2), none] (And.intro rfl (And.intro rfl (And.intro rfl trivial))) (zc_X9_pitchFor_28 x1 x2 ((M 95 x1.toNatClampNeg) - (M 9 30)) M h)
  · rw [if_neg c10] at h
    refine zS_iconst (v := (0 : Int32)) dX9_pitchFor_13 (by decide) ?_
    refine zS_goto (tgt := 28) dX9_pitchFor_14 (by decide) ?_
    exact zS_wk [some (zO 9), some (zI x1), some (zI x2), none] (And.intro rfl (And.intro rfl (And.intro rfl trivial))) (zc_X9_pitchFor_28 x1 x2 (0 : Int32) M h)
def p_X9_pitch (x1 : Int32) (x2 : Int32) (x3 : Int32) (M : zM) : Option (Int32) :=
  (p_X9_isPiper x1).bind fun r1 =>
  if r1 = 0 then
    some (-2147483648 : Int32)
  else
    (p_X9_in x3 (0 : Int32) (150 : Int32)).bind fun r12 =>
    if r12 = 0 then
      some (-2147483648 : Int32)
    else
      if x1 < 0 ∨ 6 ≤ x1.toNatClampNeg then none else
      (p_X9_in x2 (M 97 x1.toNatClampNeg) x3).bind fun r26 =>
      if r26 = 0 then
        some (-2147483648 : Int32)
      else
        (p_X9_pitchFor x1 (x3 - x2) M).bind fun r40 =>
        some r40
set_option maxRecDepth 20000 in
set_option maxHeartbeats 4000000 in
theorem zc_X9_pitch (x1 : Int32) (x2 : Int32) (x3 : Int32) (M : zM) {r : Int32} (h : p_X9_pitch x1 x2 x3 M = some r) : zS Y_X9_pitch 0 [some (zO 9), some (zI x1), some (zI x2), some (zI x3)] [] M (some r, M) := by
  rw [p_X9_pitch] at h
  refine zS_iload_n dX9_pitch_0 rfl rfl ?_
  obtain ⟨r1, h1, h⟩ := zbind h
  refine zS_callS (as := [zI x1]) (st := []) (ls0 := [some (zI x1)]) dX9_pitch_1 okY_X9_isPiper rfl rfl zw_394 zw_395 np_X9_isPiper (by decide) (Nat.le_of_ble_eq_true rfl) rfl (Nat.le_of_ble_eq_true rfl) (And.intro rfl trivial) (zc_X9_isPiper x1 M h1) ?_
  refine zS_if_eq (tgt := 32) dX9_pitch_4 (by decide) (fun c4 => ?_) (fun c4 => ?_)
  · rw [if_pos c4] at h
    refine zS_ldc (v := (-2147483648 : Int32)) dX9_pitch_32 zw_401 ?_
    cases h
    exact zS_ireturn dX9_pitch_34 rfl rfl
  · rw [if_neg c4] at h
    refine zS_iload_n dX9_pitch_7 rfl rfl ?_
    refine zS_iconst (v := (0 : Int32)) dX9_pitch_8 (by decide) ?_
    refine zS_sipush (v := (150 : Int32)) dX9_pitch_9 (by decide) ?_
    obtain ⟨r12, h12, h⟩ := zbind h
    refine zS_callS (as := [zI x3, zI (0 : Int32), zI (150 : Int32)]) (st := []) (ls0 := [some (zI x3), some (zI (0 : Int32)), some (zI (150 : Int32))]) dX9_pitch_12 okY_X9_in rfl rfl zw_310 zw_311 np_X9_in (by decide) (Nat.le_of_ble_eq_true rfl) rfl (Nat.le_of_ble_eq_true rfl) (And.intro rfl (And.intro rfl (And.intro rfl trivial))) (zc_X9_in x3 (0 : Int32) (150 : Int32) M h12) ?_
    refine zS_if_eq (tgt := 32) dX9_pitch_15 (by decide) (fun c15 => ?_) (fun c15 => ?_)
    · rw [if_pos c15] at h
      refine zS_ldc (v := (-2147483648 : Int32)) dX9_pitch_32 zw_401 ?_
      cases h
      exact zS_ireturn dX9_pitch_34 rfl rfl
    · rw [if_neg c15] at h
      refine zS_iload_n dX9_pitch_18 rfl rfl ?_
      refine zS_aload_nO dX9_pitch_19 rfl rfl ?_
      refine gf_9_29 dX9_pitch_20 zw_399 ?_
      refine zS_iload_n dX9_pitch_23 rfl rfl ?_
      by_cases b24 : x1 < 0 ∨ 6 ≤ x1.toNatClampNeg
      · rw [if_pos b24] at h; cases h
      rw [if_neg b24] at h
      refine zS_iald b24 dX9_pitch_24 ?_
      refine zS_iload_n dX9_pitch_25 rfl rfl ?_
      obtain ⟨r26, h26, h⟩ := zbind h
      refine zS_callS (as := [zI x2, zI (M 97 x1.toNatClampNeg), zI x3]) (st := []) (ls0 := [some (zI x2), some (zI (M 97 x1.toNatClampNeg)), some (zI x3)]) dX9_pitch_26 okY_X9_in rfl rfl zw_310 zw_311 np_X9_in (by decide) (Nat.le_of_ble_eq_true rfl) rfl (Nat.le_of_ble_eq_true rfl) (And.intro rfl (And.intro rfl (And.intro rfl trivial))) (zc_X9_in x2 (M 97 x1.toNatClampNeg) x3 M h26) ?_
      refine zS_if_ne (tgt := 35) dX9_pitch_29 (by decide) (fun c29 => ?_) (fun c29 => ?_)
      · rw [if_neg c29] at h
        refine zS_aload_nO dX9_pitch_35 rfl rfl ?_
        refine zS_iload_n dX9_pitch_36 rfl rfl ?_
        refine zS_iload_n dX9_pitch_37 rfl rfl ?_
        refine zS_iload_n dX9_pitch_38 rfl rfl ?_
        refine zS_isub dX9_pitch_39 ?_
        obtain ⟨r40, h40, h⟩ := zbind h
        refine zS_callV (as := [zI x1, zI (x3 - x2)]) (st := []) (ls0 := [some (zO 9), some (zI x1), some (zI (x3 - x2)), none]) dX9_pitch_40 okY_X9_pitchFor rfl rfl lay_9 rfl zw_402 zw_403 zw_404 np_X9_pitchFor (by decide) (Nat.le_of_ble_eq_true rfl) rfl (Nat.le_of_ble_eq_true rfl) (And.intro rfl (And.intro rfl (And.intro rfl trivial))) (zc_X9_pitchFor x1 (x3 - x2) M h40) ?_
        cases h
        exact zS_ireturn dX9_pitch_43 rfl rfl
      · rw [if_pos c29] at h
        refine zS_ldc (v := (-2147483648 : Int32)) dX9_pitch_32 zw_401 ?_
        cases h
        exact zS_ireturn dX9_pitch_34 rfl rfl
def p_X9_longFor_3 (x1 : Int32) (x2 : Int32) (x3 : Int32) (M : zM) : Nat → Int32 → Option (Int32)
  | 0, _ => none
  | nn + 1, x4 =>
  if x1 < 0 ∨ 6 ≤ x1.toNatClampNeg then none else
  if (x2 - (M 97 x1.toNatClampNeg)) < x4 then
    some (-1 : Int32)
  else
    (p_X9_pitchFor x1 x4 M).bind fun r20 =>
    if r20 < x3 then
      p_X9_longFor_3 x1 x2 x3 M nn (x4 + (1 : Int32))
    else
      some x4
set_option maxRecDepth 20000 in
set_option maxHeartbeats 4000000 in
theorem zc_X9_longFor_3 (x1 : Int32) (x2 : Int32) (x3 : Int32) (M : zM) : ∀ (nn : Nat) (x4 : Int32) (r : Int32), p_X9_longFor_3 x1 x2 x3 M nn x4 = some r → zS Y_X9_longFor 3 [some (zO 9), some (zI x1), some (zI x2), some (zI x3), some (zI x4)] [] M (some r, M) := by
  intro nn
  induction nn with
  | zero => intro x4 r h; cases h
  | succ nn ih =>
  intro x4 r h
  rw [p_X9_longFor_3] at h
  refine zS_iload dX9_longFor_3 rfl ?_
  refine zS_iload_n dX9_longFor_5 rfl rfl ?_
  refine zS_aload_nO dX9_longFor_6 rfl rfl ?_
  refine gf_9_29 dX9_longFor_7 zw_399 ?_
  refine zS_iload_n dX9_longFor_10 rfl rfl ?_
  by_cases b11 : x1 < 0 ∨ 6 ≤ x1.toNatClampNeg
  · rw [if_pos b11] at h; cases h
  rw [if_neg b11] at h
  refine zS_iald b11 dX9_longFor_11 ?_
  refine zS_isub dX9_longFor_12 ?_
  refine zS_icmp_gt (tgt := 36) dX9_longFor_13 (by decide) (fun c13 => ?_) (fun c13 => ?_)
  · rw [if_pos c13] at h
    refine zS_iconst (v := (-1 : Int32)) dX9_longFor_36 (by decide) ?_
    cases h
    exact zS_ireturn dX9_longFor_37 rfl rfl
  · rw [if_neg c13] at h
    refine zS_aload_nO dX9_longFor_16 rfl rfl ?_
    refine zS_iload_n dX9_longFor_17 rfl rfl ?_
    refine zS_iload dX9_longFor_18 rfl ?_
    obtain ⟨r20, h20, h⟩ := zbind h
    refine zS_callV (as := [zI x1, zI x4]) (st := []) (ls0 := [some (zO 9), some (zI x1), some (zI x4), none]) dX9_longFor_20 okY_X9_pitchFor rfl rfl lay_9 rfl zw_402 zw_403 zw_404 np_X9_pitchFor (by decide) (Nat.le_of_ble_eq_true rfl) rfl (Nat.le_of_ble_eq_true rfl) (And.intro rfl (And.intro rfl (And.intro rfl trivial))) (zc_X9_pitchFor x1 x4 M h20) ?_
    refine zS_iload_n dX9_longFor_23 rfl rfl ?_
    refine zS_icmp_lt (tgt := 30) dX9_longFor_24 (by decide) (fun c24 => ?_) (fun c24 => ?_)
    · rw [if_pos c24] at h
      refine zS_iinc (v := x4 + (1 : Int32)) (ls' := [some (zO 9), some (zI x1), some (zI x2), some (zI x3), some (zI (x4 + (1 : Int32)))]) dX9_longFor_30 rfl rfl (by decide) rfl rfl ?_
      refine zS_goto (tgt := 3) dX9_longFor_33 (by decide) ?_
      exact zS_wk [some (zO 9), some (zI x1), some (zI x2), some (zI x3), some (zI (x4 + (1 : Int32)))] (And.intro rfl (And.intro rfl (And.intro rfl (And.intro rfl (And.intro rfl trivial))))) (ih (x4 + (1 : Int32)) r h)
    · rw [if_neg c24] at h
      refine zS_iload dX9_longFor_27 rfl ?_
      cases h
      exact zS_ireturn dX9_longFor_29 rfl rfl
def p_X9_longFor (x1 : Int32) (x2 : Int32) (x3 : Int32) (M : zM) : Option (Int32) :=
  p_X9_longFor_3 x1 x2 x3 M 5000 (0 : Int32)
set_option maxRecDepth 20000 in
set_option maxHeartbeats 4000000 in
theorem zc_X9_longFor (x1 : Int32) (x2 : Int32) (x3 : Int32) (M : zM) {r : Int32} (h : p_X9_longFor x1 x2 x3 M = some r) : zS Y_X9_longFor 0 [some (zO 9), some (zI x1), some (zI x2), some (zI x3), none] [] M (some r, M) := by
  rw [p_X9_longFor] at h
  refine zS_iconst (v := (0 : Int32)) dX9_longFor_0 (by decide) ?_
  refine zS_istore (ls' := [some (zO 9), some (zI x1), some (zI x2), some (zI x3), some (zI (0 : Int32))]) dX9_longFor_1 (by decide) rfl rfl ?_
  exact zS_wk [some (zO 9), some (zI x1), some (zI x2), some (zI x3), some (zI (0 : Int32))] (And.intro rfl (And.intro rfl (And.intro rfl (And.intro rfl (And.intro rfl trivial))))) (zc_X9_longFor_3 x1 x2 x3 M 5000 (0 : Int32) r h)
def p_X9_spreadFor_6 (x1 : Int32) (x2 : Int32) (x3 : Int32) (M : zM) : Nat → Int32 → Int32 → Option (Int32)
  | 0, _, _ => none
  | nn + 1, x4, x5 =>
  if (6 : Int32) ≤ x5 then
    some (x4 - x3)
  else
    if ((x1 >>> (x5 &&& 31)) &&& (1 : Int32)) = (1 : Int32) then
      (p_X9_longFor x5 x2 x3 M).bind fun r28 =>
      if r28 = (-1 : Int32) then
        some (-1 : Int32)
      else
        (p_X9_pitchFor x5 r28 M).bind fun r46 =>
        if r46 ≤ x4 then
          p_X9_spreadFor_6 x1 x2 x3 M nn x4 (x5 + (1 : Int32))
        else
          (p_X9_pitchFor x5 r28 M).bind fun r59 =>
          p_X9_spreadFor_6 x1 x2 x3 M nn r59 (x5 + (1 : Int32))
    else
      p_X9_spreadFor_6 x1 x2 x3 M nn x4 (x5 + (1 : Int32))
set_option maxRecDepth 20000 in
set_option maxHeartbeats 4000000 in
theorem zc_X9_spreadFor_6 (x1 : Int32) (x2 : Int32) (x3 : Int32) (M : zM) : ∀ (nn : Nat) (x4 : Int32) (x5 : Int32) (r : Int32), p_X9_spreadFor_6 x1 x2 x3 M nn x4 x5 = some r → zS Y_X9_spreadFor 6 [some (zO 9), some (zI x1), some (zI x2), some (zI x3), some (zI x4), some (zI x5), none] [] M (some r, M) := by
  intro nn
  induction nn with
  | zero => intro x4 x5 r h; cases h
  | succ nn ih =>
  intro x4 x5 r h
  rw [p_X9_spreadFor_6] at h
  refine zS_iload dX9_spreadFor_6 rfl ?_
  refine zS_bipush (v := (6 : Int32)) dX9_spreadFor_8 (by decide) ?_
  refine zS_icmp_ge (tgt := 75) dX9_spreadFor_10 (by decide) (fun c10 => ?_) (fun c10 => ?_)
  · rw [if_pos c10] at h
    refine zS_iload dX9_spreadFor_75 rfl ?_
    refine zS_iload_n dX9_spreadFor_77 rfl rfl ?_
    refine zS_isub dX9_spreadFor_78 ?_
    cases h
    exact zS_ireturn dX9_spreadFor_79 rfl rfl
  · rw [if_neg c10] at h
    refine zS_iload_n dX9_spreadFor_13 rfl rfl ?_
    refine zS_iload dX9_spreadFor_14 rfl ?_
    refine zS_ishr dX9_spreadFor_16 ?_
    refine zS_iconst (v := (1 : Int32)) dX9_spreadFor_17 (by decide) ?_
    refine zS_iand dX9_spreadFor_18 ?_
    refine zS_iconst (v := (1 : Int32)) dX9_spreadFor_19 (by decide) ?_
    refine zS_icmp_ne (tgt := 69) dX9_spreadFor_20 (by decide) (fun c20 => ?_) (fun c20 => ?_)
    · rw [if_neg c20] at h
      refine zS_iinc (v := x5 + (1 : Int32)) (ls' := [some (zO 9), some (zI x1), some (zI x2), some (zI x3), some (zI x4), some (zI (x5 + (1 : Int32))), none]) dX9_spreadFor_69 rfl rfl (by decide) rfl rfl ?_
      refine zS_goto (tgt := 6) dX9_spreadFor_72 (by decide) ?_
      exact zS_wk [some (zO 9), some (zI x1), some (zI x2), some (zI x3), some (zI x4), some (zI (x5 + (1 : Int32))), none] (And.intro rfl (And.intro rfl (And.intro rfl (And.intro rfl (And.intro rfl (And.intro rfl trivial)))))) (ih x4 (x5 + (1 : Int32)) r h)
    · rw [if_pos c20] at h
      refine zS_aload_nO dX9_spreadFor_23 rfl rfl ?_
      refine zS_iload dX9_spreadFor_24 rfl ?_
      refine zS_iload_n dX9_spreadFor_26 rfl rfl ?_
      refine zS_iload_n dX9_spreadFor_27 rfl rfl ?_
      obtain ⟨r28, h28, h⟩ := zbind h
      refine zS_callV (as := [zI x5, zI x2, zI x3]) (st := []) (ls0 := [some (zO 9), some (zI x5), some (zI x2), some (zI x3), none]) dX9_spreadFor_28 okY_X9_longFor rfl rfl lay_9 rfl zw_405 zw_406 zw_407 np_X9_longFor (by decide) (Nat.le_of_ble_eq_true rfl) rfl (Nat.le_of_ble_eq_true rfl) (And.intro rfl (And.intro rfl (And.intro rfl (And.intro rfl trivial)))) (zc_X9_longFor x5 x2 x3 M h28) ?_
      refine zS_istore (ls' := [some (zO 9), some (zI x1), some (zI x2), some (zI x3), some (zI x4), some (zI x5), some (zI r28)]) dX9_spreadFor_31 (by decide) rfl rfl ?_
      refine zS_iload dX9_spreadFor_33 rfl ?_
      refine zS_iconst (v := (-1 : Int32)) dX9_spreadFor_35 (by decide) ?_
      refine zS_icmp_ne (tgt := 41) dX9_spreadFor_36 (by decide) (fun c36 => ?_) (fun c36 => ?_)
      · rw [if_neg c36] at h
        refine zS_aload_nO dX9_spreadFor_41 rfl rfl ?_
        refine zS_iload dX9_spreadFor_42 rfl ?_
        refine zS_iload dX9_spreadFor_44 rfl ?_
        obtain ⟨r46, h46, h⟩ := zbind h
        refine zS_callV (as := [zI x5, zI r28]) (st := []) (ls0 := [some (zO 9), some (zI x5), some (zI r28), none]) dX9_spreadFor_46 okY_X9_pitchFor rfl rfl lay_9 rfl zw_402 zw_403 zw_404 np_X9_pitchFor (by decide) (Nat.le_of_ble_eq_true rfl) rfl (Nat.le_of_ble_eq_true rfl) (And.intro rfl (And.intro rfl (And.intro rfl trivial))) (zc_X9_pitchFor x5 r28 M h46) ?_
        refine zS_iload dX9_spreadFor_49 rfl ?_
        refine zS_icmp_le (tgt := 65) dX9_spreadFor_51 (by decide) (fun c51 => ?_) (fun c51 => ?_)
        · rw [if_pos c51] at h
          refine zS_iload dX9_spreadFor_65 rfl ?_
          refine zS_istore (ls' := [some (zO 9), some (zI x1), some (zI x2), some (zI x3), some (zI x4), some (zI x5), some (zI r28)]) dX9_spreadFor_67 (by decide) rfl rfl ?_
          refine zS_iinc (v := x5 + (1 : Int32)) (ls' := [some (zO 9), some (zI x1), some (zI x2), some (zI x3), some (zI x4), some (zI (x5 + (1 : Int32))), some (zI r28)]) dX9_spreadFor_69 rfl rfl (by decide) rfl rfl ?_
          refine zS_goto (tgt := 6) dX9_spreadFor_72 (by decide) ?_
          exact zS_wk [some (zO 9), some (zI x1), some (zI x2), some (zI x3), some (zI x4), some (zI (x5 + (1 : Int32))), none] (And.intro rfl (And.intro rfl (And.intro rfl (And.intro rfl (And.intro rfl (And.intro rfl trivial)))))) (ih x4 (x5 + (1 : Int32)) r h)
        · rw [if_neg c51] at h
          refine zS_aload_nO dX9_spreadFor_54 rfl rfl ?_
          refine zS_iload dX9_spreadFor_55 rfl ?_
          refine zS_iload dX9_spreadFor_57 rfl ?_
          obtain ⟨r59, h59, h⟩ := zbind h
          refine zS_callV (as := [zI x5, zI r28]) (st := []) (ls0 := [some (zO 9), some (zI x5), some (zI r28), none]) dX9_spreadFor_59 okY_X9_pitchFor rfl rfl lay_9 rfl zw_402 zw_403 zw_404 np_X9_pitchFor (by decide) (Nat.le_of_ble_eq_true rfl) rfl (Nat.le_of_ble_eq_true rfl) (And.intro rfl (And.intro rfl (And.intro rfl trivial))) (zc_X9_pitchFor x5 r28 M h59) ?_
          refine zS_goto (tgt := 67) dX9_spreadFor_62 (by decide) ?_
          refine zS_istore (ls' := [some (zO 9), some (zI x1), some (zI x2), some (zI x3), some (zI r59), some (zI x5), some (zI r28)]) dX9_spreadFor_67 (by decide) rfl rfl ?_
          refine zS_iinc (v := x5 + (1 : Int32)) (ls' := [some (zO 9), some (zI x1), some (zI x2), some (zI x3), some (zI r59), some (zI (x5 + (1 : Int32))), some (zI r28)]) dX9_spreadFor_69 rfl rfl (by decide) rfl rfl ?_
          refine zS_goto (tgt := 6) dX9_spreadFor_72 (by decide) ?_
          exact zS_wk [some (zO 9), some (zI x1), some (zI x2), some (zI x3), some (zI r59), some (zI (x5 + (1 : Int32))), none] (And.intro rfl (And.intro rfl (And.intro rfl (And.intro rfl (And.intro rfl (And.intro rfl trivial)))))) (ih r59 (x5 + (1 : Int32)) r h)
      · rw [if_pos c36] at h
        refine zS_iconst (v := (-1 : Int32)) dX9_spreadFor_39 (by decide) ?_
        cases h
        exact zS_ireturn dX9_spreadFor_40 rfl rfl
def p_X9_spreadFor (x1 : Int32) (x2 : Int32) (x3 : Int32) (M : zM) : Option (Int32) :=
  p_X9_spreadFor_6 x1 x2 x3 M 5000 x3 (0 : Int32)
set_option maxRecDepth 20000 in
set_option maxHeartbeats 4000000 in
theorem zc_X9_spreadFor (x1 : Int32) (x2 : Int32) (x3 : Int32) (M : zM) {r : Int32} (h : p_X9_spreadFor x1 x2 x3 M = some r) : zS Y_X9_spreadFor 0 [some (zO 9), some (zI x1), some (zI x2), some (zI x3), none, none, none] [] M (some r, M) := by
  rw [p_X9_spreadFor] at h
  refine zS_iload_n dX9_spreadFor_0 rfl rfl ?_
  refine zS_istore (ls' := [some (zO 9), some (zI x1), some (zI x2), some (zI x3), some (zI x3), none, none]) dX9_spreadFor_1 (by decide) rfl rfl ?_
  refine zS_iconst (v := (0 : Int32)) dX9_spreadFor_3 (by decide) ?_
  refine zS_istore (ls' := [some (zO 9), some (zI x1), some (zI x2), some (zI x3), some (zI x3), some (zI (0 : Int32)), none]) dX9_spreadFor_4 (by decide) rfl rfl ?_
  exact zS_wk [some (zO 9), some (zI x1), some (zI x2), some (zI x3), some (zI x3), some (zI (0 : Int32)), none] (And.intro rfl (And.intro rfl (And.intro rfl (And.intro rfl (And.intro rfl (And.intro rfl trivial)))))) (zc_X9_spreadFor_6 x1 x2 x3 M 5000 x3 (0 : Int32) r h)
def p_X9_findBand_98 (k7 : Int32 → zM → Option (zM)) (k16 : Int32 → zM → Option (zM)) (x1 : Int32) (x2 : Int32) (x3 : Int32) (x4 : Int32) (x5 : Int32) (x6 : Int32) (M : zM) : Option (zM) :=
  k16 (x4 + (1 : Int32)) (zset (zset M 9 32 x6) 9 31 x5)
set_option maxRecDepth 20000 in
set_option maxHeartbeats 4000000 in
theorem zc_X9_findBand_98 {k7 : Int32 → zM → Option (zM)} {k16 : Int32 → zM → Option (zM)} (x1 : Int32) (x2 : Int32) (x3 : Int32) (x4 : Int32) (x5 : Int32) (x6 : Int32) (M : zM) (hk7 : ∀ (x3 : Int32) (M : zM) (r : zM), k7 x3 M = some r → zS Y_X9_findBand 7 [some (zO 9), some (zI x1), some (zI x2), some (zI x3), none, none, none] [] M (none, r)) (hk16 : ∀ (x4 : Int32) (M : zM) (r : zM), k16 x4 M = some r → zS Y_X9_findBand 16 [some (zO 9), some (zI x1), some (zI x2), some (zI x3), some (zI x4), none, none] [] M (none, r)) {r : zM} (h : p_X9_findBand_98 k7 k16 x1 x2 x3 x4 x5 x6 M = some r) : zS Y_X9_findBand 98 [some (zO 9), some (zI x1), some (zI x2), some (zI x3), some (zI x4), some (zI x5), some (zI x6)] [] M (none, r) := by
  rw [p_X9_findBand_98] at h
  refine zS_aload_nO dX9_findBand_98 rfl rfl ?_
  refine zS_iload dX9_findBand_99 rfl ?_
  refine pf_9_32 dX9_findBand_101 zw_408 ?_
  refine zS_aload_nO dX9_findBand_104 rfl rfl ?_
  refine zS_iload dX9_findBand_105 rfl ?_
  refine pf_9_31 dX9_findBand_107 zw_409 ?_
  refine zS_iinc (v := x4 + (1 : Int32)) (ls' := [some (zO 9), some (zI x1), some (zI x2), some (zI x3), some (zI (x4 + (1 : Int32))), some (zI x5), some (zI x6)]) dX9_findBand_110 rfl rfl (by decide) rfl rfl ?_
  refine zS_goto (tgt := 16) dX9_findBand_113 (by decide) ?_
  exact zS_wk [some (zO 9), some (zI x1), some (zI x2), some (zI x3), some (zI (x4 + (1 : Int32))), none, none] (And.intro rfl (And.intro rfl (And.intro rfl (And.intro rfl (And.intro rfl trivial))))) (hk16 (x4 + (1 : Int32)) (zset (zset M 9 32 x6) 9 31 x5) r h)
def p_X9_findBand_16 (k7 : Int32 → zM → Option (zM)) (x1 : Int32) (x2 : Int32) (x3 : Int32) : Nat → Int32 → zM → Option (zM)
  | 0, _, _ => none
  | nn + 1, x4, M =>
  if x3 < 0 ∨ 6 ≤ x3.toNatClampNeg then none else
  if (x2 - (M 97 x3.toNatClampNeg)) < x4 then
    k7 (x3 + (1 : Int32)) M
  else
    if ((x1 >>> (x3 &&& 31)) &&& (1 : Int32)) = (1 : Int32) then
      (p_X9_pitchFor x3 x4 M).bind fun r42 =>
      (p_X9_spreadFor x1 x2 r42 M).bind fun r52 =>
      if r52 = (-1 : Int32) then
        p_X9_findBand_16 k7 x1 x2 x3 nn (x4 + (1 : Int32)) M
      else
        if (M 9 32) = (-1 : Int32) then
          p_X9_findBand_98 k7 (p_X9_findBand_16 k7 x1 x2 x3 nn) x1 x2 x3 x4 r42 r52 M
        else
          if r52 < (M 9 32) then
            p_X9_findBand_98 k7 (p_X9_findBand_16 k7 x1 x2 x3 nn) x1 x2 x3 x4 r42 r52 M
          else
            if r52 = (M 9 32) then
              if (M 9 31) ≤ r42 then
                p_X9_findBand_16 k7 x1 x2 x3 nn (x4 + (1 : Int32)) M
              else
                p_X9_findBand_98 k7 (p_X9_findBand_16 k7 x1 x2 x3 nn) x1 x2 x3 x4 r42 r52 M
            else
              p_X9_findBand_16 k7 x1 x2 x3 nn (x4 + (1 : Int32)) M
    else
      k7 (x3 + (1 : Int32)) M
set_option maxRecDepth 20000 in
set_option maxHeartbeats 4000000 in
theorem zc_X9_findBand_16 {k7 : Int32 → zM → Option (zM)} (x1 : Int32) (x2 : Int32) (x3 : Int32) (hk7 : ∀ (x3 : Int32) (M : zM) (r : zM), k7 x3 M = some r → zS Y_X9_findBand 7 [some (zO 9), some (zI x1), some (zI x2), some (zI x3), none, none, none] [] M (none, r)) : ∀ (nn : Nat) (x4 : Int32) (M : zM) (r : zM), p_X9_findBand_16 k7 x1 x2 x3 nn x4 M = some r → zS Y_X9_findBand 16 [some (zO 9), some (zI x1), some (zI x2), some (zI x3), some (zI x4), none, none] [] M (none, r) := by
  intro nn
  induction nn with
  | zero => intro x4 M r h; cases h
  | succ nn ih =>
  intro x4 M r h
  rw [p_X9_findBand_16] at h
  refine zS_iload dX9_findBand_16 rfl ?_
  refine zS_iload_n dX9_findBand_18 rfl rfl ?_
  refine zS_aload_nO dX9_findBand_19 rfl rfl ?_
  refine gf_9_29 dX9_findBand_20 zw_399 ?_
  refine zS_iload_n dX9_findBand_23 rfl rfl ?_
  by_cases b24 : x3 < 0 ∨ 6 ≤ x3.toNatClampNeg
  · rw [if_pos b24] at h; cases h
  rw [if_neg b24] at h
  refine zS_iald b24 dX9_findBand_24 ?_
  refine zS_isub dX9_findBand_25 ?_
  refine zS_icmp_gt (tgt := 116) dX9_findBand_26 (by decide) (fun c26 => ?_) (fun c26 => ?_)
  · rw [if_pos c26] at h
    refine zS_iinc (v := x3 + (1 : Int32)) (ls' := [some (zO 9), some (zI x1), some (zI x2), some (zI (x3 + (1 : Int32))), some (zI x4), none, none]) dX9_findBand_116 rfl rfl (by decide) rfl rfl ?_
    refine zS_goto (tgt := 7) dX9_findBand_119 (by decide) ?_
    exact zS_wk [some (zO 9), some (zI x1), some (zI x2), some (zI (x3 + (1 : Int32))), none, none, none] (And.intro rfl (And.intro rfl (And.intro rfl (And.intro rfl trivial)))) (hk7 (x3 + (1 : Int32)) M r h)
  · rw [if_neg c26] at h
    refine zS_iload_n dX9_findBand_29 rfl rfl ?_
    refine zS_iload_n dX9_findBand_30 rfl rfl ?_
    refine zS_ishr dX9_findBand_31 ?_
    refine zS_iconst (v := (1 : Int32)) dX9_findBand_32 (by decide) ?_
    refine zS_iand dX9_findBand_33 ?_
    refine zS_iconst (v := (1 : Int32)) dX9_findBand_34 (by decide) ?_
    refine zS_icmp_ne (tgt := 116) dX9_findBand_35 (by decide) (fun c35 => ?_) (fun c35 => ?_)
    · rw [if_neg c35] at h
      refine zS_iinc (v := x3 + (1 : Int32)) (ls' := [some (zO 9), some (zI x1), some (zI x2), some (zI (x3 + (1 : Int32))), some (zI x4), none, none]) dX9_findBand_116 rfl rfl (by decide) rfl rfl ?_
      refine zS_goto (tgt := 7) dX9_findBand_119 (by decide) ?_
      exact zS_wk [some (zO 9), some (zI x1), some (zI x2), some (zI (x3 + (1 : Int32))), none, none, none] (And.intro rfl (And.intro rfl (And.intro rfl (And.intro rfl trivial)))) (hk7 (x3 + (1 : Int32)) M r h)
    · rw [if_pos c35] at h
      refine zS_aload_nO dX9_findBand_38 rfl rfl ?_
      refine zS_iload_n dX9_findBand_39 rfl rfl ?_
      refine zS_iload dX9_findBand_40 rfl ?_
      obtain ⟨r42, h42, h⟩ := zbind h
      refine zS_callV (as := [zI x3, zI x4]) (st := []) (ls0 := [some (zO 9), some (zI x3), some (zI x4), none]) dX9_findBand_42 okY_X9_pitchFor rfl rfl lay_9 rfl zw_402 zw_403 zw_404 np_X9_pitchFor (by decide) (Nat.le_of_ble_eq_true rfl) rfl (Nat.le_of_ble_eq_true rfl) (And.intro rfl (And.intro rfl (And.intro rfl trivial))) (zc_X9_pitchFor x3 x4 M h42) ?_
      refine zS_istore (ls' := [some (zO 9), some (zI x1), some (zI x2), some (zI x3), some (zI x4), some (zI r42), none]) dX9_findBand_45 (by decide) rfl rfl ?_
      refine zS_aload_nO dX9_findBand_47 rfl rfl ?_
      refine zS_iload_n dX9_findBand_48 rfl rfl ?_
      refine zS_iload_n dX9_findBand_49 rfl rfl ?_
      refine zS_iload dX9_findBand_50 rfl ?_
      obtain ⟨r52, h52, h⟩ := zbind h
      refine zS_callV (as := [zI x1, zI x2, zI r42]) (st := []) (ls0 := [some (zO 9), some (zI x1), some (zI x2), some (zI r42), none, none, none]) dX9_findBand_52 okY_X9_spreadFor rfl rfl lay_9 rfl zw_410 zw_411 zw_412 np_X9_spreadFor (by decide) (Nat.le_of_ble_eq_true rfl) rfl (Nat.le_of_ble_eq_true rfl) (And.intro rfl (And.intro rfl (And.intro rfl (And.intro rfl trivial)))) (zc_X9_spreadFor x1 x2 r42 M h52) ?_
      refine zS_istore (ls' := [some (zO 9), some (zI x1), some (zI x2), some (zI x3), some (zI x4), some (zI r42), some (zI r52)]) dX9_findBand_55 (by decide) rfl rfl ?_
      refine zS_iload dX9_findBand_57 rfl ?_
      refine zS_iconst (v := (-1 : Int32)) dX9_findBand_59 (by decide) ?_
      refine zS_icmp_eq (tgt := 110) dX9_findBand_60 (by decide) (fun c60 => ?_) (fun c60 => ?_)
      · rw [if_pos c60] at h
        refine zS_iinc (v := x4 + (1 : Int32)) (ls' := [some (zO 9), some (zI x1), some (zI x2), some (zI x3), some (zI (x4 + (1 : Int32))), some (zI r42), some (zI r52)]) dX9_findBand_110 rfl rfl (by decide) rfl rfl ?_
        refine zS_goto (tgt := 16) dX9_findBand_113 (by decide) ?_
        exact zS_wk [some (zO 9), some (zI x1), some (zI x2), some (zI x3), some (zI (x4 + (1 : Int32))), none, none] (And.intro rfl (And.intro rfl (And.intro rfl (And.intro rfl (And.intro rfl trivial))))) (ih (x4 + (1 : Int32)) M r h)
      · rw [if_neg c60] at h
        refine zS_aload_nO dX9_findBand_63 rfl rfl ?_
        refine gf_9_32 dX9_findBand_64 zw_408 ?_
        refine zS_iconst (v := (-1 : Int32)) dX9_findBand_67 (by decide) ?_
        refine zS_icmp_eq (tgt := 98) dX9_findBand_68 (by decide) (fun c68 => ?_) (fun c68 => ?_)
        · rw [if_pos c68] at h
          exact zS_wk [some (zO 9), some (zI x1), some (zI x2), some (zI x3), some (zI x4), some (zI r42), some (zI r52)] (And.intro rfl (And.intro rfl (And.intro rfl (And.intro rfl (And.intro rfl (And.intro rfl (And.intro rfl trivial))))))) (zc_X9_findBand_98 x1 x2 x3 x4 r42 r52 M hk7 ih h)
        · rw [if_neg c68] at h
          refine zS_iload dX9_findBand_71 rfl ?_
          refine zS_aload_nO dX9_findBand_73 rfl rfl ?_
          refine gf_9_32 dX9_findBand_74 zw_408 ?_
          refine zS_icmp_lt (tgt := 98) dX9_findBand_77 (by decide) (fun c77 => ?_) (fun c77 => ?_)
          · rw [if_pos c77] at h
            exact zS_wk [some (zO 9), some (zI x1), some (zI x2), some (zI x3), some (zI x4), some (zI r42), some (zI r52)] (And.intro rfl (And.intro rfl (And.intro rfl (And.intro rfl (And.intro rfl (And.intro rfl (And.intro rfl trivial))))))) (zc_X9_findBand_98 x1 x2 x3 x4 r42 r52 M hk7 ih h)
          · rw [if_neg c77] at h
            refine zS_iload dX9_findBand_80 rfl ?_
            refine zS_aload_nO dX9_findBand_82 rfl rfl ?_
            refine gf_9_32 dX9_findBand_83 zw_408 ?_
            refine zS_icmp_ne (tgt := 110) dX9_findBand_86 (by decide) (fun c86 => ?_) (fun c86 => ?_)
            · rw [if_neg c86] at h
              refine zS_iinc (v := x4 + (1 : Int32)) (ls' := [some (zO 9), some (zI x1), some (zI x2), some (zI x3), some (zI (x4 + (1 : Int32))), some (zI r42), some (zI r52)]) dX9_findBand_110 rfl rfl (by decide) rfl rfl ?_
              refine zS_goto (tgt := 16) dX9_findBand_113 (by decide) ?_
              exact zS_wk [some (zO 9), some (zI x1), some (zI x2), some (zI x3), some (zI (x4 + (1 : Int32))), none, none] (And.intro rfl (And.intro rfl (And.intro rfl (And.intro rfl (And.intro rfl trivial))))) (ih (x4 + (1 : Int32)) M r h)
            · rw [if_pos c86] at h
              refine zS_iload dX9_findBand_89 rfl ?_
              refine zS_aload_nO dX9_findBand_91 rfl rfl ?_
              refine gf_9_31 dX9_findBand_92 zw_409 ?_
              refine zS_icmp_ge (tgt := 110) dX9_findBand_95 (by decide) (fun c95 => ?_) (fun c95 => ?_)
              · rw [if_pos c95] at h
                refine zS_iinc (v := x4 + (1 : Int32)) (ls' := [some (zO 9), some (zI x1), some (zI x2), some (zI x3), some (zI (x4 + (1 : Int32))), some (zI r42), some (zI r52)]) dX9_findBand_110 rfl rfl (by decide) rfl rfl ?_
                refine zS_goto (tgt := 16) dX9_findBand_113 (by decide) ?_
                exact zS_wk [some (zO 9), some (zI x1), some (zI x2), some (zI x3), some (zI (x4 + (1 : Int32))), none, none] (And.intro rfl (And.intro rfl (And.intro rfl (And.intro rfl (And.intro rfl trivial))))) (ih (x4 + (1 : Int32)) M r h)
              · rw [if_neg c95] at h
                exact zS_wk [some (zO 9), some (zI x1), some (zI x2), some (zI x3), some (zI x4), some (zI r42), some (zI r52)] (And.intro rfl (And.intro rfl (And.intro rfl (And.intro rfl (And.intro rfl (And.intro rfl (And.intro rfl trivial))))))) (zc_X9_findBand_98 x1 x2 x3 x4 r42 r52 M hk7 ih h)
def p_X9_findBand_7 (x1 : Int32) (x2 : Int32) : Nat → Int32 → zM → Option (zM)
  | 0, _, _ => none
  | nn + 1, x3, M =>
  if (6 : Int32) ≤ x3 then
    some M
  else
    p_X9_findBand_16 (p_X9_findBand_7 x1 x2 nn) x1 x2 x3 5000 (0 : Int32) M
set_option maxRecDepth 20000 in
set_option maxHeartbeats 4000000 in
theorem zc_X9_findBand_7 (x1 : Int32) (x2 : Int32) : ∀ (nn : Nat) (x3 : Int32) (M : zM) (r : zM), p_X9_findBand_7 x1 x2 nn x3 M = some r → zS Y_X9_findBand 7 [some (zO 9), some (zI x1), some (zI x2), some (zI x3), none, none, none] [] M (none, r) := by
  intro nn
  induction nn with
  | zero => intro x3 M r h; cases h
  | succ nn ih =>
  intro x3 M r h
  rw [p_X9_findBand_7] at h
  refine zS_iload_n dX9_findBand_7 rfl rfl ?_
  refine zS_bipush (v := (6 : Int32)) dX9_findBand_8 (by decide) ?_
  refine zS_icmp_ge (tgt := 122) dX9_findBand_10 (by decide) (fun c10 => ?_) (fun c10 => ?_)
  · rw [if_pos c10] at h
    cases h
    exact zS_return dX9_findBand_122
  · rw [if_neg c10] at h
    refine zS_iconst (v := (0 : Int32)) dX9_findBand_13 (by decide) ?_
    refine zS_istore (ls' := [some (zO 9), some (zI x1), some (zI x2), some (zI x3), some (zI (0 : Int32)), none, none]) dX9_findBand_14 (by decide) rfl rfl ?_
    exact zS_wk [some (zO 9), some (zI x1), some (zI x2), some (zI x3), some (zI (0 : Int32)), none, none] (And.intro rfl (And.intro rfl (And.intro rfl (And.intro rfl (And.intro rfl trivial))))) (zc_X9_findBand_16 x1 x2 x3 ih 5000 (0 : Int32) M r h)
def p_X9_findBand (x1 : Int32) (x2 : Int32) (M : zM) : Option (zM) :=
  p_X9_findBand_7 x1 x2 5000 (0 : Int32) (zset M 9 32 (-1 : Int32))
set_option maxRecDepth 20000 in
set_option maxHeartbeats 4000000 in
theorem zc_X9_findBand (x1 : Int32) (x2 : Int32) (M : zM) {r : zM} (h : p_X9_findBand x1 x2 M = some r) : zS Y_X9_findBand 0 [some (zO 9), some (zI x1), some (zI x2), none, none, none, none] [] M (none, r) := by
  rw [p_X9_findBand] at h
  refine zS_aload_nO dX9_findBand_0 rfl rfl ?_
  refine zS_iconst (v := (-1 : Int32)) dX9_findBand_1 (by decide) ?_
  refine pf_9_32 dX9_findBand_2 zw_408 ?_
  refine zS_iconst (v := (0 : Int32)) dX9_findBand_5 (by decide) ?_
  refine zS_istore_n (ls' := [some (zO 9), some (zI x1), some (zI x2), some (zI (0 : Int32)), none, none, none]) dX9_findBand_6 rfl (by decide) rfl rfl ?_
  exact zS_wk [some (zO 9), some (zI x1), some (zI x2), some (zI (0 : Int32)), none, none, none] (And.intro rfl (And.intro rfl (And.intro rfl (And.intro rfl trivial)))) (zc_X9_findBand_7 x1 x2 5000 (0 : Int32) (zset M 9 32 (-1 : Int32)) r h)
def p_X9_wrongBand_36 (x1 : Int32) (x2 : Int32) (M : zM) : Nat → Int32 → Option (Int32)
  | 0, _ => none
  | nn + 1, x4 =>
  if (6 : Int32) ≤ x4 then
    some (1 : Int32)
  else
    if ((x1 >>> (x4 &&& 31)) &&& (1 : Int32)) = (1 : Int32) then
      if x4 < 0 ∨ 6 ≤ x4.toNatClampNeg then none else
      if (M 97 x4.toNatClampNeg) ≤ x2 then
        p_X9_wrongBand_36 x1 x2 M nn (x4 + (1 : Int32))
      else
        some (-4 : Int32)
    else
      p_X9_wrongBand_36 x1 x2 M nn (x4 + (1 : Int32))
set_option maxRecDepth 20000 in
set_option maxHeartbeats 4000000 in
theorem zc_X9_wrongBand_36 (x1 : Int32) (x2 : Int32) (M : zM) : ∀ (nn : Nat) (x4 : Int32) (r : Int32), p_X9_wrongBand_36 x1 x2 M nn x4 = some r → zS Y_X9_wrongBand 36 [some (zO 9), some (zI x1), some (zI x2), none, some (zI x4)] [] M (some r, M) := by
  intro nn
  induction nn with
  | zero => intro x4 r h; cases h
  | succ nn ih =>
  intro x4 r h
  rw [p_X9_wrongBand_36] at h
  refine zS_iload dX9_wrongBand_36 rfl ?_
  refine zS_bipush (v := (6 : Int32)) dX9_wrongBand_38 (by decide) ?_
  refine zS_icmp_ge (tgt := 73) dX9_wrongBand_40 (by decide) (fun c40 => ?_) (fun c40 => ?_)
  · rw [if_pos c40] at h
    refine zS_iconst (v := (1 : Int32)) dX9_wrongBand_73 (by decide) ?_
    cases h
    exact zS_ireturn dX9_wrongBand_74 rfl rfl
  · rw [if_neg c40] at h
    refine zS_iload_n dX9_wrongBand_43 rfl rfl ?_
    refine zS_iload dX9_wrongBand_44 rfl ?_
    refine zS_ishr dX9_wrongBand_46 ?_
    refine zS_iconst (v := (1 : Int32)) dX9_wrongBand_47 (by decide) ?_
    refine zS_iand dX9_wrongBand_48 ?_
    refine zS_iconst (v := (1 : Int32)) dX9_wrongBand_49 (by decide) ?_
    refine zS_icmp_ne (tgt := 67) dX9_wrongBand_50 (by decide) (fun c50 => ?_) (fun c50 => ?_)
    · rw [if_neg c50] at h
      refine zS_iinc (v := x4 + (1 : Int32)) (ls' := [some (zO 9), some (zI x1), some (zI x2), none, some (zI (x4 + (1 : Int32)))]) dX9_wrongBand_67 rfl rfl (by decide) rfl rfl ?_
      refine zS_goto (tgt := 36) dX9_wrongBand_70 (by decide) ?_
      exact zS_wk [some (zO 9), some (zI x1), some (zI x2), none, some (zI (x4 + (1 : Int32)))] (And.intro rfl (And.intro rfl (And.intro rfl (And.intro rfl trivial)))) (ih (x4 + (1 : Int32)) r h)
    · rw [if_pos c50] at h
      refine zS_aload_nO dX9_wrongBand_53 rfl rfl ?_
      refine gf_9_29 dX9_wrongBand_54 zw_399 ?_
      refine zS_iload dX9_wrongBand_57 rfl ?_
      by_cases b59 : x4 < 0 ∨ 6 ≤ x4.toNatClampNeg
      · rw [if_pos b59] at h; cases h
      rw [if_neg b59] at h
      refine zS_iald b59 dX9_wrongBand_59 ?_
      refine zS_iload_n dX9_wrongBand_60 rfl rfl ?_
      refine zS_icmp_le (tgt := 67) dX9_wrongBand_61 (by decide) (fun c61 => ?_) (fun c61 => ?_)
      · rw [if_pos c61] at h
        refine zS_iinc (v := x4 + (1 : Int32)) (ls' := [some (zO 9), some (zI x1), some (zI x2), none, some (zI (x4 + (1 : Int32)))]) dX9_wrongBand_67 rfl rfl (by decide) rfl rfl ?_
        refine zS_goto (tgt := 36) dX9_wrongBand_70 (by decide) ?_
        exact zS_wk [some (zO 9), some (zI x1), some (zI x2), none, some (zI (x4 + (1 : Int32)))] (And.intro rfl (And.intro rfl (And.intro rfl (And.intro rfl trivial)))) (ih (x4 + (1 : Int32)) r h)
      · rw [if_neg c61] at h
        refine zS_bipush (v := (-4 : Int32)) dX9_wrongBand_64 (by decide) ?_
        cases h
        exact zS_ireturn dX9_wrongBand_66 rfl rfl
def p_X9_wrongBand (x1 : Int32) (x2 : Int32) (x3 : Int32) (M : zM) : Option (Int32) :=
  (p_X9_in x1 (1 : Int32) (63 : Int32)).bind fun r4 =>
  if r4 = 0 then
    some (-3 : Int32)
  else
    (p_X9_in x2 (0 : Int32) (150 : Int32)).bind fun r15 =>
    if r15 = 0 then
      some (-3 : Int32)
    else
      (p_X9_in x3 (0 : Int32) (1 : Int32)).bind fun r24 =>
      if r24 = 0 then
        some (-3 : Int32)
      else
        p_X9_wrongBand_36 x1 x2 M 5000 (0 : Int32)
set_option maxRecDepth 20000 in
set_option maxHeartbeats 4000000 in
theorem zc_X9_wrongBand (x1 : Int32) (x2 : Int32) (x3 : Int32) (M : zM) {r : Int32} (h : p_X9_wrongBand x1 x2 x3 M = some r) : zS Y_X9_wrongBand 0 [some (zO 9), some (zI x1), some (zI x2), some (zI x3), none] [] M (some r, M) := by
  rw [p_X9_wrongBand] at h
  refine zS_iload_n dX9_wrongBand_0 rfl rfl ?_
  refine zS_iconst (v := (1 : Int32)) dX9_wrongBand_1 (by decide) ?_
  refine zS_bipush (v := (63 : Int32)) dX9_wrongBand_2 (by decide) ?_
  obtain ⟨r4, h4, h⟩ := zbind h
  refine zS_callS (as := [zI x1, zI (1 : Int32), zI (63 : Int32)]) (st := []) (ls0 := [some (zI x1), some (zI (1 : Int32)), some (zI (63 : Int32))]) dX9_wrongBand_4 okY_X9_in rfl rfl zw_310 zw_311 np_X9_in (by decide) (Nat.le_of_ble_eq_true rfl) rfl (Nat.le_of_ble_eq_true rfl) (And.intro rfl (And.intro rfl (And.intro rfl trivial))) (zc_X9_in x1 (1 : Int32) (63 : Int32) M h4) ?_
  refine zS_if_eq (tgt := 30) dX9_wrongBand_7 (by decide) (fun c7 => ?_) (fun c7 => ?_)
  · rw [if_pos c7] at h
    refine zS_bipush (v := (-3 : Int32)) dX9_wrongBand_30 (by decide) ?_
    cases h
    exact zS_ireturn dX9_wrongBand_32 rfl rfl
  · rw [if_neg c7] at h
    refine zS_iload_n dX9_wrongBand_10 rfl rfl ?_
    refine zS_iconst (v := (0 : Int32)) dX9_wrongBand_11 (by decide) ?_
    refine zS_sipush (v := (150 : Int32)) dX9_wrongBand_12 (by decide) ?_
    obtain ⟨r15, h15, h⟩ := zbind h
    refine zS_callS (as := [zI x2, zI (0 : Int32), zI (150 : Int32)]) (st := []) (ls0 := [some (zI x2), some (zI (0 : Int32)), some (zI (150 : Int32))]) dX9_wrongBand_15 okY_X9_in rfl rfl zw_310 zw_311 np_X9_in (by decide) (Nat.le_of_ble_eq_true rfl) rfl (Nat.le_of_ble_eq_true rfl) (And.intro rfl (And.intro rfl (And.intro rfl trivial))) (zc_X9_in x2 (0 : Int32) (150 : Int32) M h15) ?_
    refine zS_if_eq (tgt := 30) dX9_wrongBand_18 (by decide) (fun c18 => ?_) (fun c18 => ?_)
    · rw [if_pos c18] at h
      refine zS_bipush (v := (-3 : Int32)) dX9_wrongBand_30 (by decide) ?_
      cases h
      exact zS_ireturn dX9_wrongBand_32 rfl rfl
    · rw [if_neg c18] at h
      refine zS_iload_n dX9_wrongBand_21 rfl rfl ?_
      refine zS_iconst (v := (0 : Int32)) dX9_wrongBand_22 (by decide) ?_
      refine zS_iconst (v := (1 : Int32)) dX9_wrongBand_23 (by decide) ?_
      obtain ⟨r24, h24, h⟩ := zbind h
      refine zS_callS (as := [zI x3, zI (0 : Int32), zI (1 : Int32)]) (st := []) (ls0 := [some (zI x3), some (zI (0 : Int32)), some (zI (1 : Int32))]) dX9_wrongBand_24 okY_X9_in rfl rfl zw_310 zw_311 np_X9_in (by decide) (Nat.le_of_ble_eq_true rfl) rfl (Nat.le_of_ble_eq_true rfl) (And.intro rfl (And.intro rfl (And.intro rfl trivial))) (zc_X9_in x3 (0 : Int32) (1 : Int32) M h24) ?_
      refine zS_if_ne (tgt := 33) dX9_wrongBand_27 (by decide) (fun c27 => ?_) (fun c27 => ?_)
      · rw [if_neg c27] at h
        refine zS_iconst (v := (0 : Int32)) dX9_wrongBand_33 (by decide) ?_
        refine zS_istore (ls' := [some (zO 9), some (zI x1), some (zI x2), some (zI x3), some (zI (0 : Int32))]) dX9_wrongBand_34 (by decide) rfl rfl ?_
        exact zS_wk [some (zO 9), some (zI x1), some (zI x2), none, some (zI (0 : Int32))] (And.intro rfl (And.intro rfl (And.intro rfl (And.intro rfl trivial)))) (zc_X9_wrongBand_36 x1 x2 M 5000 (0 : Int32) r h)
      · rw [if_pos c27] at h
        refine zS_bipush (v := (-3 : Int32)) dX9_wrongBand_30 (by decide) ?_
        cases h
        exact zS_ireturn dX9_wrongBand_32 rfl rfl
def p_X9_band (x1 : Int32) (x2 : Int32) (x3 : Int32) (M : zM) : Option (Int32 × zM) :=
  (p_X9_wrongBand x1 x2 x3 M).bind fun r4 =>
  if r4 = (1 : Int32) then
    (p_X9_findBand x1 x2 M).bind fun M21 =>
    if x3 = 0 then
      some (M21 9 32, M21)
    else
      some ((M21 9 31) + (1000 : Int32), M21)
  else
    some (r4, M)
set_option maxRecDepth 20000 in
set_option maxHeartbeats 4000000 in
theorem zc_X9_band (x1 : Int32) (x2 : Int32) (x3 : Int32) (M : zM) {r : Int32 × zM} (h : p_X9_band x1 x2 x3 M = some r) : zS Y_X9_band 0 [some (zO 9), some (zI x1), some (zI x2), some (zI x3), none] [] M (some r.1, r.2) := by
  rw [p_X9_band] at h
  refine zS_aload_nO dX9_band_0 rfl rfl ?_
  refine zS_iload_n dX9_band_1 rfl rfl ?_
  refine zS_iload_n dX9_band_2 rfl rfl ?_
  refine zS_iload_n dX9_band_3 rfl rfl ?_
  obtain ⟨r4, h4, h⟩ := zbind h
  refine zS_callV (as := [zI x1, zI x2, zI x3]) (st := []) (ls0 := [some (zO 9), some (zI x1), some (zI x2), some (zI x3), none]) dX9_band_4 okY_X9_wrongBand rfl rfl lay_9 rfl zw_413 zw_414 zw_415 np_X9_wrongBand (by decide) (Nat.le_of_ble_eq_true rfl) rfl (Nat.le_of_ble_eq_true rfl) (And.intro rfl (And.intro rfl (And.intro rfl (And.intro rfl trivial)))) (zc_X9_wrongBand x1 x2 x3 M h4) ?_
  refine zS_istore (ls' := [some (zO 9), some (zI x1), some (zI x2), some (zI x3), some (zI r4)]) dX9_band_7 (by decide) rfl rfl ?_
  refine zS_iload dX9_band_9 rfl ?_
  refine zS_iconst (v := (1 : Int32)) dX9_band_11 (by decide) ?_
  refine zS_icmp_eq (tgt := 18) dX9_band_12 (by decide) (fun c12 => ?_) (fun c12 => ?_)
  · rw [if_pos c12] at h
    refine zS_aload_nO dX9_band_18 rfl rfl ?_
    refine zS_iload_n dX9_band_19 rfl rfl ?_
    refine zS_iload_n dX9_band_20 rfl rfl ?_
    obtain ⟨M21, h21, h⟩ := zbind h
    refine zS_callVv (as := [zI x1, zI x2]) (st := []) (ls0 := [some (zO 9), some (zI x1), some (zI x2), none, none, none, none]) dX9_band_21 okY_X9_findBand rfl rfl lay_9 rfl zw_416 zw_417 zw_418 np_X9_findBand (by decide) (Nat.le_of_ble_eq_true rfl) rfl (Nat.le_of_ble_eq_true rfl) (And.intro rfl (And.intro rfl (And.intro rfl trivial))) (zc_X9_findBand x1 x2 M h21) ?_
    refine zS_iload_n dX9_band_24 rfl rfl ?_
    refine zS_if_ne (tgt := 35) dX9_band_25 (by decide) (fun c25 => ?_) (fun c25 => ?_)
    · rw [if_neg c25] at h
      refine zS_aload_nO dX9_band_35 rfl rfl ?_
      refine gf_9_31 dX9_band_36 zw_409 ?_
      refine zS_sipush (v := (1000 : Int32)) dX9_band_39 (by decide) ?_
      refine zS_iadd dX9_band_42 ?_
      cases h
      exact zS_ireturn dX9_band_43 rfl rfl
    · rw [if_pos c25] at h
      refine zS_aload_nO dX9_band_28 rfl rfl ?_
      refine gf_9_32 dX9_band_29 zw_408 ?_
      refine zS_goto (tgt := 43) dX9_band_32 (by decide) ?_
      cases h
      exact zS_ireturn dX9_band_43 rfl rfl
  · rw [if_neg c12] at h
    refine zS_iload dX9_band_15 rfl ?_
    cases h
    exact zS_ireturn dX9_band_17 rfl rfl
def p_X9_begins (x1 : Int32) (x2 : Int32) (x3 : Int32) (M : zM) : Option (Int32 × zM) :=
  (p_X9_isPiper x3).bind fun r1 =>
  if r1 = 0 then
    some ((-2 : Int32), M)
  else
    (p_X9_wrongBand x1 x2 (0 : Int32) M).bind fun r14 =>
    if r14 = (1 : Int32) then
      if ((x1 >>> (x3 &&& 31)) &&& (1 : Int32)) = 0 then
        some ((-1 : Int32), M)
      else
        (p_X9_findBand x1 x2 M).bind fun M41 =>
        (p_X9_longFor x3 x2 (M41 9 31) M41).bind fun r52 =>
        some (x2 - r52, M41)
    else
      some (r14, M)
set_option maxRecDepth 20000 in
set_option maxHeartbeats 4000000 in
theorem zc_X9_begins (x1 : Int32) (x2 : Int32) (x3 : Int32) (M : zM) {r : Int32 × zM} (h : p_X9_begins x1 x2 x3 M = some r) : zS Y_X9_begins 0 [some (zO 9), some (zI x1), some (zI x2), some (zI x3), none] [] M (some r.1, r.2) := by
  rw [p_X9_begins] at h
  refine zS_iload_n dX9_begins_0 rfl rfl ?_
  obtain ⟨r1, h1, h⟩ := zbind h
  refine zS_callS (as := [zI x3]) (st := []) (ls0 := [some (zI x3)]) dX9_begins_1 okY_X9_isPiper rfl rfl zw_394 zw_395 np_X9_isPiper (by decide) (Nat.le_of_ble_eq_true rfl) rfl (Nat.le_of_ble_eq_true rfl) (And.intro rfl trivial) (zc_X9_isPiper x3 M h1) ?_
  refine zS_if_ne (tgt := 10) dX9_begins_4 (by decide) (fun c4 => ?_) (fun c4 => ?_)
  · rw [if_neg c4] at h
    refine zS_aload_nO dX9_begins_10 rfl rfl ?_
    refine zS_iload_n dX9_begins_11 rfl rfl ?_
    refine zS_iload_n dX9_begins_12 rfl rfl ?_
    refine zS_iconst (v := (0 : Int32)) dX9_begins_13 (by decide) ?_
    obtain ⟨r14, h14, h⟩ := zbind h
    refine zS_callV (as := [zI x1, zI x2, zI (0 : Int32)]) (st := []) (ls0 := [some (zO 9), some (zI x1), some (zI x2), some (zI (0 : Int32)), none]) dX9_begins_14 okY_X9_wrongBand rfl rfl lay_9 rfl zw_413 zw_414 zw_415 np_X9_wrongBand (by decide) (Nat.le_of_ble_eq_true rfl) rfl (Nat.le_of_ble_eq_true rfl) (And.intro rfl (And.intro rfl (And.intro rfl (And.intro rfl trivial)))) (zc_X9_wrongBand x1 x2 (0 : Int32) M h14) ?_
    refine zS_istore (ls' := [some (zO 9), some (zI x1), some (zI x2), some (zI x3), some (zI r14)]) dX9_begins_17 (by decide) rfl rfl ?_
    refine zS_iload dX9_begins_19 rfl ?_
    refine zS_iconst (v := (1 : Int32)) dX9_begins_21 (by decide) ?_
    refine zS_icmp_eq (tgt := 28) dX9_begins_22 (by decide) (fun c22 => ?_) (fun c22 => ?_)
    · rw [if_pos c22] at h
      refine zS_iload_n dX9_begins_28 rfl rfl ?_
      refine zS_iload_n dX9_begins_29 rfl rfl ?_
      refine zS_ishr dX9_begins_30 ?_
      refine zS_iconst (v := (1 : Int32)) dX9_begins_31 (by decide) ?_
      refine zS_iand dX9_begins_32 ?_
      refine zS_if_ne (tgt := 38) dX9_begins_33 (by decide) (fun c33 => ?_) (fun c33 => ?_)
      · rw [if_neg c33] at h
        refine zS_aload_nO dX9_begins_38 rfl rfl ?_
        refine zS_iload_n dX9_begins_39 rfl rfl ?_
        refine zS_iload_n dX9_begins_40 rfl rfl ?_
        obtain ⟨M41, h41, h⟩ := zbind h
        refine zS_callVv (as := [zI x1, zI x2]) (st := []) (ls0 := [some (zO 9), some (zI x1), some (zI x2), none, none, none, none]) dX9_begins_41 okY_X9_findBand rfl rfl lay_9 rfl zw_416 zw_417 zw_418 np_X9_findBand (by decide) (Nat.le_of_ble_eq_true rfl) rfl (Nat.le_of_ble_eq_true rfl) (And.intro rfl (And.intro rfl (And.intro rfl trivial))) (zc_X9_findBand x1 x2 M h41) ?_
        refine zS_iload_n dX9_begins_44 rfl rfl ?_
        refine zS_aload_nO dX9_begins_45 rfl rfl ?_
        refine zS_iload_n dX9_begins_46 rfl rfl ?_
        refine zS_iload_n dX9_begins_47 rfl rfl ?_
        refine zS_aload_nO dX9_begins_48 rfl rfl ?_
        refine gf_9_31 dX9_begins_49 zw_409 ?_
        obtain ⟨r52, h52, h⟩ := zbind h
        refine zS_callV (as := [zI x3, zI x2, zI (M41 9 31)]) (st := [zI x2]) (ls0 := [some (zO 9), some (zI x3), some (zI x2), some (zI (M41 9 31)), none]) dX9_begins_52 okY_X9_longFor rfl rfl lay_9 rfl zw_405 zw_406 zw_407 np_X9_longFor (by decide) (Nat.le_of_ble_eq_true rfl) rfl (Nat.le_of_ble_eq_true rfl) (And.intro rfl (And.intro rfl (And.intro rfl (And.intro rfl trivial)))) (zc_X9_longFor x3 x2 (M41 9 31) M41 h52) ?_
        refine zS_isub dX9_begins_55 ?_
        cases h
        exact zS_ireturn dX9_begins_56 rfl rfl
      · rw [if_pos c33] at h
        refine zS_iconst (v := (-1 : Int32)) dX9_begins_36 (by decide) ?_
        cases h
        exact zS_ireturn dX9_begins_37 rfl rfl
    · rw [if_neg c22] at h
      refine zS_iload dX9_begins_25 rfl ?_
      cases h
      exact zS_ireturn dX9_begins_27 rfl rfl
  · rw [if_pos c4] at h
    refine zS_bipush (v := (-2 : Int32)) dX9_begins_7 (by decide) ?_
    cases h
    exact zS_ireturn dX9_begins_9 rfl rfl
def p_X9_tone (x1 : Int32) (x2 : Int32) (M : zM) : Option (Int32 × zM) :=
  (p_X9_isNote x1).bind fun r1 =>
  if r1 = 0 then
    some ((-2 : Int32), M)
  else
    (p_X9_in x2 (-300 : Int32) (300 : Int32)).bind fun r17 =>
    if r17 = 0 then
      some ((-3 : Int32), M)
    else
      if x1 < 0 ∨ 9 ≤ x1.toNatClampNeg then none else
      some ((1 : Int32), zset M 98 x1.toNatClampNeg x2)
set_option maxRecDepth 20000 in
set_option maxHeartbeats 4000000 in
theorem zc_X9_tone (x1 : Int32) (x2 : Int32) (M : zM) {r : Int32 × zM} (h : p_X9_tone x1 x2 M = some r) : zS Y_X9_tone 0 [some (zO 9), some (zI x1), some (zI x2)] [] M (some r.1, r.2) := by
  rw [p_X9_tone] at h
  refine zS_iload_n dX9_tone_0 rfl rfl ?_
  obtain ⟨r1, h1, h⟩ := zbind h
  refine zS_callS (as := [zI x1]) (st := []) (ls0 := [some (zI x1)]) dX9_tone_1 okY_X9_isNote rfl rfl zw_315 zw_316 np_X9_isNote (by decide) (Nat.le_of_ble_eq_true rfl) rfl (Nat.le_of_ble_eq_true rfl) (And.intro rfl trivial) (zc_X9_isNote x1 M h1) ?_
  refine zS_if_ne (tgt := 10) dX9_tone_4 (by decide) (fun c4 => ?_) (fun c4 => ?_)
  · rw [if_neg c4] at h
    refine zS_iload_n dX9_tone_10 rfl rfl ?_
    refine zS_sipush (v := (-300 : Int32)) dX9_tone_11 (by decide) ?_
    refine zS_sipush (v := (300 : Int32)) dX9_tone_14 (by decide) ?_
    obtain ⟨r17, h17, h⟩ := zbind h
    refine zS_callS (as := [zI x2, zI (-300 : Int32), zI (300 : Int32)]) (st := []) (ls0 := [some (zI x2), some (zI (-300 : Int32)), some (zI (300 : Int32))]) dX9_tone_17 okY_X9_in rfl rfl zw_310 zw_311 np_X9_in (by decide) (Nat.le_of_ble_eq_true rfl) rfl (Nat.le_of_ble_eq_true rfl) (And.intro rfl (And.intro rfl (And.intro rfl trivial))) (zc_X9_in x2 (-300 : Int32) (300 : Int32) M h17) ?_
    refine zS_if_ne (tgt := 26) dX9_tone_20 (by decide) (fun c20 => ?_) (fun c20 => ?_)
    · rw [if_neg c20] at h
      refine zS_aload_nO dX9_tone_26 rfl rfl ?_
      refine gf_9_33 dX9_tone_27 zw_419 ?_
      refine zS_iload_n dX9_tone_30 rfl rfl ?_
      refine zS_iload_n dX9_tone_31 rfl rfl ?_
      by_cases b32 : x1 < 0 ∨ 9 ≤ x1.toNatClampNeg
      · rw [if_pos b32] at h; cases h
      rw [if_neg b32] at h
      refine zS_iast b32 dX9_tone_32 ?_
      refine zS_iconst (v := (1 : Int32)) dX9_tone_33 (by decide) ?_
      cases h
      exact zS_ireturn dX9_tone_34 rfl rfl
    · rw [if_pos c20] at h
      refine zS_bipush (v := (-3 : Int32)) dX9_tone_23 (by decide) ?_
      cases h
      exact zS_ireturn dX9_tone_25 rfl rfl
  · rw [if_pos c4] at h
    refine zS_bipush (v := (-2 : Int32)) dX9_tone_7 (by decide) ?_
    cases h
    exact zS_ireturn dX9_tone_9 rfl rfl
def p_X9_harshOf_5 (x1 : Int32) (x2 : Int32) (M : zM) : Nat → Int32 → Int32 → Option (Int32)
  | 0, _, _ => none
  | nn + 1, x3, x4 =>
  if (9 : Int32) ≤ x4 then
    some x3
  else
    if x4 < 0 ∨ 9 ≤ x4.toNatClampNeg then none else
    if 0 ≤ (((M 98 x4.toNatClampNeg) + x2) - x1) then
      p_X9_harshOf_5 x1 x2 M nn (x3 + (((M 98 x4.toNatClampNeg) + x2) - x1)) (x4 + (1 : Int32))
    else
      p_X9_harshOf_5 x1 x2 M nn (x3 + (-(((M 98 x4.toNatClampNeg) + x2) - x1))) (x4 + (1 : Int32))
set_option maxRecDepth 20000 in
set_option maxHeartbeats 4000000 in
theorem zc_X9_harshOf_5 (x1 : Int32) (x2 : Int32) (M : zM) : ∀ (nn : Nat) (x3 : Int32) (x4 : Int32) (r : Int32), p_X9_harshOf_5 x1 x2 M nn x3 x4 = some r → zS Y_X9_harshOf 5 [some (zO 9), some (zI x1), some (zI x2), some (zI x3), some (zI x4), none] [] M (some r, M) := by
  intro nn
  induction nn with
  | zero => intro x3 x4 r h; cases h
  | succ nn ih =>
  intro x3 x4 r h
  rw [p_X9_harshOf_5] at h
  refine zS_iload dX9_harshOf_5 rfl ?_
  refine zS_bipush (v := (9 : Int32)) dX9_harshOf_7 (by decide) ?_
  refine zS_icmp_ge (tgt := 47) dX9_harshOf_9 (by decide) (fun c9 => ?_) (fun c9 => ?_)
  · rw [if_pos c9] at h
    refine zS_iload_n dX9_harshOf_47 rfl rfl ?_
    cases h
    exact zS_ireturn dX9_harshOf_48 rfl rfl
  · rw [if_neg c9] at h
    refine zS_aload_nO dX9_harshOf_12 rfl rfl ?_
    refine gf_9_33 dX9_harshOf_13 zw_419 ?_
    refine zS_iload dX9_harshOf_16 rfl ?_
    by_cases b18 : x4 < 0 ∨ 9 ≤ x4.toNatClampNeg
    · rw [if_pos b18] at h; cases h
    rw [if_neg b18] at h
    refine zS_iald b18 dX9_harshOf_18 ?_
    refine zS_iload_n dX9_harshOf_19 rfl rfl ?_
    refine zS_iadd dX9_harshOf_20 ?_
    refine zS_iload_n dX9_harshOf_21 rfl rfl ?_
    refine zS_isub dX9_harshOf_22 ?_
    refine zS_istore (ls' := [some (zO 9), some (zI x1), some (zI x2), some (zI x3), some (zI x4), some (zI (((M 98 x4.toNatClampNeg) + x2) - x1))]) dX9_harshOf_23 (by decide) rfl rfl ?_
    refine zS_iload_n dX9_harshOf_25 rfl rfl ?_
    refine zS_iload dX9_harshOf_26 rfl ?_
    refine zS_if_ge (tgt := 37) dX9_harshOf_28 (by decide) (fun c28 => ?_) (fun c28 => ?_)
    · rw [if_pos c28] at h
      refine zS_iload dX9_harshOf_37 rfl ?_
      refine zS_iadd dX9_harshOf_39 ?_
      refine zS_istore_n (ls' := [some (zO 9), some (zI x1), some (zI x2), some (zI (x3 + (((M 98 x4.toNatClampNeg) + x2) - x1))), some (zI x4), some (zI (((M 98 x4.toNatClampNeg) + x2) - x1))]) dX9_harshOf_40 rfl (by decide) rfl rfl ?_
      refine zS_iinc (v := x4 + (1 : Int32)) (ls' := [some (zO 9), some (zI x1), some (zI x2), some (zI (x3 + (((M 98 x4.toNatClampNeg) + x2) - x1))), some (zI (x4 + (1 : Int32))), some (zI (((M 98 x4.toNatClampNeg) + x2) - x1))]) dX9_harshOf_41 rfl rfl (by decide) rfl rfl ?_
      refine zS_goto (tgt := 5) dX9_harshOf_44 (by decide) ?_
      exact zS_wk [some (zO 9), some (zI x1), some (zI x2), some (zI (x3 + (((M 98 x4.toNatClampNeg) + x2) - x1))), some (zI (x4 + (1 : Int32))), none] (And.intro rfl (And.intro rfl (And.intro rfl (And.intro rfl (And.intro rfl trivial))))) (ih (x3 + (((M 98 x4.toNatClampNeg) + x2) - x1)) (x4 + (1 : Int32)) r h)
    · rw [if_neg c28] at h
      refine zS_iload dX9_harshOf_31 rfl ?_
      refine zS_ineg dX9_harshOf_33 ?_
      refine zS_goto (tgt := 39) dX9_harshOf_34 (by decide) ?_
      refine zS_iadd dX9_harshOf_39 ?_
      refine zS_istore_n (ls' := [some (zO 9), some (zI x1), some (zI x2), some (zI (x3 + (-(((M 98 x4.toNatClampNeg) + x2) - x1)))), some (zI x4), some (zI (((M 98 x4.toNatClampNeg) + x2) - x1))]) dX9_harshOf_40 rfl (by decide) rfl rfl ?_
      refine zS_iinc (v := x4 + (1 : Int32)) (ls' := [some (zO 9), some (zI x1), some (zI x2), some (zI (x3 + (-(((M 98 x4.toNatClampNeg) + x2) - x1)))), some (zI (x4 + (1 : Int32))), some (zI (((M 98 x4.toNatClampNeg) + x2) - x1))]) dX9_harshOf_41 rfl rfl (by decide) rfl rfl ?_
      refine zS_goto (tgt := 5) dX9_harshOf_44 (by decide) ?_
      exact zS_wk [some (zO 9), some (zI x1), some (zI x2), some (zI (x3 + (-(((M 98 x4.toNatClampNeg) + x2) - x1)))), some (zI (x4 + (1 : Int32))), none] (And.intro rfl (And.intro rfl (And.intro rfl (And.intro rfl (And.intro rfl trivial))))) (ih (x3 + (-(((M 98 x4.toNatClampNeg) + x2) - x1))) (x4 + (1 : Int32)) r h)
def p_X9_harshOf (x1 : Int32) (x2 : Int32) (M : zM) : Option (Int32) :=
  p_X9_harshOf_5 x1 x2 M 5000 (0 : Int32) (0 : Int32)
set_option maxRecDepth 20000 in
set_option maxHeartbeats 4000000 in
theorem zc_X9_harshOf (x1 : Int32) (x2 : Int32) (M : zM) {r : Int32} (h : p_X9_harshOf x1 x2 M = some r) : zS Y_X9_harshOf 0 [some (zO 9), some (zI x1), some (zI x2), none, none, none] [] M (some r, M) := by
  rw [p_X9_harshOf] at h
  refine zS_iconst (v := (0 : Int32)) dX9_harshOf_0 (by decide) ?_
  refine zS_istore_n (ls' := [some (zO 9), some (zI x1), some (zI x2), some (zI (0 : Int32)), none, none]) dX9_harshOf_1 rfl (by decide) rfl rfl ?_
  refine zS_iconst (v := (0 : Int32)) dX9_harshOf_2 (by decide) ?_
  refine zS_istore (ls' := [some (zO 9), some (zI x1), some (zI x2), some (zI (0 : Int32)), some (zI (0 : Int32)), none]) dX9_harshOf_3 (by decide) rfl rfl ?_
  exact zS_wk [some (zO 9), some (zI x1), some (zI x2), some (zI (0 : Int32)), some (zI (0 : Int32)), none] (And.intro rfl (And.intro rfl (And.intro rfl (And.intro rfl (And.intro rfl trivial))))) (zc_X9_harshOf_5 x1 x2 M 5000 (0 : Int32) (0 : Int32) r h)
def p_X9_harsh (x1 : Int32) (x2 : Int32) (M : zM) : Option (Int32) :=
  (p_X9_in x1 (-999 : Int32) (999 : Int32)).bind fun r7 =>
  if r7 = 0 then
    some (-3 : Int32)
  else
    (p_X9_in x2 (-999 : Int32) (999 : Int32)).bind fun r20 =>
    if r20 = 0 then
      some (-3 : Int32)
    else
      (p_X9_harshOf x1 x2 M).bind fun r29 =>
      some r29
set_option maxRecDepth 20000 in
set_option maxHeartbeats 4000000 in
theorem zc_X9_harsh (x1 : Int32) (x2 : Int32) (M : zM) {r : Int32} (h : p_X9_harsh x1 x2 M = some r) : zS Y_X9_harsh 0 [some (zO 9), some (zI x1), some (zI x2)] [] M (some r, M) := by
  rw [p_X9_harsh] at h
  refine zS_iload_n dX9_harsh_0 rfl rfl ?_
  refine zS_sipush (v := (-999 : Int32)) dX9_harsh_1 (by decide) ?_
  refine zS_sipush (v := (999 : Int32)) dX9_harsh_4 (by decide) ?_
  obtain ⟨r7, h7, h⟩ := zbind h
  refine zS_callS (as := [zI x1, zI (-999 : Int32), zI (999 : Int32)]) (st := []) (ls0 := [some (zI x1), some (zI (-999 : Int32)), some (zI (999 : Int32))]) dX9_harsh_7 okY_X9_in rfl rfl zw_310 zw_311 np_X9_in (by decide) (Nat.le_of_ble_eq_true rfl) rfl (Nat.le_of_ble_eq_true rfl) (And.intro rfl (And.intro rfl (And.intro rfl trivial))) (zc_X9_in x1 (-999 : Int32) (999 : Int32) M h7) ?_
  refine zS_if_eq (tgt := 35) dX9_harsh_10 (by decide) (fun c10 => ?_) (fun c10 => ?_)
  · rw [if_pos c10] at h
    refine zS_bipush (v := (-3 : Int32)) dX9_harsh_35 (by decide) ?_
    cases h
    exact zS_ireturn dX9_harsh_37 rfl rfl
  · rw [if_neg c10] at h
    refine zS_iload_n dX9_harsh_13 rfl rfl ?_
    refine zS_sipush (v := (-999 : Int32)) dX9_harsh_14 (by decide) ?_
    refine zS_sipush (v := (999 : Int32)) dX9_harsh_17 (by decide) ?_
    obtain ⟨r20, h20, h⟩ := zbind h
    refine zS_callS (as := [zI x2, zI (-999 : Int32), zI (999 : Int32)]) (st := []) (ls0 := [some (zI x2), some (zI (-999 : Int32)), some (zI (999 : Int32))]) dX9_harsh_20 okY_X9_in rfl rfl zw_310 zw_311 np_X9_in (by decide) (Nat.le_of_ble_eq_true rfl) rfl (Nat.le_of_ble_eq_true rfl) (And.intro rfl (And.intro rfl (And.intro rfl trivial))) (zc_X9_in x2 (-999 : Int32) (999 : Int32) M h20) ?_
    refine zS_if_eq (tgt := 35) dX9_harsh_23 (by decide) (fun c23 => ?_) (fun c23 => ?_)
    · rw [if_pos c23] at h
      refine zS_bipush (v := (-3 : Int32)) dX9_harsh_35 (by decide) ?_
      cases h
      exact zS_ireturn dX9_harsh_37 rfl rfl
    · rw [if_neg c23] at h
      refine zS_aload_nO dX9_harsh_26 rfl rfl ?_
      refine zS_iload_n dX9_harsh_27 rfl rfl ?_
      refine zS_iload_n dX9_harsh_28 rfl rfl ?_
      obtain ⟨r29, h29, h⟩ := zbind h
      refine zS_callV (as := [zI x1, zI x2]) (st := []) (ls0 := [some (zO 9), some (zI x1), some (zI x2), none, none, none]) dX9_harsh_29 okY_X9_harshOf rfl rfl lay_9 rfl zw_420 zw_421 zw_422 np_X9_harshOf (by decide) (Nat.le_of_ble_eq_true rfl) rfl (Nat.le_of_ble_eq_true rfl) (And.intro rfl (And.intro rfl (And.intro rfl trivial))) (zc_X9_harshOf x1 x2 M h29) ?_
      refine zS_goto (tgt := 37) dX9_harsh_32 (by decide) ?_
      cases h
      exact zS_ireturn dX9_harsh_37 rfl rfl
def p_X9_set_24 (x1 : Int32) (M : zM) : Nat → Int32 → Int32 → Option (Int32)
  | 0, _, _ => none
  | nn + 1, x2, x3 =>
  if (999 : Int32) < x3 then
    some x2
  else
    (p_X9_harshOf x3 x1 M).bind fun r34 =>
    (p_X9_harshOf x2 x1 M).bind fun r40 =>
    if r40 ≤ r34 then
      p_X9_set_24 x1 M nn x2 (x3 + (1 : Int32))
    else
      p_X9_set_24 x1 M nn x3 (x3 + (1 : Int32))
set_option maxRecDepth 20000 in
set_option maxHeartbeats 4000000 in
theorem zc_X9_set_24 (x1 : Int32) (M : zM) : ∀ (nn : Nat) (x2 : Int32) (x3 : Int32) (r : Int32), p_X9_set_24 x1 M nn x2 x3 = some r → zS Y_X9_set 24 [some (zO 9), some (zI x1), some (zI x2), some (zI x3)] [] M (some r, M) := by
  intro nn
  induction nn with
  | zero => intro x2 x3 r h; cases h
  | succ nn ih =>
  intro x2 x3 r h
  rw [p_X9_set_24] at h
  refine zS_iload_n dX9_set_24 rfl rfl ?_
  refine zS_sipush (v := (999 : Int32)) dX9_set_25 (by decide) ?_
  refine zS_icmp_gt (tgt := 58) dX9_set_28 (by decide) (fun c28 => ?_) (fun c28 => ?_)
  · rw [if_pos c28] at h
    refine zS_iload_n dX9_set_58 rfl rfl ?_
    cases h
    exact zS_ireturn dX9_set_59 rfl rfl
  · rw [if_neg c28] at h
    refine zS_aload_nO dX9_set_31 rfl rfl ?_
    refine zS_iload_n dX9_set_32 rfl rfl ?_
    refine zS_iload_n dX9_set_33 rfl rfl ?_
    obtain ⟨r34, h34, h⟩ := zbind h
    refine zS_callV (as := [zI x3, zI x1]) (st := []) (ls0 := [some (zO 9), some (zI x3), some (zI x1), none, none, none]) dX9_set_34 okY_X9_harshOf rfl rfl lay_9 rfl zw_420 zw_421 zw_422 np_X9_harshOf (by decide) (Nat.le_of_ble_eq_true rfl) rfl (Nat.le_of_ble_eq_true rfl) (And.intro rfl (And.intro rfl (And.intro rfl trivial))) (zc_X9_harshOf x3 x1 M h34) ?_
    refine zS_aload_nO dX9_set_37 rfl rfl ?_
    refine zS_iload_n dX9_set_38 rfl rfl ?_
    refine zS_iload_n dX9_set_39 rfl rfl ?_
    obtain ⟨r40, h40, h⟩ := zbind h
    refine zS_callV (as := [zI x2, zI x1]) (st := [zI r34]) (ls0 := [some (zO 9), some (zI x2), some (zI x1), none, none, none]) dX9_set_40 okY_X9_harshOf rfl rfl lay_9 rfl zw_420 zw_421 zw_422 np_X9_harshOf (by decide) (Nat.le_of_ble_eq_true rfl) rfl (Nat.le_of_ble_eq_true rfl) (And.intro rfl (And.intro rfl (And.intro rfl trivial))) (zc_X9_harshOf x2 x1 M h40) ?_
    refine zS_icmp_ge (tgt := 50) dX9_set_43 (by decide) (fun c43 => ?_) (fun c43 => ?_)
    · rw [if_pos c43] at h
      refine zS_iload_n dX9_set_50 rfl rfl ?_
      refine zS_istore_n (ls' := [some (zO 9), some (zI x1), some (zI x2), some (zI x3)]) dX9_set_51 rfl (by decide) rfl rfl ?_
      refine zS_iinc (v := x3 + (1 : Int32)) (ls' := [some (zO 9), some (zI x1), some (zI x2), some (zI (x3 + (1 : Int32)))]) dX9_set_52 rfl rfl (by decide) rfl rfl ?_
      refine zS_goto (tgt := 24) dX9_set_55 (by decide) ?_
      exact zS_wk [some (zO 9), some (zI x1), some (zI x2), some (zI (x3 + (1 : Int32)))] (And.intro rfl (And.intro rfl (And.intro rfl (And.intro rfl trivial)))) (ih x2 (x3 + (1 : Int32)) r h)
    · rw [if_neg c43] at h
      refine zS_iload_n dX9_set_46 rfl rfl ?_
      refine zS_goto (tgt := 51) dX9_set_47 (by decide) ?_
      refine zS_istore_n (ls' := [some (zO 9), some (zI x1), some (zI x3), some (zI x3)]) dX9_set_51 rfl (by decide) rfl rfl ?_
      refine zS_iinc (v := x3 + (1 : Int32)) (ls' := [some (zO 9), some (zI x1), some (zI x3), some (zI (x3 + (1 : Int32)))]) dX9_set_52 rfl rfl (by decide) rfl rfl ?_
      refine zS_goto (tgt := 24) dX9_set_55 (by decide) ?_
      exact zS_wk [some (zO 9), some (zI x1), some (zI x3), some (zI (x3 + (1 : Int32)))] (And.intro rfl (And.intro rfl (And.intro rfl (And.intro rfl trivial)))) (ih x3 (x3 + (1 : Int32)) r h)
def p_X9_set (x1 : Int32) (M : zM) : Option (Int32) :=
  (p_X9_in x1 (-999 : Int32) (999 : Int32)).bind fun r7 =>
  if r7 = 0 then
    some (-2147483648 : Int32)
  else
    p_X9_set_24 x1 M 5000 (-999 : Int32) (-998 : Int32)
set_option maxRecDepth 20000 in
set_option maxHeartbeats 4000000 in
theorem zc_X9_set (x1 : Int32) (M : zM) {r : Int32} (h : p_X9_set x1 M = some r) : zS Y_X9_set 0 [some (zO 9), some (zI x1), none, none] [] M (some r, M) := by
  rw [p_X9_set] at h
  refine zS_iload_n dX9_set_0 rfl rfl ?_
  refine zS_sipush (v := (-999 : Int32)) dX9_set_1 (by decide) ?_
  refine zS_sipush (v := (999 : Int32)) dX9_set_4 (by decide) ?_
  obtain ⟨r7, h7, h⟩ := zbind h
  refine zS_callS (as := [zI x1, zI (-999 : Int32), zI (999 : Int32)]) (st := []) (ls0 := [some (zI x1), some (zI (-999 : Int32)), some (zI (999 : Int32))]) dX9_set_7 okY_X9_in rfl rfl zw_310 zw_311 np_X9_in (by decide) (Nat.le_of_ble_eq_true rfl) rfl (Nat.le_of_ble_eq_true rfl) (And.intro rfl (And.intro rfl (And.intro rfl trivial))) (zc_X9_in x1 (-999 : Int32) (999 : Int32) M h7) ?_
  refine zS_if_ne (tgt := 16) dX9_set_10 (by decide) (fun c10 => ?_) (fun c10 => ?_)
  · rw [if_neg c10] at h
    refine zS_sipush (v := (-999 : Int32)) dX9_set_16 (by decide) ?_
    refine zS_istore_n (ls' := [some (zO 9), some (zI x1), some (zI (-999 : Int32)), none]) dX9_set_19 rfl (by decide) rfl rfl ?_
    refine zS_sipush (v := (-998 : Int32)) dX9_set_20 (by decide) ?_
    refine zS_istore_n (ls' := [some (zO 9), some (zI x1), some (zI (-999 : Int32)), some (zI (-998 : Int32))]) dX9_set_23 rfl (by decide) rfl rfl ?_
    exact zS_wk [some (zO 9), some (zI x1), some (zI (-999 : Int32)), some (zI (-998 : Int32))] (And.intro rfl (And.intro rfl (And.intro rfl (And.intro rfl trivial)))) (zc_X9_set_24 x1 M 5000 (-999 : Int32) (-998 : Int32) r h)
  · rw [if_pos c10] at h
    refine zS_ldc (v := (-2147483648 : Int32)) dX9_set_13 zw_401 ?_
    cases h
    exact zS_ireturn dX9_set_15 rfl rfl
def p_X9_count_43 (M : zM) : Nat → Int32 → Int32 → Option (Int32)
  | 0, _, _ => none
  | nn + 1, x2, x3 =>
  if (M 9 5) ≤ x3 then
    some x2
  else
    if x3 < 0 ∨ 24 ≤ x3.toNatClampNeg then none else
    if (M 81 x3.toNatClampNeg) = (-1 : Int32) then
      p_X9_count_43 M nn (x2 + (1 : Int32)) (x3 + (1 : Int32))
    else
      p_X9_count_43 M nn (x2 + (0 : Int32)) (x3 + (1 : Int32))
set_option maxRecDepth 20000 in
set_option maxHeartbeats 4000000 in
theorem zc_X9_count_43 (M : zM) : ∀ (nn : Nat) (x2 : Int32) (x3 : Int32) (r : Int32), p_X9_count_43 M nn x2 x3 = some r → zS Y_X9_count 43 [some (zO 9), none, some (zI x2), some (zI x3)] [] M (some r, M) := by
  intro nn
  induction nn with
  | zero => intro x2 x3 r h; cases h
  | succ nn ih =>
  intro x2 x3 r h
  rw [p_X9_count_43] at h
  refine zS_iload_n dX9_count_43 rfl rfl ?_
  refine zS_aload_nO dX9_count_44 rfl rfl ?_
  refine gf_9_5 dX9_count_45 zw_325 ?_
  refine zS_icmp_ge (tgt := 75) dX9_count_48 (by decide) (fun c48 => ?_) (fun c48 => ?_)
  · rw [if_pos c48] at h
    refine zS_iload_n dX9_count_75 rfl rfl ?_
    cases h
    exact zS_ireturn dX9_count_76 rfl rfl
  · rw [if_neg c48] at h
    refine zS_iload_n dX9_count_51 rfl rfl ?_
    refine zS_aload_nO dX9_count_52 rfl rfl ?_
    refine gf_9_8 dX9_count_53 zw_328 ?_
    refine zS_iload_n dX9_count_56 rfl rfl ?_
    by_cases b57 : x3 < 0 ∨ 24 ≤ x3.toNatClampNeg
    · rw [if_pos b57] at h; cases h
    rw [if_neg b57] at h
    refine zS_iald b57 dX9_count_57 ?_
    refine zS_iconst (v := (-1 : Int32)) dX9_count_58 (by decide) ?_
    refine zS_icmp_ne (tgt := 66) dX9_count_59 (by decide) (fun c59 => ?_) (fun c59 => ?_)
    · rw [if_neg c59] at h
      refine zS_iconst (v := (0 : Int32)) dX9_count_66 (by decide) ?_
      refine zS_iadd dX9_count_67 ?_
      refine zS_istore_n (ls' := [some (zO 9), none, some (zI (x2 + (0 : Int32))), some (zI x3)]) dX9_count_68 rfl (by decide) rfl rfl ?_
      refine zS_iinc (v := x3 + (1 : Int32)) (ls' := [some (zO 9), none, some (zI (x2 + (0 : Int32))), some (zI (x3 + (1 : Int32)))]) dX9_count_69 rfl rfl (by decide) rfl rfl ?_
      refine zS_goto (tgt := 43) dX9_count_72 (by decide) ?_
      exact zS_wk [some (zO 9), none, some (zI (x2 + (0 : Int32))), some (zI (x3 + (1 : Int32)))] (And.intro rfl (And.intro rfl (And.intro rfl trivial))) (ih (x2 + (0 : Int32)) (x3 + (1 : Int32)) r h)
    · rw [if_pos c59] at h
      refine zS_iconst (v := (1 : Int32)) dX9_count_62 (by decide) ?_
      refine zS_goto (tgt := 67) dX9_count_63 (by decide) ?_
      refine zS_iadd dX9_count_67 ?_
      refine zS_istore_n (ls' := [some (zO 9), none, some (zI (x2 + (1 : Int32))), some (zI x3)]) dX9_count_68 rfl (by decide) rfl rfl ?_
      refine zS_iinc (v := x3 + (1 : Int32)) (ls' := [some (zO 9), none, some (zI (x2 + (1 : Int32))), some (zI (x3 + (1 : Int32)))]) dX9_count_69 rfl rfl (by decide) rfl rfl ?_
      refine zS_goto (tgt := 43) dX9_count_72 (by decide) ?_
      exact zS_wk [some (zO 9), none, some (zI (x2 + (1 : Int32))), some (zI (x3 + (1 : Int32)))] (And.intro rfl (And.intro rfl (And.intro rfl trivial))) (ih (x2 + (1 : Int32)) (x3 + (1 : Int32)) r h)
def p_X9_count (x1 : Int32) (M : zM) : Option (Int32) :=
  if x1 = 0 then
    some (M 9 5)
  else
  if x1 = 1 then
    p_X9_count_43 M 5000 (0 : Int32) (0 : Int32)
  else
  if x1 = 2 then
    some (M 9 11)
  else
  if x1 = 3 then
    some (M 9 16)
  else
  if x1 = 4 then
    some (M 9 18)
  else
  some (-3 : Int32)
set_option maxRecDepth 20000 in
set_option maxHeartbeats 4000000 in
theorem zc_X9_count (x1 : Int32) (M : zM) {r : Int32} (h : p_X9_count x1 M = some r) : zS Y_X9_count 0 [some (zO 9), some (zI x1), none, none] [] M (some r, M) := by
  rw [p_X9_count] at h
  refine zS_iconst (v := (0 : Int32)) dX9_count_0 (by decide) ?_
  refine zS_istore_n (ls' := [some (zO 9), some (zI x1), some (zI (0 : Int32)), none]) dX9_count_1 rfl (by decide) rfl rfl ?_
  refine zS_iload_n dX9_count_2 rfl rfl ?_
  by_cases w0 : x1 = 0
  · rw [if_pos w0] at h
    refine zS_tswI (tgt := 36) dX9_count_3 (by rw [w0]; decide) (by rw [w0]; decide) (by rw [w0]; rfl) (by decide) ?_
    refine zS_aload_nO dX9_count_36 rfl rfl ?_
    refine gf_9_5 dX9_count_37 zw_325 ?_
    cases h
    exact zS_ireturn dX9_count_40 rfl rfl
  rw [if_neg w0] at h
  by_cases w1 : x1 = 1
  · rw [if_pos w1] at h
    refine zS_tswI (tgt := 41) dX9_count_3 (by rw [w1]; decide) (by rw [w1]; decide) (by rw [w1]; rfl) (by decide) ?_
    refine zS_iconst (v := (0 : Int32)) dX9_count_41 (by decide) ?_
    refine zS_istore_n (ls' := [some (zO 9), some (zI x1), some (zI (0 : Int32)), some (zI (0 : Int32))]) dX9_count_42 rfl (by decide) rfl rfl ?_
    exact zS_wk [some (zO 9), none, some (zI (0 : Int32)), some (zI (0 : Int32))] (And.intro rfl (And.intro rfl (And.intro rfl trivial))) (zc_X9_count_43 M 5000 (0 : Int32) (0 : Int32) r h)
  rw [if_neg w1] at h
  by_cases w2 : x1 = 2
  · rw [if_pos w2] at h
    refine zS_tswI (tgt := 77) dX9_count_3 (by rw [w2]; decide) (by rw [w2]; decide) (by rw [w2]; rfl) (by decide) ?_
    refine zS_aload_nO dX9_count_77 rfl rfl ?_
    refine gf_9_11 dX9_count_78 zw_346 ?_
    cases h
    exact zS_ireturn dX9_count_81 rfl rfl
  rw [if_neg w2] at h
  by_cases w3 : x1 = 3
  · rw [if_pos w3] at h
    refine zS_tswI (tgt := 82) dX9_count_3 (by rw [w3]; decide) (by rw [w3]; decide) (by rw [w3]; rfl) (by decide) ?_
    refine zS_aload_nO dX9_count_82 rfl rfl ?_
    refine gf_9_16 dX9_count_83 zw_363 ?_
    cases h
    exact zS_ireturn dX9_count_86 rfl rfl
  rw [if_neg w3] at h
  by_cases w4 : x1 = 4
  · rw [if_pos w4] at h
    refine zS_tswI (tgt := 87) dX9_count_3 (by rw [w4]; decide) (by rw [w4]; decide) (by rw [w4]; rfl) (by decide) ?_
    refine zS_aload_nO dX9_count_87 rfl rfl ?_
    refine gf_9_18 dX9_count_88 zw_358 ?_
    cases h
    exact zS_ireturn dX9_count_91 rfl rfl
  rw [if_neg w4] at h
  refine zS_tswO (tgt := 92) dX9_count_3 (zsw5 w0 w1 w2 w3 w4) (by decide) ?_
  refine zS_bipush (v := (-3 : Int32)) dX9_count_92 (by decide) ?_
  cases h
  exact zS_ireturn dX9_count_94 rfl rfl
