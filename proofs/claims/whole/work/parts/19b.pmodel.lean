def p_X9_region_93 (x1 : Int32) (x2 : Int32) (x3 : Int32) (x4 : Int32) (t0 : Int32) (M : zM) : Option (Int32 × zM) :=
  if x2 = 0 then
    if ((8 : Int32) * x1) + x3 < 0 ∨ 24 ≤ (((8 : Int32) * x1) + x3).toNatClampNeg then none else
    some (t0, zset M 82 ((((8 : Int32) * x1) + x3).toNatClampNeg) x4)
  else
    if ((9 : Int32) * x1) + x3 < 0 ∨ 27 ≤ (((9 : Int32) * x1) + x3).toNatClampNeg then none else
    some (t0, zset M 83 ((((9 : Int32) * x1) + x3).toNatClampNeg) x4)
set_option maxRecDepth 20000 in
set_option maxHeartbeats 4000000 in
theorem zc_X9_region_93 (x1 : Int32) (x2 : Int32) (x3 : Int32) (x4 : Int32) (t0 : Int32) (M : zM) {r : Int32 × zM} (h : p_X9_region_93 x1 x2 x3 x4 t0 M = some r) : zS Y_X9_region 93 [some (zO 9), some (zI x1), some (zI x2), some (zI x3), some (zI x4), none] [zI t0] M (some r.1, r.2) := by
  rw [p_X9_region_93] at h
  refine zS_istore (ls' := [some (zO 9), some (zI x1), some (zI x2), some (zI x3), some (zI x4), some (zI t0)]) dX9_region_93 (by decide) rfl rfl ?_
  refine zS_iload_n dX9_region_95 rfl rfl ?_
  refine zS_if_ne (tgt := 115) dX9_region_96 (by decide) (fun c96 => ?_) (fun c96 => ?_)
  · rw [if_neg c96] at h
    refine zS_aload_nO dX9_region_115 rfl rfl ?_
    refine gf_9_10 dX9_region_116 zw_342 ?_
    refine zS_bipush (v := (9 : Int32)) dX9_region_119 (by decide) ?_
    refine zS_iload_n dX9_region_121 rfl rfl ?_
    refine zS_imul dX9_region_122 ?_
    refine zS_iload_n dX9_region_123 rfl rfl ?_
    refine zS_iadd dX9_region_124 ?_
    refine zS_iload dX9_region_125 rfl ?_
    by_cases b127 : ((9 : Int32) * x1) + x3 < 0 ∨ 27 ≤ (((9 : Int32) * x1) + x3).toNatClampNeg
    · rw [if_pos b127] at h; cases h
    rw [if_neg b127] at h
    refine zS_iast b127 dX9_region_127 ?_
    refine zS_iload dX9_region_128 rfl ?_
    cases h
    exact zS_ireturn dX9_region_130 rfl rfl
  · rw [if_pos c96] at h
    refine zS_aload_nO dX9_region_99 rfl rfl ?_
    refine gf_9_9 dX9_region_100 zw_343 ?_
    refine zS_bipush (v := (8 : Int32)) dX9_region_103 (by decide) ?_
    refine zS_iload_n dX9_region_105 rfl rfl ?_
    refine zS_imul dX9_region_106 ?_
    refine zS_iload_n dX9_region_107 rfl rfl ?_
    refine zS_iadd dX9_region_108 ?_
    refine zS_iload dX9_region_109 rfl ?_
    by_cases b111 : ((8 : Int32) * x1) + x3 < 0 ∨ 24 ≤ (((8 : Int32) * x1) + x3).toNatClampNeg
    · rw [if_pos b111] at h; cases h
    rw [if_neg b111] at h
    refine zS_iast b111 dX9_region_111 ?_
    refine zS_goto (tgt := 128) dX9_region_112 (by decide) ?_
    refine zS_iload dX9_region_128 rfl ?_
    cases h
    exact zS_ireturn dX9_region_130 rfl rfl
def p_X9_region_55 (x1 : Int32) (x2 : Int32) (x3 : Int32) (x4 : Int32) (t2 : Int32) (t1 : Int32) (t0 : Int32) (M : zM) : Option (Int32 × zM) :=
  (p_X9_in t0 t1 t2).bind fun r55 =>
  if r55 = 0 then
    some ((-3 : Int32), M)
  else
    if x2 = 0 then
      if ((8 : Int32) * x1) + x3 < 0 ∨ 24 ≤ (((8 : Int32) * x1) + x3).toNatClampNeg then none else
      p_X9_region_93 x1 x2 x3 x4 (M 82 (((8 : Int32) * x1) + x3).toNatClampNeg) M
    else
      if ((9 : Int32) * x1) + x3 < 0 ∨ 27 ≤ (((9 : Int32) * x1) + x3).toNatClampNeg then none else
      p_X9_region_93 x1 x2 x3 x4 (M 83 (((9 : Int32) * x1) + x3).toNatClampNeg) M
set_option maxRecDepth 20000 in
set_option maxHeartbeats 4000000 in
theorem zc_X9_region_55 (x1 : Int32) (x2 : Int32) (x3 : Int32) (x4 : Int32) (t2 : Int32) (t1 : Int32) (t0 : Int32) (M : zM) {r : Int32 × zM} (h : p_X9_region_55 x1 x2 x3 x4 t2 t1 t0 M = some r) : zS Y_X9_region 55 [some (zO 9), some (zI x1), some (zI x2), some (zI x3), some (zI x4), none] [zI t2, zI t1, zI t0] M (some r.1, r.2) := by
  rw [p_X9_region_55] at h
  obtain ⟨r55, h55, h⟩ := zbind h
  refine zS_callS (as := [zI t0, zI t1, zI t2]) (st := []) (ls0 := [some (zI t0), some (zI t1), some (zI t2)]) dX9_region_55 okY_X9_in rfl rfl zw_310 zw_311 np_X9_in (by decide) (Nat.le_of_ble_eq_true rfl) rfl (Nat.le_of_ble_eq_true rfl) (And.intro rfl (And.intro rfl (And.intro rfl trivial))) (zc_X9_in t0 t1 t2 M h55) ?_
  refine zS_if_ne (tgt := 64) dX9_region_58 (by decide) (fun c58 => ?_) (fun c58 => ?_)
  · rw [if_neg c58] at h
    refine zS_iload_n dX9_region_64 rfl rfl ?_
    refine zS_if_ne (tgt := 82) dX9_region_65 (by decide) (fun c65 => ?_) (fun c65 => ?_)
    · rw [if_neg c65] at h
      refine zS_aload_nO dX9_region_82 rfl rfl ?_
      refine gf_9_10 dX9_region_83 zw_342 ?_
      refine zS_bipush (v := (9 : Int32)) dX9_region_86 (by decide) ?_
      refine zS_iload_n dX9_region_88 rfl rfl ?_
      refine zS_imul dX9_region_89 ?_
      refine zS_iload_n dX9_region_90 rfl rfl ?_
      refine zS_iadd dX9_region_91 ?_
      by_cases b92 : ((9 : Int32) * x1) + x3 < 0 ∨ 27 ≤ (((9 : Int32) * x1) + x3).toNatClampNeg
      · rw [if_pos b92] at h; cases h
      rw [if_neg b92] at h
      refine zS_iald b92 dX9_region_92 ?_
      exact zS_wk [some (zO 9), some (zI x1), some (zI x2), some (zI x3), some (zI x4), none] (And.intro rfl (And.intro rfl (And.intro rfl (And.intro rfl (And.intro rfl trivial))))) (zc_X9_region_93 x1 x2 x3 x4 (M 83 (((9 : Int32) * x1) + x3).toNatClampNeg) M h)
    · rw [if_pos c65] at h
      refine zS_aload_nO dX9_region_68 rfl rfl ?_
      refine gf_9_9 dX9_region_69 zw_343 ?_
      refine zS_bipush (v := (8 : Int32)) dX9_region_72 (by decide) ?_
      refine zS_iload_n dX9_region_74 rfl rfl ?_
      refine zS_imul dX9_region_75 ?_
      refine zS_iload_n dX9_region_76 rfl rfl ?_
      refine zS_iadd dX9_region_77 ?_
      by_cases b78 : ((8 : Int32) * x1) + x3 < 0 ∨ 24 ≤ (((8 : Int32) * x1) + x3).toNatClampNeg
      · rw [if_pos b78] at h; cases h
      rw [if_neg b78] at h
      refine zS_iald b78 dX9_region_78 ?_
      refine zS_goto (tgt := 93) dX9_region_79 (by decide) ?_
      exact zS_wk [some (zO 9), some (zI x1), some (zI x2), some (zI x3), some (zI x4), none] (And.intro rfl (And.intro rfl (And.intro rfl (And.intro rfl (And.intro rfl trivial))))) (zc_X9_region_93 x1 x2 x3 x4 (M 82 (((8 : Int32) * x1) + x3).toNatClampNeg) M h)
  · rw [if_pos c58] at h
    refine zS_bipush (v := (-3 : Int32)) dX9_region_61 (by decide) ?_
    cases h
    exact zS_ireturn dX9_region_63 rfl rfl
def p_X9_region_33 (x1 : Int32) (x2 : Int32) (x3 : Int32) (x4 : Int32) (M : zM) : Option (Int32 × zM) :=
  (p_X9_in x2 (0 : Int32) (1 : Int32)).bind fun r36 =>
  if r36 = 0 then
    some ((-3 : Int32), M)
  else
    if x2 = 0 then
      p_X9_region_55 x1 x2 x3 x4 (7 : Int32) (0 : Int32) x4 M
    else
      p_X9_region_55 x1 x2 x3 x4 (3 : Int32) (0 : Int32) x4 M
set_option maxRecDepth 20000 in
set_option maxHeartbeats 4000000 in
theorem zc_X9_region_33 (x1 : Int32) (x2 : Int32) (x3 : Int32) (x4 : Int32) (M : zM) {r : Int32 × zM} (h : p_X9_region_33 x1 x2 x3 x4 M = some r) : zS Y_X9_region 33 [some (zO 9), some (zI x1), some (zI x2), some (zI x3), some (zI x4), none] [] M (some r.1, r.2) := by
  rw [p_X9_region_33] at h
  refine zS_iload_n dX9_region_33 rfl rfl ?_
  refine zS_iconst (v := (0 : Int32)) dX9_region_34 (by decide) ?_
  refine zS_iconst (v := (1 : Int32)) dX9_region_35 (by decide) ?_
  obtain ⟨r36, h36, h⟩ := zbind h
  refine zS_callS (as := [zI x2, zI (0 : Int32), zI (1 : Int32)]) (st := []) (ls0 := [some (zI x2), some (zI (0 : Int32)), some (zI (1 : Int32))]) dX9_region_36 okY_X9_in rfl rfl zw_310 zw_311 np_X9_in (by decide) (Nat.le_of_ble_eq_true rfl) rfl (Nat.le_of_ble_eq_true rfl) (And.intro rfl (And.intro rfl (And.intro rfl trivial))) (zc_X9_in x2 (0 : Int32) (1 : Int32) M h36) ?_
  refine zS_if_eq (tgt := 61) dX9_region_39 (by decide) (fun c39 => ?_) (fun c39 => ?_)
  · rw [if_pos c39] at h
    refine zS_bipush (v := (-3 : Int32)) dX9_region_61 (by decide) ?_
    cases h
    exact zS_ireturn dX9_region_63 rfl rfl
  · rw [if_neg c39] at h
    refine zS_iload dX9_region_42 rfl ?_
    refine zS_iconst (v := (0 : Int32)) dX9_region_44 (by decide) ?_
    refine zS_iload_n dX9_region_45 rfl rfl ?_
    refine zS_if_ne (tgt := 54) dX9_region_46 (by decide) (fun c46 => ?_) (fun c46 => ?_)
    · rw [if_neg c46] at h
      refine zS_iconst (v := (3 : Int32)) dX9_region_54 (by decide) ?_
      exact zS_wk [some (zO 9), some (zI x1), some (zI x2), some (zI x3), some (zI x4), none] (And.intro rfl (And.intro rfl (And.intro rfl (And.intro rfl (And.intro rfl trivial))))) (zc_X9_region_55 x1 x2 x3 x4 (3 : Int32) (0 : Int32) x4 M h)
    · rw [if_pos c46] at h
      refine zS_bipush (v := (7 : Int32)) dX9_region_49 (by decide) ?_
      refine zS_goto (tgt := 55) dX9_region_51 (by decide) ?_
      exact zS_wk [some (zO 9), some (zI x1), some (zI x2), some (zI x3), some (zI x4), none] (And.intro rfl (And.intro rfl (And.intro rfl (And.intro rfl (And.intro rfl trivial))))) (zc_X9_region_55 x1 x2 x3 x4 (7 : Int32) (0 : Int32) x4 M h)
def p_X9_region_18 (x1 : Int32) (x2 : Int32) (x3 : Int32) (x4 : Int32) (M : zM) : Option (Int32 × zM) :=
  if x2 = (1 : Int32) then
    (p_X9_isNote x3).bind fun r24 =>
    if r24 = 0 then
      some ((-2 : Int32), M)
    else
      p_X9_region_33 x1 x2 x3 x4 M
  else
    p_X9_region_33 x1 x2 x3 x4 M
set_option maxRecDepth 20000 in
set_option maxHeartbeats 4000000 in
theorem zc_X9_region_18 (x1 : Int32) (x2 : Int32) (x3 : Int32) (x4 : Int32) (M : zM) {r : Int32 × zM} (h : p_X9_region_18 x1 x2 x3 x4 M = some r) : zS Y_X9_region 18 [some (zO 9), some (zI x1), some (zI x2), some (zI x3), some (zI x4), none] [] M (some r.1, r.2) := by
  rw [p_X9_region_18] at h
  refine zS_iload_n dX9_region_18 rfl rfl ?_
  refine zS_iconst (v := (1 : Int32)) dX9_region_19 (by decide) ?_
  refine zS_icmp_ne (tgt := 33) dX9_region_20 (by decide) (fun c20 => ?_) (fun c20 => ?_)
  · rw [if_neg c20] at h
    exact zS_wk [some (zO 9), some (zI x1), some (zI x2), some (zI x3), some (zI x4), none] (And.intro rfl (And.intro rfl (And.intro rfl (And.intro rfl (And.intro rfl trivial))))) (zc_X9_region_33 x1 x2 x3 x4 M h)
  · rw [if_pos c20] at h
    refine zS_iload_n dX9_region_23 rfl rfl ?_
    obtain ⟨r24, h24, h⟩ := zbind h
    refine zS_callS (as := [zI x3]) (st := []) (ls0 := [some (zI x3)]) dX9_region_24 okY_X9_isNote rfl rfl zw_315 zw_316 np_X9_isNote (by decide) (Nat.le_of_ble_eq_true rfl) rfl (Nat.le_of_ble_eq_true rfl) (And.intro rfl trivial) (zc_X9_isNote x3 M h24) ?_
    refine zS_if_ne (tgt := 33) dX9_region_27 (by decide) (fun c27 => ?_) (fun c27 => ?_)
    · rw [if_neg c27] at h
      exact zS_wk [some (zO 9), some (zI x1), some (zI x2), some (zI x3), some (zI x4), none] (And.intro rfl (And.intro rfl (And.intro rfl (And.intro rfl (And.intro rfl trivial))))) (zc_X9_region_33 x1 x2 x3 x4 M h)
    · rw [if_pos c27] at h
      refine zS_bipush (v := (-2 : Int32)) dX9_region_30 (by decide) ?_
      cases h
      exact zS_ireturn dX9_region_32 rfl rfl
def p_X9_region (x1 : Int32) (x2 : Int32) (x3 : Int32) (x4 : Int32) (M : zM) : Option (Int32 × zM) :=
  (p_X9_isRegion x1).bind fun r1 =>
  if r1 = 0 then
    some ((-2 : Int32), M)
  else
    if x2 = 0 then
      (p_X9_isMovement x3).bind fun r12 =>
      if r12 = 0 then
        some ((-2 : Int32), M)
      else
        p_X9_region_18 x1 x2 x3 x4 M
    else
      p_X9_region_18 x1 x2 x3 x4 M
set_option maxRecDepth 20000 in
set_option maxHeartbeats 4000000 in
theorem zc_X9_region (x1 : Int32) (x2 : Int32) (x3 : Int32) (x4 : Int32) (M : zM) {r : Int32 × zM} (h : p_X9_region x1 x2 x3 x4 M = some r) : zS Y_X9_region 0 [some (zO 9), some (zI x1), some (zI x2), some (zI x3), some (zI x4), none] [] M (some r.1, r.2) := by
  rw [p_X9_region] at h
  refine zS_iload_n dX9_region_0 rfl rfl ?_
  obtain ⟨r1, h1, h⟩ := zbind h
  refine zS_callS (as := [zI x1]) (st := []) (ls0 := [some (zI x1)]) dX9_region_1 okY_X9_isRegion rfl rfl zw_344 zw_345 np_X9_isRegion (by decide) (Nat.le_of_ble_eq_true rfl) rfl (Nat.le_of_ble_eq_true rfl) (And.intro rfl trivial) (zc_X9_isRegion x1 M h1) ?_
  refine zS_if_eq (tgt := 30) dX9_region_4 (by decide) (fun c4 => ?_) (fun c4 => ?_)
  · rw [if_pos c4] at h
    refine zS_bipush (v := (-2 : Int32)) dX9_region_30 (by decide) ?_
    cases h
    exact zS_ireturn dX9_region_32 rfl rfl
  · rw [if_neg c4] at h
    refine zS_iload_n dX9_region_7 rfl rfl ?_
    refine zS_if_ne (tgt := 18) dX9_region_8 (by decide) (fun c8 => ?_) (fun c8 => ?_)
    · rw [if_neg c8] at h
      exact zS_wk [some (zO 9), some (zI x1), some (zI x2), some (zI x3), some (zI x4), none] (And.intro rfl (And.intro rfl (And.intro rfl (And.intro rfl (And.intro rfl trivial))))) (zc_X9_region_18 x1 x2 x3 x4 M h)
    · rw [if_pos c8] at h
      refine zS_iload_n dX9_region_11 rfl rfl ?_
      obtain ⟨r12, h12, h⟩ := zbind h
      refine zS_callS (as := [zI x3]) (st := []) (ls0 := [some (zI x3)]) dX9_region_12 okY_X9_isMovement rfl rfl zw_317 zw_318 np_X9_isMovement (by decide) (Nat.le_of_ble_eq_true rfl) rfl (Nat.le_of_ble_eq_true rfl) (And.intro rfl trivial) (zc_X9_isMovement x3 M h12) ?_
      refine zS_if_eq (tgt := 30) dX9_region_15 (by decide) (fun c15 => ?_) (fun c15 => ?_)
      · rw [if_pos c15] at h
        refine zS_bipush (v := (-2 : Int32)) dX9_region_30 (by decide) ?_
        cases h
        exact zS_ireturn dX9_region_32 rfl rfl
      · rw [if_neg c15] at h
        exact zS_wk [some (zO 9), some (zI x1), some (zI x2), some (zI x3), some (zI x4), none] (And.intro rfl (And.intro rfl (And.intro rfl (And.intro rfl (And.intro rfl trivial))))) (zc_X9_region_18 x1 x2 x3 x4 M h)
def p_X9_sung (x1 : Int32) (x2 : Int32) (M : zM) : Option (Int32) :=
  (p_X9_isRegion x1).bind fun r1 =>
  if r1 = 0 then
    some (-2 : Int32)
  else
    (p_X9_in x2 (0 : Int32) ((M 9 5) - (1 : Int32))).bind fun r15 =>
    if r15 = 0 then
      some (-2 : Int32)
    else
      if x2 < 0 ∨ 24 ≤ x2.toNatClampNeg then none else
      if (M 81 x2.toNatClampNeg) = (-1 : Int32) then
        some (-4 : Int32)
      else
        if x2 < 0 ∨ 24 ≤ x2.toNatClampNeg then none else
        if ((8 : Int32) * x1) + (M 81 x2.toNatClampNeg) < 0 ∨ 24 ≤ (((8 : Int32) * x1) + (M 81 x2.toNatClampNeg)).toNatClampNeg then none else
        if x2 < 0 ∨ 24 ≤ x2.toNatClampNeg then none else
        if ((9 : Int32) * x1) + (M 79 x2.toNatClampNeg) < 0 ∨ 27 ≤ (((9 : Int32) * x1) + (M 79 x2.toNatClampNeg)).toNatClampNeg then none else
        some (((4 : Int32) * (M 82 (((8 : Int32) * x1) + (M 81 x2.toNatClampNeg)).toNatClampNeg)) + (M 83 (((9 : Int32) * x1) + (M 79 x2.toNatClampNeg)).toNatClampNeg))
set_option maxRecDepth 20000 in
set_option maxHeartbeats 4000000 in
theorem zc_X9_sung (x1 : Int32) (x2 : Int32) (M : zM) {r : Int32} (h : p_X9_sung x1 x2 M = some r) : zS Y_X9_sung 0 [some (zO 9), some (zI x1), some (zI x2)] [] M (some r, M) := by
  rw [p_X9_sung] at h
  refine zS_iload_n dX9_sung_0 rfl rfl ?_
  obtain ⟨r1, h1, h⟩ := zbind h
  refine zS_callS (as := [zI x1]) (st := []) (ls0 := [some (zI x1)]) dX9_sung_1 okY_X9_isRegion rfl rfl zw_344 zw_345 np_X9_isRegion (by decide) (Nat.le_of_ble_eq_true rfl) rfl (Nat.le_of_ble_eq_true rfl) (And.intro rfl trivial) (zc_X9_isRegion x1 M h1) ?_
  refine zS_if_eq (tgt := 21) dX9_sung_4 (by decide) (fun c4 => ?_) (fun c4 => ?_)
  · rw [if_pos c4] at h
    refine zS_bipush (v := (-2 : Int32)) dX9_sung_21 (by decide) ?_
    cases h
    exact zS_ireturn dX9_sung_23 rfl rfl
  · rw [if_neg c4] at h
    refine zS_iload_n dX9_sung_7 rfl rfl ?_
    refine zS_iconst (v := (0 : Int32)) dX9_sung_8 (by decide) ?_
    refine zS_aload_nO dX9_sung_9 rfl rfl ?_
    refine gf_9_5 dX9_sung_10 zw_325 ?_
    refine zS_iconst (v := (1 : Int32)) dX9_sung_13 (by decide) ?_
    refine zS_isub dX9_sung_14 ?_
    obtain ⟨r15, h15, h⟩ := zbind h
    refine zS_callS (as := [zI x2, zI (0 : Int32), zI ((M 9 5) - (1 : Int32))]) (st := []) (ls0 := [some (zI x2), some (zI (0 : Int32)), some (zI ((M 9 5) - (1 : Int32)))]) dX9_sung_15 okY_X9_in rfl rfl zw_310 zw_311 np_X9_in (by decide) (Nat.le_of_ble_eq_true rfl) rfl (Nat.le_of_ble_eq_true rfl) (And.intro rfl (And.intro rfl (And.intro rfl trivial))) (zc_X9_in x2 (0 : Int32) ((M 9 5) - (1 : Int32)) M h15) ?_
    refine zS_if_ne (tgt := 24) dX9_sung_18 (by decide) (fun c18 => ?_) (fun c18 => ?_)
    · rw [if_neg c18] at h
      refine zS_aload_nO dX9_sung_24 rfl rfl ?_
      refine gf_9_8 dX9_sung_25 zw_328 ?_
      refine zS_iload_n dX9_sung_28 rfl rfl ?_
      by_cases b29 : x2 < 0 ∨ 24 ≤ x2.toNatClampNeg
      · rw [if_pos b29] at h; cases h
      rw [if_neg b29] at h
      refine zS_iald b29 dX9_sung_29 ?_
      refine zS_iconst (v := (-1 : Int32)) dX9_sung_30 (by decide) ?_
      refine zS_icmp_ne (tgt := 39) dX9_sung_31 (by decide) (fun c31 => ?_) (fun c31 => ?_)
      · rw [if_neg c31] at h
        refine zS_iconst (v := (4 : Int32)) dX9_sung_39 (by decide) ?_
        refine zS_aload_nO dX9_sung_40 rfl rfl ?_
        refine gf_9_9 dX9_sung_41 zw_343 ?_
        refine zS_bipush (v := (8 : Int32)) dX9_sung_44 (by decide) ?_
        refine zS_iload_n dX9_sung_46 rfl rfl ?_
        refine zS_imul dX9_sung_47 ?_
        refine zS_aload_nO dX9_sung_48 rfl rfl ?_
        refine gf_9_8 dX9_sung_49 zw_328 ?_
        refine zS_iload_n dX9_sung_52 rfl rfl ?_
        by_cases b53 : x2 < 0 ∨ 24 ≤ x2.toNatClampNeg
        · rw [if_pos b53] at h; cases h
        rw [if_neg b53] at h
        refine zS_iald b53 dX9_sung_53 ?_
        refine zS_iadd dX9_sung_54 ?_
        by_cases b55 : ((8 : Int32) * x1) + (M 81 x2.toNatClampNeg) < 0 ∨ 24 ≤ (((8 : Int32) * x1) + (M 81 x2.toNatClampNeg)).toNatClampNeg
        · rw [if_pos b55] at h; cases h
        rw [if_neg b55] at h
        refine zS_iald b55 dX9_sung_55 ?_
        refine zS_imul dX9_sung_56 ?_
        refine zS_aload_nO dX9_sung_57 rfl rfl ?_
        refine gf_9_10 dX9_sung_58 zw_342 ?_
        refine zS_bipush (v := (9 : Int32)) dX9_sung_61 (by decide) ?_
        refine zS_iload_n dX9_sung_63 rfl rfl ?_
        refine zS_imul dX9_sung_64 ?_
        refine zS_aload_nO dX9_sung_65 rfl rfl ?_
        refine gf_9_6 dX9_sung_66 zw_326 ?_
        refine zS_iload_n dX9_sung_69 rfl rfl ?_
        by_cases b70 : x2 < 0 ∨ 24 ≤ x2.toNatClampNeg
        · rw [if_pos b70] at h; cases h
        rw [if_neg b70] at h
        refine zS_iald b70 dX9_sung_70 ?_
        refine zS_iadd dX9_sung_71 ?_
        by_cases b72 : ((9 : Int32) * x1) + (M 79 x2.toNatClampNeg) < 0 ∨ 27 ≤ (((9 : Int32) * x1) + (M 79 x2.toNatClampNeg)).toNatClampNeg
        · rw [if_pos b72] at h; cases h
        rw [if_neg b72] at h
        refine zS_iald b72 dX9_sung_72 ?_
        refine zS_iadd dX9_sung_73 ?_
        cases h
        exact zS_ireturn dX9_sung_74 rfl rfl
      · rw [if_pos c31] at h
        refine zS_bipush (v := (-4 : Int32)) dX9_sung_34 (by decide) ?_
        refine zS_goto (tgt := 74) dX9_sung_36 (by decide) ?_
        cases h
        exact zS_ireturn dX9_sung_74 rfl rfl
    · rw [if_pos c18] at h
      refine zS_bipush (v := (-2 : Int32)) dX9_sung_21 (by decide) ?_
      cases h
      exact zS_ireturn dX9_sung_23 rfl rfl
def p_X9_syllable (x1 : Int32) (M : zM) : Option (Int32 × zM) :=
  (p_X9_in x1 (0 : Int32) (31 : Int32)).bind fun r4 =>
  if r4 = 0 then
    some ((-3 : Int32), M)
  else
    if (M 9 11) = (12 : Int32) then
      some ((-5 : Int32), M)
    else
      if M 9 11 < 0 ∨ 12 ≤ (M 9 11).toNatClampNeg then none else
      some ((zset (zset M 84 ((M 9 11).toNatClampNeg) x1) 9 11 (((zset M 84 ((M 9 11).toNatClampNeg) x1) 9 11) + (1 : Int32))) 9 11, zset (zset M 84 ((M 9 11).toNatClampNeg) x1) 9 11 (((zset M 84 ((M 9 11).toNatClampNeg) x1) 9 11) + (1 : Int32)))
set_option maxRecDepth 20000 in
set_option maxHeartbeats 4000000 in
theorem zc_X9_syllable (x1 : Int32) (M : zM) {r : Int32 × zM} (h : p_X9_syllable x1 M = some r) : zS Y_X9_syllable 0 [some (zO 9), some (zI x1)] [] M (some r.1, r.2) := by
  rw [p_X9_syllable] at h
  refine zS_iload_n dX9_syllable_0 rfl rfl ?_
  refine zS_iconst (v := (0 : Int32)) dX9_syllable_1 (by decide) ?_
  refine zS_bipush (v := (31 : Int32)) dX9_syllable_2 (by decide) ?_
  obtain ⟨r4, h4, h⟩ := zbind h
  refine zS_callS (as := [zI x1, zI (0 : Int32), zI (31 : Int32)]) (st := []) (ls0 := [some (zI x1), some (zI (0 : Int32)), some (zI (31 : Int32))]) dX9_syllable_4 okY_X9_in rfl rfl zw_310 zw_311 np_X9_in (by decide) (Nat.le_of_ble_eq_true rfl) rfl (Nat.le_of_ble_eq_true rfl) (And.intro rfl (And.intro rfl (And.intro rfl trivial))) (zc_X9_in x1 (0 : Int32) (31 : Int32) M h4) ?_
  refine zS_if_ne (tgt := 13) dX9_syllable_7 (by decide) (fun c7 => ?_) (fun c7 => ?_)
  · rw [if_neg c7] at h
    refine zS_aload_nO dX9_syllable_13 rfl rfl ?_
    refine gf_9_11 dX9_syllable_14 zw_346 ?_
    refine zS_bipush (v := (12 : Int32)) dX9_syllable_17 (by decide) ?_
    refine zS_icmp_ne (tgt := 25) dX9_syllable_19 (by decide) (fun c19 => ?_) (fun c19 => ?_)
    · rw [if_neg c19] at h
      refine zS_aload_nO dX9_syllable_25 rfl rfl ?_
      refine gf_9_12 dX9_syllable_26 zw_347 ?_
      refine zS_aload_nO dX9_syllable_29 rfl rfl ?_
      refine gf_9_11 dX9_syllable_30 zw_346 ?_
      refine zS_iload_n dX9_syllable_33 rfl rfl ?_
      by_cases b34 : M 9 11 < 0 ∨ 12 ≤ (M 9 11).toNatClampNeg
      · rw [if_pos b34] at h; cases h
      rw [if_neg b34] at h
      refine zS_iast b34 dX9_syllable_34 ?_
      refine zS_aload_nO dX9_syllable_35 rfl rfl ?_
      refine zS_dup dX9_syllable_36 rfl ?_
      refine gf_9_11 dX9_syllable_37 zw_346 ?_
      refine zS_iconst (v := (1 : Int32)) dX9_syllable_40 (by decide) ?_
      refine zS_iadd dX9_syllable_41 ?_
      refine pf_9_11 dX9_syllable_42 zw_346 ?_
      refine zS_aload_nO dX9_syllable_45 rfl rfl ?_
      refine gf_9_11 dX9_syllable_46 zw_346 ?_
      cases h
      exact zS_ireturn dX9_syllable_49 rfl rfl
    · rw [if_pos c19] at h
      refine zS_bipush (v := (-5 : Int32)) dX9_syllable_22 (by decide) ?_
      cases h
      exact zS_ireturn dX9_syllable_24 rfl rfl
  · rw [if_pos c7] at h
    refine zS_bipush (v := (-3 : Int32)) dX9_syllable_10 (by decide) ?_
    cases h
    exact zS_ireturn dX9_syllable_12 rfl rfl
def p_X9_hush (M : zM) : Option (Int32 × zM) :=
  some (M 9 11, zset M 9 11 (0 : Int32))
set_option maxRecDepth 20000 in
set_option maxHeartbeats 4000000 in
theorem zc_X9_hush (M : zM) {r : Int32 × zM} (h : p_X9_hush M = some r) : zS Y_X9_hush 0 [some (zO 9), none] [] M (some r.1, r.2) := by
  rw [p_X9_hush] at h
  refine zS_aload_nO dX9_hush_0 rfl rfl ?_
  refine gf_9_11 dX9_hush_1 zw_346 ?_
  refine zS_istore_n (ls' := [some (zO 9), some (zI (M 9 11))]) dX9_hush_4 rfl (by decide) rfl rfl ?_
  refine zS_aload_nO dX9_hush_5 rfl rfl ?_
  refine zS_iconst (v := (0 : Int32)) dX9_hush_6 (by decide) ?_
  refine pf_9_11 dX9_hush_7 zw_346 ?_
  refine zS_iload_n dX9_hush_10 rfl rfl ?_
  cases h
  exact zS_ireturn dX9_hush_11 rfl rfl
def p_X9_isSung (x1 : Int32) (x2 : Int32) (x3 : Int32) (x4 : Int32) (M : zM) : Option (Int32) :=
  if ((8 : Int32) * x1) + x4 < 0 ∨ 24 ≤ (((8 : Int32) * x1) + x4).toNatClampNeg then none else
  if ((9 : Int32) * x1) + x3 < 0 ∨ 27 ≤ (((9 : Int32) * x1) + x3).toNatClampNeg then none else
  if x2 < 0 ∨ 12 ≤ x2.toNatClampNeg then none else
  if (((4 : Int32) * (M 82 (((8 : Int32) * x1) + x4).toNatClampNeg)) + (M 83 (((9 : Int32) * x1) + x3).toNatClampNeg)) = (M 84 x2.toNatClampNeg) then
    some (1 : Int32)
  else
    some (0 : Int32)
set_option maxRecDepth 20000 in
set_option maxHeartbeats 4000000 in
theorem zc_X9_isSung (x1 : Int32) (x2 : Int32) (x3 : Int32) (x4 : Int32) (M : zM) {r : Int32} (h : p_X9_isSung x1 x2 x3 x4 M = some r) : zS Y_X9_isSung 0 [some (zO 9), some (zI x1), some (zI x2), some (zI x3), some (zI x4)] [] M (some r, M) := by
  rw [p_X9_isSung] at h
  refine zS_iconst (v := (4 : Int32)) dX9_isSung_0 (by decide) ?_
  refine zS_aload_nO dX9_isSung_1 rfl rfl ?_
  refine gf_9_9 dX9_isSung_2 zw_343 ?_
  refine zS_bipush (v := (8 : Int32)) dX9_isSung_5 (by decide) ?_
  refine zS_iload_n dX9_isSung_7 rfl rfl ?_
  refine zS_imul dX9_isSung_8 ?_
  refine zS_iload dX9_isSung_9 rfl ?_
  refine zS_iadd dX9_isSung_11 ?_
  by_cases b12 : ((8 : Int32) * x1) + x4 < 0 ∨ 24 ≤ (((8 : Int32) * x1) + x4).toNatClampNeg
  · rw [if_pos b12] at h; cases h
  rw [if_neg b12] at h
  refine zS_iald b12 dX9_isSung_12 ?_
  refine zS_imul dX9_isSung_13 ?_
  refine zS_aload_nO dX9_isSung_14 rfl rfl ?_
  refine gf_9_10 dX9_isSung_15 zw_342 ?_
  refine zS_bipush (v := (9 : Int32)) dX9_isSung_18 (by decide) ?_
  refine zS_iload_n dX9_isSung_20 rfl rfl ?_
  refine zS_imul dX9_isSung_21 ?_
  refine zS_iload_n dX9_isSung_22 rfl rfl ?_
  refine zS_iadd dX9_isSung_23 ?_
  by_cases b24 : ((9 : Int32) * x1) + x3 < 0 ∨ 27 ≤ (((9 : Int32) * x1) + x3).toNatClampNeg
  · rw [if_pos b24] at h; cases h
  rw [if_neg b24] at h
  refine zS_iald b24 dX9_isSung_24 ?_
  refine zS_iadd dX9_isSung_25 ?_
  refine zS_aload_nO dX9_isSung_26 rfl rfl ?_
  refine gf_9_12 dX9_isSung_27 zw_347 ?_
  refine zS_iload_n dX9_isSung_30 rfl rfl ?_
  by_cases b31 : x2 < 0 ∨ 12 ≤ x2.toNatClampNeg
  · rw [if_pos b31] at h; cases h
  rw [if_neg b31] at h
  refine zS_iald b31 dX9_isSung_31 ?_
  refine zS_icmp_ne (tgt := 39) dX9_isSung_32 (by decide) (fun c32 => ?_) (fun c32 => ?_)
  · rw [if_neg c32] at h
    refine zS_iconst (v := (0 : Int32)) dX9_isSung_39 (by decide) ?_
    cases h
    exact zS_ireturn dX9_isSung_40 rfl rfl
  · rw [if_pos c32] at h
    refine zS_iconst (v := (1 : Int32)) dX9_isSung_35 (by decide) ?_
    refine zS_goto (tgt := 40) dX9_isSung_36 (by decide) ?_
    cases h
    exact zS_ireturn dX9_isSung_40 rfl rfl
def p_X9_readBy_98 (k36 : Int32 → zM → Option (Int32 × zM)) (k42 : Int32 → zM → Option (Int32 × zM)) (k54 : Int32 → Int32 → Option (Int32 × zM)) (k64 : Int32 → Int32 → Option (Int32 × zM)) (x1 : Int32) (x2 : Int32) (x3 : Int32) (x4 : Int32) (x5 : Int32) (x6 : Int32) (t2 : Int32) (t1 : Int32) (M : zM) : Option (Int32 × zM) :=
  (p_X9_fitsSo t1 t2 x5 M).bind fun r100 =>
  if r100 = 0 then
    k64 x4 (x6 + (1 : Int32))
  else
    if ((10 : Int32) * (x2 + (1 : Int32))) + x5 < 0 ∨ 130 ≤ (((10 : Int32) * (x2 + (1 : Int32))) + x5).toNatClampNeg then none else
    (p_X9_plus x4 (M 85 (((10 : Int32) * (x2 + (1 : Int32))) + x5).toNatClampNeg)).bind fun r122 =>
    k64 r122 (x6 + (1 : Int32))
set_option maxRecDepth 20000 in
set_option maxHeartbeats 4000000 in
theorem zc_X9_readBy_98 {k36 : Int32 → zM → Option (Int32 × zM)} {k42 : Int32 → zM → Option (Int32 × zM)} {k54 : Int32 → Int32 → Option (Int32 × zM)} {k64 : Int32 → Int32 → Option (Int32 × zM)} (x1 : Int32) (x2 : Int32) (x3 : Int32) (x4 : Int32) (x5 : Int32) (x6 : Int32) (t2 : Int32) (t1 : Int32) (M : zM) (hk36 : ∀ (x2 : Int32) (M : zM) (r : Int32 × zM), k36 x2 M = some r → zS Y_X9_readBy 36 [some (zO 9), some (zI x1), some (zI x2), none, none, none, none] [] M (some r.1, r.2)) (hk42 : ∀ (x3 : Int32) (M : zM) (r : Int32 × zM), k42 x3 M = some r → zS Y_X9_readBy 42 [some (zO 9), some (zI x1), some (zI x2), some (zI x3), none, none, none] [] M (some r.1, r.2)) (hk54 : ∀ (x4 : Int32) (x5 : Int32) (r : Int32 × zM), k54 x4 x5 = some r → zS Y_X9_readBy 54 [some (zO 9), some (zI x1), some (zI x2), some (zI x3), some (zI x4), some (zI x5), none] [] M (some r.1, r.2)) (hk64 : ∀ (x4 : Int32) (x6 : Int32) (r : Int32 × zM), k64 x4 x6 = some r → zS Y_X9_readBy 64 [some (zO 9), some (zI x1), some (zI x2), some (zI x3), some (zI x4), some (zI x5), some (zI x6)] [] M (some r.1, r.2)) {r : Int32 × zM} (h : p_X9_readBy_98 k36 k42 k54 k64 x1 x2 x3 x4 x5 x6 t2 t1 M = some r) : zS Y_X9_readBy 98 [some (zO 9), some (zI x1), some (zI x2), some (zI x3), some (zI x4), some (zI x5), some (zI x6)] [zI t2, zI t1, zO 9] M (some r.1, r.2) := by
  rw [p_X9_readBy_98] at h
  refine zS_iload dX9_readBy_98 rfl ?_
  obtain ⟨r100, h100, h⟩ := zbind h
  refine zS_callV (as := [zI t1, zI t2, zI x5]) (st := []) (ls0 := [some (zO 9), some (zI t1), some (zI t2), some (zI x5), none, none]) dX9_readBy_100 okY_X9_fitsSo rfl rfl lay_9 rfl zw_322 zw_323 zw_324 np_X9_fitsSo (by decide) (Nat.le_of_ble_eq_true rfl) rfl (Nat.le_of_ble_eq_true rfl) (And.intro rfl (And.intro rfl (And.intro rfl (And.intro rfl trivial)))) (zc_X9_fitsSo t1 t2 x5 M h100) ?_
  refine zS_if_eq (tgt := 127) dX9_readBy_103 (by decide) (fun c103 => ?_) (fun c103 => ?_)
  · rw [if_pos c103] at h
    refine zS_iinc (v := x6 + (1 : Int32)) (ls' := [some (zO 9), some (zI x1), some (zI x2), some (zI x3), some (zI x4), some (zI x5), some (zI (x6 + (1 : Int32)))]) dX9_readBy_127 rfl rfl (by decide) rfl rfl ?_
    refine zS_goto (tgt := 64) dX9_readBy_130 (by decide) ?_
    exact zS_wk [some (zO 9), some (zI x1), some (zI x2), some (zI x3), some (zI x4), some (zI x5), some (zI (x6 + (1 : Int32)))] (And.intro rfl (And.intro rfl (And.intro rfl (And.intro rfl (And.intro rfl (And.intro rfl (And.intro rfl trivial))))))) (hk64 x4 (x6 + (1 : Int32)) r h)
  · rw [if_neg c103] at h
    refine zS_iload dX9_readBy_106 rfl ?_
    refine zS_aload_nO dX9_readBy_108 rfl rfl ?_
    refine gf_9_13 dX9_readBy_109 zw_348 ?_
    refine zS_bipush (v := (10 : Int32)) dX9_readBy_112 (by decide) ?_
    refine zS_iload_n dX9_readBy_114 rfl rfl ?_
    refine zS_iconst (v := (1 : Int32)) dX9_readBy_115 (by decide) ?_
    refine zS_iadd dX9_readBy_116 ?_
    refine zS_imul dX9_readBy_117 ?_
    refine zS_iload dX9_readBy_118 rfl ?_
    refine zS_iadd dX9_readBy_120 ?_
    by_cases b121 : ((10 : Int32) * (x2 + (1 : Int32))) + x5 < 0 ∨ 130 ≤ (((10 : Int32) * (x2 + (1 : Int32))) + x5).toNatClampNeg
    · rw [if_pos b121] at h; cases h
    rw [if_neg b121] at h
    refine zS_iald b121 dX9_readBy_121 ?_
    obtain ⟨r122, h122, h⟩ := zbind h
    refine zS_callS (as := [zI x4, zI (M 85 (((10 : Int32) * (x2 + (1 : Int32))) + x5).toNatClampNeg)]) (st := []) (ls0 := [some (zI x4), some (zI (M 85 (((10 : Int32) * (x2 + (1 : Int32))) + x5).toNatClampNeg))]) dX9_readBy_122 okY_X9_plus rfl rfl zw_349 zw_350 np_X9_plus (by decide) (Nat.le_of_ble_eq_true rfl) rfl (Nat.le_of_ble_eq_true rfl) (And.intro rfl (And.intro rfl trivial)) (zc_X9_plus x4 (M 85 (((10 : Int32) * (x2 + (1 : Int32))) + x5).toNatClampNeg) M h122) ?_
    refine zS_istore (ls' := [some (zO 9), some (zI x1), some (zI x2), some (zI x3), some (zI r122), some (zI x5), some (zI x6)]) dX9_readBy_125 (by decide) rfl rfl ?_
    refine zS_iinc (v := x6 + (1 : Int32)) (ls' := [some (zO 9), some (zI x1), some (zI x2), some (zI x3), some (zI r122), some (zI x5), some (zI (x6 + (1 : Int32)))]) dX9_readBy_127 rfl rfl (by decide) rfl rfl ?_
    refine zS_goto (tgt := 64) dX9_readBy_130 (by decide) ?_
    exact zS_wk [some (zO 9), some (zI x1), some (zI x2), some (zI x3), some (zI r122), some (zI x5), some (zI (x6 + (1 : Int32)))] (And.intro rfl (And.intro rfl (And.intro rfl (And.intro rfl (And.intro rfl (And.intro rfl (And.intro rfl trivial))))))) (hk64 r122 (x6 + (1 : Int32)) r h)
def p_X9_readBy_64 (k36 : Int32 → zM → Option (Int32 × zM)) (k42 : Int32 → zM → Option (Int32 × zM)) (k54 : Int32 → Int32 → Option (Int32 × zM)) (x1 : Int32) (x2 : Int32) (x3 : Int32) (x5 : Int32) (M : zM) : Nat → Int32 → Int32 → Option (Int32 × zM)
  | 0, _, _ => none
  | nn + 1, x4, x6 =>
  if (8 : Int32) ≤ x6 then
    k54 x4 (x5 + (1 : Int32))
  else
    (p_X9_isSung x1 x2 x5 x6 M).bind fun r78 =>
    if r78 = 0 then
      p_X9_readBy_64 k36 k42 k54 x1 x2 x3 x5 M nn x4 (x6 + (1 : Int32))
    else
      if x3 = (9 : Int32) then
        p_X9_readBy_98 k36 k42 k54 (p_X9_readBy_64 k36 k42 k54 x1 x2 x3 x5 M nn) x1 x2 x3 x4 x5 x6 (-1 : Int32) x6 M
      else
        p_X9_readBy_98 k36 k42 k54 (p_X9_readBy_64 k36 k42 k54 x1 x2 x3 x5 M nn) x1 x2 x3 x4 x5 x6 x3 x6 M
set_option maxRecDepth 20000 in
set_option maxHeartbeats 4000000 in
theorem zc_X9_readBy_64 {k36 : Int32 → zM → Option (Int32 × zM)} {k42 : Int32 → zM → Option (Int32 × zM)} {k54 : Int32 → Int32 → Option (Int32 × zM)} (x1 : Int32) (x2 : Int32) (x3 : Int32) (x5 : Int32) (M : zM) (hk36 : ∀ (x2 : Int32) (M : zM) (r : Int32 × zM), k36 x2 M = some r → zS Y_X9_readBy 36 [some (zO 9), some (zI x1), some (zI x2), none, none, none, none] [] M (some r.1, r.2)) (hk42 : ∀ (x3 : Int32) (M : zM) (r : Int32 × zM), k42 x3 M = some r → zS Y_X9_readBy 42 [some (zO 9), some (zI x1), some (zI x2), some (zI x3), none, none, none] [] M (some r.1, r.2)) (hk54 : ∀ (x4 : Int32) (x5 : Int32) (r : Int32 × zM), k54 x4 x5 = some r → zS Y_X9_readBy 54 [some (zO 9), some (zI x1), some (zI x2), some (zI x3), some (zI x4), some (zI x5), none] [] M (some r.1, r.2)) : ∀ (nn : Nat) (x4 : Int32) (x6 : Int32) (r : Int32 × zM), p_X9_readBy_64 k36 k42 k54 x1 x2 x3 x5 M nn x4 x6 = some r → zS Y_X9_readBy 64 [some (zO 9), some (zI x1), some (zI x2), some (zI x3), some (zI x4), some (zI x5), some (zI x6)] [] M (some r.1, r.2) := by
  intro nn
  induction nn with
  | zero => intro x4 x6 r h; cases h
  | succ nn ih =>
  intro x4 x6 r h
  rw [p_X9_readBy_64] at h
  refine zS_iload dX9_readBy_64 rfl ?_
  refine zS_bipush (v := (8 : Int32)) dX9_readBy_66 (by decide) ?_
  refine zS_icmp_ge (tgt := 133) dX9_readBy_68 (by decide) (fun c68 => ?_) (fun c68 => ?_)
  · rw [if_pos c68] at h
    refine zS_iinc (v := x5 + (1 : Int32)) (ls' := [some (zO 9), some (zI x1), some (zI x2), some (zI x3), some (zI x4), some (zI (x5 + (1 : Int32))), some (zI x6)]) dX9_readBy_133 rfl rfl (by decide) rfl rfl ?_
    refine zS_goto (tgt := 54) dX9_readBy_136 (by decide) ?_
    exact zS_wk [some (zO 9), some (zI x1), some (zI x2), some (zI x3), some (zI x4), some (zI (x5 + (1 : Int32))), none] (And.intro rfl (And.intro rfl (And.intro rfl (And.intro rfl (And.intro rfl (And.intro rfl trivial)))))) (hk54 x4 (x5 + (1 : Int32)) r h)
  · rw [if_neg c68] at h
    refine zS_aload_nO dX9_readBy_71 rfl rfl ?_
    refine zS_iload_n dX9_readBy_72 rfl rfl ?_
    refine zS_iload_n dX9_readBy_73 rfl rfl ?_
    refine zS_iload dX9_readBy_74 rfl ?_
    refine zS_iload dX9_readBy_76 rfl ?_
    obtain ⟨r78, h78, h⟩ := zbind h
    refine zS_callV (as := [zI x1, zI x2, zI x5, zI x6]) (st := []) (ls0 := [some (zO 9), some (zI x1), some (zI x2), some (zI x5), some (zI x6)]) dX9_readBy_78 okY_X9_isSung rfl rfl lay_9 rfl zw_351 zw_352 zw_353 np_X9_isSung (by decide) (Nat.le_of_ble_eq_true rfl) rfl (Nat.le_of_ble_eq_true rfl) (And.intro rfl (And.intro rfl (And.intro rfl (And.intro rfl (And.intro rfl trivial))))) (zc_X9_isSung x1 x2 x5 x6 M h78) ?_
    refine zS_if_eq (tgt := 127) dX9_readBy_81 (by decide) (fun c81 => ?_) (fun c81 => ?_)
    · rw [if_pos c81] at h
      refine zS_iinc (v := x6 + (1 : Int32)) (ls' := [some (zO 9), some (zI x1), some (zI x2), some (zI x3), some (zI x4), some (zI x5), some (zI (x6 + (1 : Int32)))]) dX9_readBy_127 rfl rfl (by decide) rfl rfl ?_
      refine zS_goto (tgt := 64) dX9_readBy_130 (by decide) ?_
      exact zS_wk [some (zO 9), some (zI x1), some (zI x2), some (zI x3), some (zI x4), some (zI x5), some (zI (x6 + (1 : Int32)))] (And.intro rfl (And.intro rfl (And.intro rfl (And.intro rfl (And.intro rfl (And.intro rfl (And.intro rfl trivial))))))) (ih x4 (x6 + (1 : Int32)) r h)
    · rw [if_neg c81] at h
      refine zS_aload_nO dX9_readBy_84 rfl rfl ?_
      refine zS_iload dX9_readBy_85 rfl ?_
      refine zS_iload_n dX9_readBy_87 rfl rfl ?_
      refine zS_bipush (v := (9 : Int32)) dX9_readBy_88 (by decide) ?_
      refine zS_icmp_ne (tgt := 97) dX9_readBy_90 (by decide) (fun c90 => ?_) (fun c90 => ?_)
      · rw [if_neg c90] at h
        refine zS_iload_n dX9_readBy_97 rfl rfl ?_
        exact zS_wk [some (zO 9), some (zI x1), some (zI x2), some (zI x3), some (zI x4), some (zI x5), some (zI x6)] (And.intro rfl (And.intro rfl (And.intro rfl (And.intro rfl (And.intro rfl (And.intro rfl (And.intro rfl trivial))))))) (zc_X9_readBy_98 x1 x2 x3 x4 x5 x6 x3 x6 M hk36 hk42 hk54 ih h)
      · rw [if_pos c90] at h
        refine zS_iconst (v := (-1 : Int32)) dX9_readBy_93 (by decide) ?_
        refine zS_goto (tgt := 98) dX9_readBy_94 (by decide) ?_
        exact zS_wk [some (zO 9), some (zI x1), some (zI x2), some (zI x3), some (zI x4), some (zI x5), some (zI x6)] (And.intro rfl (And.intro rfl (And.intro rfl (And.intro rfl (And.intro rfl (And.intro rfl (And.intro rfl trivial))))))) (zc_X9_readBy_98 x1 x2 x3 x4 x5 x6 (-1 : Int32) x6 M hk36 hk42 hk54 ih h)
def p_X9_readBy_54 (k36 : Int32 → zM → Option (Int32 × zM)) (k42 : Int32 → zM → Option (Int32 × zM)) (x1 : Int32) (x2 : Int32) (x3 : Int32) (M : zM) : Nat → Int32 → Int32 → Option (Int32 × zM)
  | 0, _, _ => none
  | nn + 1, x4, x5 =>
  if (9 : Int32) ≤ x5 then
    if ((10 : Int32) * x2) + x3 < 0 ∨ 130 ≤ (((10 : Int32) * x2) + x3).toNatClampNeg then none else
    k42 (x3 + (1 : Int32)) (zset M 85 ((((10 : Int32) * x2) + x3).toNatClampNeg) x4)
  else
    p_X9_readBy_64 k36 k42 (p_X9_readBy_54 k36 k42 x1 x2 x3 M nn) x1 x2 x3 x5 M 5000 x4 (0 : Int32)
set_option maxRecDepth 20000 in
set_option maxHeartbeats 4000000 in
theorem zc_X9_readBy_54 {k36 : Int32 → zM → Option (Int32 × zM)} {k42 : Int32 → zM → Option (Int32 × zM)} (x1 : Int32) (x2 : Int32) (x3 : Int32) (M : zM) (hk36 : ∀ (x2 : Int32) (M : zM) (r : Int32 × zM), k36 x2 M = some r → zS Y_X9_readBy 36 [some (zO 9), some (zI x1), some (zI x2), none, none, none, none] [] M (some r.1, r.2)) (hk42 : ∀ (x3 : Int32) (M : zM) (r : Int32 × zM), k42 x3 M = some r → zS Y_X9_readBy 42 [some (zO 9), some (zI x1), some (zI x2), some (zI x3), none, none, none] [] M (some r.1, r.2)) : ∀ (nn : Nat) (x4 : Int32) (x5 : Int32) (r : Int32 × zM), p_X9_readBy_54 k36 k42 x1 x2 x3 M nn x4 x5 = some r → zS Y_X9_readBy 54 [some (zO 9), some (zI x1), some (zI x2), some (zI x3), some (zI x4), some (zI x5), none] [] M (some r.1, r.2) := by
  intro nn
  induction nn with
  | zero => intro x4 x5 r h; cases h
  | succ nn ih =>
  intro x4 x5 r h
  rw [p_X9_readBy_54] at h
  refine zS_iload dX9_readBy_54 rfl ?_
  refine zS_bipush (v := (9 : Int32)) dX9_readBy_56 (by decide) ?_
  refine zS_icmp_ge (tgt := 139) dX9_readBy_58 (by decide) (fun c58 => ?_) (fun c58 => ?_)
  · rw [if_pos c58] at h
    refine zS_aload_nO dX9_readBy_139 rfl rfl ?_
    refine gf_9_13 dX9_readBy_140 zw_348 ?_
    refine zS_bipush (v := (10 : Int32)) dX9_readBy_143 (by decide) ?_
    refine zS_iload_n dX9_readBy_145 rfl rfl ?_
    refine zS_imul dX9_readBy_146 ?_
    refine zS_iload_n dX9_readBy_147 rfl rfl ?_
    refine zS_iadd dX9_readBy_148 ?_
    refine zS_iload dX9_readBy_149 rfl ?_
    by_cases b151 : ((10 : Int32) * x2) + x3 < 0 ∨ 130 ≤ (((10 : Int32) * x2) + x3).toNatClampNeg
    · rw [if_pos b151] at h; cases h
    rw [if_neg b151] at h
    refine zS_iast b151 dX9_readBy_151 ?_
    refine zS_iinc (v := x3 + (1 : Int32)) (ls' := [some (zO 9), some (zI x1), some (zI x2), some (zI (x3 + (1 : Int32))), some (zI x4), some (zI x5), none]) dX9_readBy_152 rfl rfl (by decide) rfl rfl ?_
    refine zS_goto (tgt := 42) dX9_readBy_155 (by decide) ?_
    exact zS_wk [some (zO 9), some (zI x1), some (zI x2), some (zI (x3 + (1 : Int32))), none, none, none] (And.intro rfl (And.intro rfl (And.intro rfl (And.intro rfl trivial)))) (hk42 (x3 + (1 : Int32)) (zset M 85 ((((10 : Int32) * x2) + x3).toNatClampNeg) x4) r h)
  · rw [if_neg c58] at h
    refine zS_iconst (v := (0 : Int32)) dX9_readBy_61 (by decide) ?_
    refine zS_istore (ls' := [some (zO 9), some (zI x1), some (zI x2), some (zI x3), some (zI x4), some (zI x5), some (zI (0 : Int32))]) dX9_readBy_62 (by decide) rfl rfl ?_
    exact zS_wk [some (zO 9), some (zI x1), some (zI x2), some (zI x3), some (zI x4), some (zI x5), some (zI (0 : Int32))] (And.intro rfl (And.intro rfl (And.intro rfl (And.intro rfl (And.intro rfl (And.intro rfl (And.intro rfl trivial))))))) (zc_X9_readBy_64 x1 x2 x3 x5 M hk36 hk42 ih 5000 x4 (0 : Int32) r h)
def p_X9_readBy_42 (k36 : Int32 → zM → Option (Int32 × zM)) (x1 : Int32) (x2 : Int32) : Nat → Int32 → zM → Option (Int32 × zM)
  | 0, _, _ => none
  | nn + 1, x3, M =>
  if (10 : Int32) ≤ x3 then
    k36 (x2 + (-1 : Int32)) M
  else
    p_X9_readBy_54 k36 (p_X9_readBy_42 k36 x1 x2 nn) x1 x2 x3 M 5000 (0 : Int32) (0 : Int32)
set_option maxRecDepth 20000 in
set_option maxHeartbeats 4000000 in
theorem zc_X9_readBy_42 {k36 : Int32 → zM → Option (Int32 × zM)} (x1 : Int32) (x2 : Int32) (hk36 : ∀ (x2 : Int32) (M : zM) (r : Int32 × zM), k36 x2 M = some r → zS Y_X9_readBy 36 [some (zO 9), some (zI x1), some (zI x2), none, none, none, none] [] M (some r.1, r.2)) : ∀ (nn : Nat) (x3 : Int32) (M : zM) (r : Int32 × zM), p_X9_readBy_42 k36 x1 x2 nn x3 M = some r → zS Y_X9_readBy 42 [some (zO 9), some (zI x1), some (zI x2), some (zI x3), none, none, none] [] M (some r.1, r.2) := by
  intro nn
  induction nn with
  | zero => intro x3 M r h; cases h
  | succ nn ih =>
  intro x3 M r h
  rw [p_X9_readBy_42] at h
  refine zS_iload_n dX9_readBy_42 rfl rfl ?_
  refine zS_bipush (v := (10 : Int32)) dX9_readBy_43 (by decide) ?_
  refine zS_icmp_ge (tgt := 158) dX9_readBy_45 (by decide) (fun c45 => ?_) (fun c45 => ?_)
  · rw [if_pos c45] at h
    refine zS_iinc (v := x2 + (-1 : Int32)) (ls' := [some (zO 9), some (zI x1), some (zI (x2 + (-1 : Int32))), some (zI x3), none, none, none]) dX9_readBy_158 rfl rfl (by decide) rfl rfl ?_
    refine zS_goto (tgt := 36) dX9_readBy_161 (by decide) ?_
    exact zS_wk [some (zO 9), some (zI x1), some (zI (x2 + (-1 : Int32))), none, none, none, none] (And.intro rfl (And.intro rfl (And.intro rfl trivial))) (hk36 (x2 + (-1 : Int32)) M r h)
  · rw [if_neg c45] at h
    refine zS_iconst (v := (0 : Int32)) dX9_readBy_48 (by decide) ?_
    refine zS_istore (ls' := [some (zO 9), some (zI x1), some (zI x2), some (zI x3), some (zI (0 : Int32)), none, none]) dX9_readBy_49 (by decide) rfl rfl ?_
    refine zS_iconst (v := (0 : Int32)) dX9_readBy_51 (by decide) ?_
    refine zS_istore (ls' := [some (zO 9), some (zI x1), some (zI x2), some (zI x3), some (zI (0 : Int32)), some (zI (0 : Int32)), none]) dX9_readBy_52 (by decide) rfl rfl ?_
    exact zS_wk [some (zO 9), some (zI x1), some (zI x2), some (zI x3), some (zI (0 : Int32)), some (zI (0 : Int32)), none] (And.intro rfl (And.intro rfl (And.intro rfl (And.intro rfl (And.intro rfl (And.intro rfl trivial)))))) (zc_X9_readBy_54 x1 x2 x3 M hk36 ih 5000 (0 : Int32) (0 : Int32) r h)
def p_X9_readBy_36 (x1 : Int32) : Nat → Int32 → zM → Option (Int32 × zM)
  | 0, _, _ => none
  | nn + 1, x2, M =>
  if x2 < 0 then
    some (M 85 (9 : Int32).toNatClampNeg, M)
  else
    p_X9_readBy_42 (p_X9_readBy_36 x1 nn) x1 x2 5000 (0 : Int32) M
set_option maxRecDepth 20000 in
set_option maxHeartbeats 4000000 in
theorem zc_X9_readBy_36 (x1 : Int32) : ∀ (nn : Nat) (x2 : Int32) (M : zM) (r : Int32 × zM), p_X9_readBy_36 x1 nn x2 M = some r → zS Y_X9_readBy 36 [some (zO 9), some (zI x1), some (zI x2), none, none, none, none] [] M (some r.1, r.2) := by
  intro nn
  induction nn with
  | zero => intro x2 M r h; cases h
  | succ nn ih =>
  intro x2 M r h
  rw [p_X9_readBy_36] at h
  refine zS_iload_n dX9_readBy_36 rfl rfl ?_
  refine zS_if_lt (tgt := 164) dX9_readBy_37 (by decide) (fun c37 => ?_) (fun c37 => ?_)
  · rw [if_pos c37] at h
    refine zS_aload_nO dX9_readBy_164 rfl rfl ?_
    refine gf_9_13 dX9_readBy_165 zw_348 ?_
    refine zS_bipush (v := (9 : Int32)) dX9_readBy_168 (by decide) ?_
    refine zS_iald (by decide) dX9_readBy_170 ?_
    cases h
    exact zS_ireturn dX9_readBy_171 rfl rfl
  · rw [if_neg c37] at h
    refine zS_iconst (v := (0 : Int32)) dX9_readBy_40 (by decide) ?_
    refine zS_istore_n (ls' := [some (zO 9), some (zI x1), some (zI x2), some (zI (0 : Int32)), none, none, none]) dX9_readBy_41 rfl (by decide) rfl rfl ?_
    exact zS_wk [some (zO 9), some (zI x1), some (zI x2), some (zI (0 : Int32)), none, none, none] (And.intro rfl (And.intro rfl (And.intro rfl (And.intro rfl trivial)))) (zc_X9_readBy_42 x1 x2 ih 5000 (0 : Int32) M r h)
def p_X9_readBy_2 (x1 : Int32) : Nat → Int32 → zM → Option (Int32 × zM)
  | 0, _, _ => none
  | nn + 1, x2, M =>
  if (10 : Int32) ≤ x2 then
    p_X9_readBy_36 x1 5000 ((M 9 11) - (1 : Int32)) M
  else
    if ((10 : Int32) * (M 9 11)) + x2 < 0 ∨ 130 ≤ (((10 : Int32) * (M 9 11)) + x2).toNatClampNeg then none else
    p_X9_readBy_2 x1 nn (x2 + (1 : Int32)) (zset M 85 ((((10 : Int32) * (M 9 11)) + x2).toNatClampNeg) (1 : Int32))
set_option maxRecDepth 20000 in
set_option maxHeartbeats 4000000 in
theorem zc_X9_readBy_2 (x1 : Int32) : ∀ (nn : Nat) (x2 : Int32) (M : zM) (r : Int32 × zM), p_X9_readBy_2 x1 nn x2 M = some r → zS Y_X9_readBy 2 [some (zO 9), some (zI x1), some (zI x2), none, none, none, none] [] M (some r.1, r.2) := by
  intro nn
  induction nn with
  | zero => intro x2 M r h; cases h
  | succ nn ih =>
  intro x2 M r h
  rw [p_X9_readBy_2] at h
  refine zS_iload_n dX9_readBy_2 rfl rfl ?_
  refine zS_bipush (v := (10 : Int32)) dX9_readBy_3 (by decide) ?_
  refine zS_icmp_ge (tgt := 29) dX9_readBy_5 (by decide) (fun c5 => ?_) (fun c5 => ?_)
  · rw [if_pos c5] at h
    refine zS_aload_nO dX9_readBy_29 rfl rfl ?_
    refine gf_9_11 dX9_readBy_30 zw_346 ?_
    refine zS_iconst (v := (1 : Int32)) dX9_readBy_33 (by decide) ?_
    refine zS_isub dX9_readBy_34 ?_
    refine zS_istore_n (ls' := [some (zO 9), some (zI x1), some (zI ((M 9 11) - (1 : Int32))), none, none, none, none]) dX9_readBy_35 rfl (by decide) rfl rfl ?_
    exact zS_wk [some (zO 9), some (zI x1), some (zI ((M 9 11) - (1 : Int32))), none, none, none, none] (And.intro rfl (And.intro rfl (And.intro rfl trivial))) (zc_X9_readBy_36 x1 5000 ((M 9 11) - (1 : Int32)) M r h)
  · rw [if_neg c5] at h
    refine zS_aload_nO dX9_readBy_8 rfl rfl ?_
    refine gf_9_13 dX9_readBy_9 zw_348 ?_
    refine zS_bipush (v := (10 : Int32)) dX9_readBy_12 (by decide) ?_
    refine zS_aload_nO dX9_readBy_14 rfl rfl ?_
    refine gf_9_11 dX9_readBy_15 zw_346 ?_
    refine zS_imul dX9_readBy_18 ?_
    refine zS_iload_n dX9_readBy_19 rfl rfl ?_
    refine zS_iadd dX9_readBy_20 ?_
    refine zS_iconst (v := (1 : Int32)) dX9_readBy_21 (by decide) ?_
    by_cases b22 : ((10 : Int32) * (M 9 11)) + x2 < 0 ∨ 130 ≤ (((10 : Int32) * (M 9 11)) + x2).toNatClampNeg
    · rw [if_pos b22] at h; cases h
    rw [if_neg b22] at h
    refine zS_iast b22 dX9_readBy_22 ?_
    refine zS_iinc (v := x2 + (1 : Int32)) (ls' := [some (zO 9), some (zI x1), some (zI (x2 + (1 : Int32))), none, none, none, none]) dX9_readBy_23 rfl rfl (by decide) rfl rfl ?_
    refine zS_goto (tgt := 2) dX9_readBy_26 (by decide) ?_
    exact zS_wk [some (zO 9), some (zI x1), some (zI (x2 + (1 : Int32))), none, none, none, none] (And.intro rfl (And.intro rfl (And.intro rfl trivial))) (ih (x2 + (1 : Int32)) (zset M 85 ((((10 : Int32) * (M 9 11)) + x2).toNatClampNeg) (1 : Int32)) r h)
def p_X9_readBy (x1 : Int32) (M : zM) : Option (Int32 × zM) :=
  p_X9_readBy_2 x1 5000 (0 : Int32) M
set_option maxRecDepth 20000 in
set_option maxHeartbeats 4000000 in
theorem zc_X9_readBy (x1 : Int32) (M : zM) {r : Int32 × zM} (h : p_X9_readBy x1 M = some r) : zS Y_X9_readBy 0 [some (zO 9), some (zI x1), none, none, none, none, none] [] M (some r.1, r.2) := by
  rw [p_X9_readBy] at h
  refine zS_iconst (v := (0 : Int32)) dX9_readBy_0 (by decide) ?_
  refine zS_istore_n (ls' := [some (zO 9), some (zI x1), some (zI (0 : Int32)), none, none, none, none]) dX9_readBy_1 rfl (by decide) rfl rfl ?_
  exact zS_wk [some (zO 9), some (zI x1), some (zI (0 : Int32)), none, none, none, none] (And.intro rfl (And.intro rfl (And.intro rfl trivial))) (zc_X9_readBy_2 x1 5000 (0 : Int32) M r h)
def p_X9_read (x1 : Int32) (M : zM) : Option (Int32 × zM) :=
  (p_X9_isRegion x1).bind fun r1 =>
  if r1 = 0 then
    some ((-2 : Int32), M)
  else
    (p_X9_readBy x1 M).bind fun q9 =>
    some (q9.1, q9.2)
set_option maxRecDepth 20000 in
set_option maxHeartbeats 4000000 in
theorem zc_X9_read (x1 : Int32) (M : zM) {r : Int32 × zM} (h : p_X9_read x1 M = some r) : zS Y_X9_read 0 [some (zO 9), some (zI x1)] [] M (some r.1, r.2) := by
  rw [p_X9_read] at h
  refine zS_iload_n dX9_read_0 rfl rfl ?_
  obtain ⟨r1, h1, h⟩ := zbind h
  refine zS_callS (as := [zI x1]) (st := []) (ls0 := [some (zI x1)]) dX9_read_1 okY_X9_isRegion rfl rfl zw_344 zw_345 np_X9_isRegion (by decide) (Nat.le_of_ble_eq_true rfl) rfl (Nat.le_of_ble_eq_true rfl) (And.intro rfl trivial) (zc_X9_isRegion x1 M h1) ?_
  refine zS_if_eq (tgt := 15) dX9_read_4 (by decide) (fun c4 => ?_) (fun c4 => ?_)
  · rw [if_pos c4] at h
    refine zS_bipush (v := (-2 : Int32)) dX9_read_15 (by decide) ?_
    cases h
    exact zS_ireturn dX9_read_17 rfl rfl
  · rw [if_neg c4] at h
    refine zS_aload_nO dX9_read_7 rfl rfl ?_
    refine zS_iload_n dX9_read_8 rfl rfl ?_
    obtain ⟨q9, h9, h⟩ := zbind h
    refine zS_callV (as := [zI x1]) (st := []) (ls0 := [some (zO 9), some (zI x1), none, none, none, none, none]) dX9_read_9 okY_X9_readBy rfl rfl lay_9 rfl zw_354 zw_355 zw_356 np_X9_readBy (by decide) (Nat.le_of_ble_eq_true rfl) rfl (Nat.le_of_ble_eq_true rfl) (And.intro rfl (And.intro rfl trivial)) (zc_X9_readBy x1 M h9) ?_
    refine zS_goto (tgt := 17) dX9_read_12 (by decide) ?_
    cases h
    exact zS_ireturn dX9_read_17 rfl rfl
def p_X9_first_111 (k44 : Int32 → Int32 → Int32 → Option (Int32 × zM)) (k56 : Int32 → Int32 → Option (Int32 × zM)) (x1 : Int32) (x2 : Int32) (x3 : Int32) (x4 : Int32) (x5 : Int32) (x6 : Int32) (x7 : Int32) (x8 : Int32) (t2 : Int32) (t1 : Int32) (M : zM) : Option (Int32 × zM) :=
  (p_X9_fitsSo t1 t2 x7 M).bind fun r113 =>
  if r113 = 0 then
    k56 x4 (x6 + (1 : Int32))
  else
    if ((10 : Int32) * (x5 + (1 : Int32))) + x7 < 0 ∨ 130 ≤ (((10 : Int32) * (x5 + (1 : Int32))) + x7).toNatClampNeg then none else
    if (M 85 (((10 : Int32) * (x5 + (1 : Int32))) + x7).toNatClampNeg) ≤ 0 then
      k56 x4 (x6 + (1 : Int32))
    else
      k56 (((16 : Int32) * x7) + x8) (x6 + (1 : Int32))
set_option maxRecDepth 20000 in
set_option maxHeartbeats 4000000 in
theorem zc_X9_first_111 {k44 : Int32 → Int32 → Int32 → Option (Int32 × zM)} {k56 : Int32 → Int32 → Option (Int32 × zM)} (x1 : Int32) (x2 : Int32) (x3 : Int32) (x4 : Int32) (x5 : Int32) (x6 : Int32) (x7 : Int32) (x8 : Int32) (t2 : Int32) (t1 : Int32) (M : zM) (hk44 : ∀ (x3 : Int32) (x4 : Int32) (x5 : Int32) (r : Int32 × zM), k44 x3 x4 x5 = some r → zS Y_X9_first 44 [some (zO 9), some (zI x1), some (zI x2), some (zI x3), some (zI x4), some (zI x5), none, none, none] [] M (some r.1, r.2)) (hk56 : ∀ (x4 : Int32) (x6 : Int32) (r : Int32 × zM), k56 x4 x6 = some r → zS Y_X9_first 56 [some (zO 9), some (zI x1), some (zI x2), some (zI x3), some (zI x4), some (zI x5), some (zI x6), none, none] [] M (some r.1, r.2)) {r : Int32 × zM} (h : p_X9_first_111 k44 k56 x1 x2 x3 x4 x5 x6 x7 x8 t2 t1 M = some r) : zS Y_X9_first 111 [some (zO 9), some (zI x1), some (zI x2), some (zI x3), some (zI x4), some (zI x5), some (zI x6), some (zI x7), some (zI x8)] [zI t2, zI t1, zO 9] M (some r.1, r.2) := by
  rw [p_X9_first_111] at h
  refine zS_iload dX9_first_111 rfl ?_
  obtain ⟨r113, h113, h⟩ := zbind h
  refine zS_callV (as := [zI t1, zI t2, zI x7]) (st := []) (ls0 := [some (zO 9), some (zI t1), some (zI t2), some (zI x7), none, none]) dX9_first_113 okY_X9_fitsSo rfl rfl lay_9 rfl zw_322 zw_323 zw_324 np_X9_fitsSo (by decide) (Nat.le_of_ble_eq_true rfl) rfl (Nat.le_of_ble_eq_true rfl) (And.intro rfl (And.intro rfl (And.intro rfl (And.intro rfl trivial)))) (zc_X9_fitsSo t1 t2 x7 M h113) ?_
  refine zS_if_eq (tgt := 147) dX9_first_116 (by decide) (fun c116 => ?_) (fun c116 => ?_)
  · rw [if_pos c116] at h
    refine zS_iinc (v := x6 + (1 : Int32)) (ls' := [some (zO 9), some (zI x1), some (zI x2), some (zI x3), some (zI x4), some (zI x5), some (zI (x6 + (1 : Int32))), some (zI x7), some (zI x8)]) dX9_first_147 rfl rfl (by decide) rfl rfl ?_
    refine zS_goto (tgt := 56) dX9_first_150 (by decide) ?_
    exact zS_wk [some (zO 9), some (zI x1), some (zI x2), some (zI x3), some (zI x4), some (zI x5), some (zI (x6 + (1 : Int32))), none, none] (And.intro rfl (And.intro rfl (And.intro rfl (And.intro rfl (And.intro rfl (And.intro rfl (And.intro rfl trivial))))))) (hk56 x4 (x6 + (1 : Int32)) r h)
  · rw [if_neg c116] at h
    refine zS_aload_nO dX9_first_119 rfl rfl ?_
    refine gf_9_13 dX9_first_120 zw_348 ?_
    refine zS_bipush (v := (10 : Int32)) dX9_first_123 (by decide) ?_
    refine zS_iload dX9_first_125 rfl ?_
    refine zS_iconst (v := (1 : Int32)) dX9_first_127 (by decide) ?_
    refine zS_iadd dX9_first_128 ?_
    refine zS_imul dX9_first_129 ?_
    refine zS_iload dX9_first_130 rfl ?_
    refine zS_iadd dX9_first_132 ?_
    by_cases b133 : ((10 : Int32) * (x5 + (1 : Int32))) + x7 < 0 ∨ 130 ≤ (((10 : Int32) * (x5 + (1 : Int32))) + x7).toNatClampNeg
    · rw [if_pos b133] at h; cases h
    rw [if_neg b133] at h
    refine zS_iald b133 dX9_first_133 ?_
    refine zS_if_le (tgt := 147) dX9_first_134 (by decide) (fun c134 => ?_) (fun c134 => ?_)
    · rw [if_pos c134] at h
      refine zS_iinc (v := x6 + (1 : Int32)) (ls' := [some (zO 9), some (zI x1), some (zI x2), some (zI x3), some (zI x4), some (zI x5), some (zI (x6 + (1 : Int32))), some (zI x7), some (zI x8)]) dX9_first_147 rfl rfl (by decide) rfl rfl ?_
      refine zS_goto (tgt := 56) dX9_first_150 (by decide) ?_
      exact zS_wk [some (zO 9), some (zI x1), some (zI x2), some (zI x3), some (zI x4), some (zI x5), some (zI (x6 + (1 : Int32))), none, none] (And.intro rfl (And.intro rfl (And.intro rfl (And.intro rfl (And.intro rfl (And.intro rfl (And.intro rfl trivial))))))) (hk56 x4 (x6 + (1 : Int32)) r h)
    · rw [if_neg c134] at h
      refine zS_bipush (v := (16 : Int32)) dX9_first_137 (by decide) ?_
      refine zS_iload dX9_first_139 rfl ?_
      refine zS_imul dX9_first_141 ?_
      refine zS_iload dX9_first_142 rfl ?_
      refine zS_iadd dX9_first_144 ?_
      refine zS_istore (ls' := [some (zO 9), some (zI x1), some (zI x2), some (zI x3), some (zI (((16 : Int32) * x7) + x8)), some (zI x5), some (zI x6), some (zI x7), some (zI x8)]) dX9_first_145 (by decide) rfl rfl ?_
      refine zS_iinc (v := x6 + (1 : Int32)) (ls' := [some (zO 9), some (zI x1), some (zI x2), some (zI x3), some (zI (((16 : Int32) * x7) + x8)), some (zI x5), some (zI (x6 + (1 : Int32))), some (zI x7), some (zI x8)]) dX9_first_147 rfl rfl (by decide) rfl rfl ?_
      refine zS_goto (tgt := 56) dX9_first_150 (by decide) ?_
      exact zS_wk [some (zO 9), some (zI x1), some (zI x2), some (zI x3), some (zI (((16 : Int32) * x7) + x8)), some (zI x5), some (zI (x6 + (1 : Int32))), none, none] (And.intro rfl (And.intro rfl (And.intro rfl (And.intro rfl (And.intro rfl (And.intro rfl (And.intro rfl trivial))))))) (hk56 (((16 : Int32) * x7) + x8) (x6 + (1 : Int32)) r h)
def p_X9_first_56 (k44 : Int32 → Int32 → Int32 → Option (Int32 × zM)) (x1 : Int32) (x2 : Int32) (x3 : Int32) (x5 : Int32) (M : zM) : Nat → Int32 → Int32 → Option (Int32 × zM)
  | 0, _, _ => none
  | nn + 1, x4, x6 =>
  if (72 : Int32) ≤ x6 then
    k44 (x4 / (16 : Int32)) x4 (x5 + (1 : Int32))
  else
    if x4 = (-1 : Int32) then
      (p_X9_isSung x1 x5 (x6 / (8 : Int32)) (x6 - x6 / (8 : Int32) * (8 : Int32)) M).bind fun r91 =>
      if r91 = 0 then
        p_X9_first_56 k44 x1 x2 x3 x5 M nn x4 (x6 + (1 : Int32))
      else
        if x3 = (9 : Int32) then
          p_X9_first_111 k44 (p_X9_first_56 k44 x1 x2 x3 x5 M nn) x1 x2 x3 x4 x5 x6 (x6 / (8 : Int32)) (x6 - x6 / (8 : Int32) * (8 : Int32)) (-1 : Int32) (x6 - x6 / (8 : Int32) * (8 : Int32)) M
        else
          p_X9_first_111 k44 (p_X9_first_56 k44 x1 x2 x3 x5 M nn) x1 x2 x3 x4 x5 x6 (x6 / (8 : Int32)) (x6 - x6 / (8 : Int32) * (8 : Int32)) x3 (x6 - x6 / (8 : Int32) * (8 : Int32)) M
    else
      k44 (x4 / (16 : Int32)) x4 (x5 + (1 : Int32))
set_option maxRecDepth 20000 in
set_option maxHeartbeats 4000000 in
theorem zc_X9_first_56 {k44 : Int32 → Int32 → Int32 → Option (Int32 × zM)} (x1 : Int32) (x2 : Int32) (x3 : Int32) (x5 : Int32) (M : zM) (hk44 : ∀ (x3 : Int32) (x4 : Int32) (x5 : Int32) (r : Int32 × zM), k44 x3 x4 x5 = some r → zS Y_X9_first 44 [some (zO 9), some (zI x1), some (zI x2), some (zI x3), some (zI x4), some (zI x5), none, none, none] [] M (some r.1, r.2)) : ∀ (nn : Nat) (x4 : Int32) (x6 : Int32) (r : Int32 × zM), p_X9_first_56 k44 x1 x2 x3 x5 M nn x4 x6 = some r → zS Y_X9_first 56 [some (zO 9), some (zI x1), some (zI x2), some (zI x3), some (zI x4), some (zI x5), some (zI x6), none, none] [] M (some r.1, r.2) := by
  intro nn
  induction nn with
  | zero => intro x4 x6 r h; cases h
  | succ nn ih =>
  intro x4 x6 r h
  rw [p_X9_first_56] at h
  refine zS_iload dX9_first_56 rfl ?_
  refine zS_bipush (v := (72 : Int32)) dX9_first_58 (by decide) ?_
  refine zS_icmp_ge (tgt := 153) dX9_first_60 (by decide) (fun c60 => ?_) (fun c60 => ?_)
  · rw [if_pos c60] at h
    refine zS_iload dX9_first_153 rfl ?_
    refine zS_bipush (v := (16 : Int32)) dX9_first_155 (by decide) ?_
    refine zS_idiv (by decide) dX9_first_157 ?_
    refine zS_istore_n (ls' := [some (zO 9), some (zI x1), some (zI x2), some (zI (x4 / (16 : Int32))), some (zI x4), some (zI x5), some (zI x6), none, none]) dX9_first_158 rfl (by decide) rfl rfl ?_
    refine zS_iinc (v := x5 + (1 : Int32)) (ls' := [some (zO 9), some (zI x1), some (zI x2), some (zI (x4 / (16 : Int32))), some (zI x4), some (zI (x5 + (1 : Int32))), some (zI x6), none, none]) dX9_first_159 rfl rfl (by decide) rfl rfl ?_
    refine zS_goto (tgt := 44) dX9_first_162 (by decide) ?_
    exact zS_wk [some (zO 9), some (zI x1), some (zI x2), some (zI (x4 / (16 : Int32))), some (zI x4), some (zI (x5 + (1 : Int32))), none, none, none] (And.intro rfl (And.intro rfl (And.intro rfl (And.intro rfl (And.intro rfl (And.intro rfl trivial)))))) (hk44 (x4 / (16 : Int32)) x4 (x5 + (1 : Int32)) r h)
  · rw [if_neg c60] at h
    refine zS_iload dX9_first_63 rfl ?_
    refine zS_iconst (v := (-1 : Int32)) dX9_first_65 (by decide) ?_
    refine zS_icmp_ne (tgt := 153) dX9_first_66 (by decide) (fun c66 => ?_) (fun c66 => ?_)
    · rw [if_neg c66] at h
      refine zS_iload dX9_first_153 rfl ?_
      refine zS_bipush (v := (16 : Int32)) dX9_first_155 (by decide) ?_
      refine zS_idiv (by decide) dX9_first_157 ?_
      refine zS_istore_n (ls' := [some (zO 9), some (zI x1), some (zI x2), some (zI (x4 / (16 : Int32))), some (zI x4), some (zI x5), some (zI x6), none, none]) dX9_first_158 rfl (by decide) rfl rfl ?_
      refine zS_iinc (v := x5 + (1 : Int32)) (ls' := [some (zO 9), some (zI x1), some (zI x2), some (zI (x4 / (16 : Int32))), some (zI x4), some (zI (x5 + (1 : Int32))), some (zI x6), none, none]) dX9_first_159 rfl rfl (by decide) rfl rfl ?_
      refine zS_goto (tgt := 44) dX9_first_162 (by decide) ?_
      exact zS_wk [some (zO 9), some (zI x1), some (zI x2), some (zI (x4 / (16 : Int32))), some (zI x4), some (zI (x5 + (1 : Int32))), none, none, none] (And.intro rfl (And.intro rfl (And.intro rfl (And.intro rfl (And.intro rfl (And.intro rfl trivial)))))) (hk44 (x4 / (16 : Int32)) x4 (x5 + (1 : Int32)) r h)
    · rw [if_pos c66] at h
      refine zS_iload dX9_first_69 rfl ?_
      refine zS_bipush (v := (8 : Int32)) dX9_first_71 (by decide) ?_
      refine zS_idiv (by decide) dX9_first_73 ?_
      refine zS_istore (ls' := [some (zO 9), some (zI x1), some (zI x2), some (zI x3), some (zI x4), some (zI x5), some (zI x6), some (zI (x6 / (8 : Int32))), none]) dX9_first_74 (by decide) rfl rfl ?_
      refine zS_iload dX9_first_76 rfl ?_
      refine zS_bipush (v := (8 : Int32)) dX9_first_78 (by decide) ?_
      refine zS_irem (by decide) dX9_first_80 ?_
      refine zS_istore (ls' := [some (zO 9), some (zI x1), some (zI x2), some (zI x3), some (zI x4), some (zI x5), some (zI x6), some (zI (x6 / (8 : Int32))), some (zI (x6 - x6 / (8 : Int32) * (8 : Int32)))]) dX9_first_81 (by decide) rfl rfl ?_
      refine zS_aload_nO dX9_first_83 rfl rfl ?_
      refine zS_iload_n dX9_first_84 rfl rfl ?_
      refine zS_iload dX9_first_85 rfl ?_
      refine zS_iload dX9_first_87 rfl ?_
      refine zS_iload dX9_first_89 rfl ?_
      obtain ⟨r91, h91, h⟩ := zbind h
      refine zS_callV (as := [zI x1, zI x5, zI (x6 / (8 : Int32)), zI (x6 - x6 / (8 : Int32) * (8 : Int32))]) (st := []) (ls0 := [some (zO 9), some (zI x1), some (zI x5), some (zI (x6 / (8 : Int32))), some (zI (x6 - x6 / (8 : Int32) * (8 : Int32)))]) dX9_first_91 okY_X9_isSung rfl rfl lay_9 rfl zw_351 zw_352 zw_353 np_X9_isSung (by decide) (Nat.le_of_ble_eq_true rfl) rfl (Nat.le_of_ble_eq_true rfl) (And.intro rfl (And.intro rfl (And.intro rfl (And.intro rfl (And.intro rfl trivial))))) (zc_X9_isSung x1 x5 (x6 / (8 : Int32)) (x6 - x6 / (8 : Int32) * (8 : Int32)) M h91) ?_
      refine zS_if_eq (tgt := 147) dX9_first_94 (by decide) (fun c94 => ?_) (fun c94 => ?_)
      · rw [if_pos c94] at h
        refine zS_iinc (v := x6 + (1 : Int32)) (ls' := [some (zO 9), some (zI x1), some (zI x2), some (zI x3), some (zI x4), some (zI x5), some (zI (x6 + (1 : Int32))), some (zI (x6 / (8 : Int32))), some (zI (x6 - x6 / (8 : Int32) * (8 : Int32)))]) dX9_first_147 rfl rfl (by decide) rfl rfl ?_
        refine zS_goto (tgt := 56) dX9_first_150 (by decide) ?_
        exact zS_wk [some (zO 9), some (zI x1), some (zI x2), some (zI x3), some (zI x4), some (zI x5), some (zI (x6 + (1 : Int32))), none, none] (And.intro rfl (And.intro rfl (And.intro rfl (And.intro rfl (And.intro rfl (And.intro rfl (And.intro rfl trivial))))))) (ih x4 (x6 + (1 : Int32)) r h)
      · rw [if_neg c94] at h
        refine zS_aload_nO dX9_first_97 rfl rfl ?_
        refine zS_iload dX9_first_98 rfl ?_
        refine zS_iload_n dX9_first_100 rfl rfl ?_
        refine zS_bipush (v := (9 : Int32)) dX9_first_101 (by decide) ?_
        refine zS_icmp_ne (tgt := 110) dX9_first_103 (by decide) (fun c103 => ?_) (fun c103 => ?_)
        · rw [if_neg c103] at h
          refine zS_iload_n dX9_first_110 rfl rfl ?_
          exact zS_wk [some (zO 9), some (zI x1), some (zI x2), some (zI x3), some (zI x4), some (zI x5), some (zI x6), some (zI (x6 / (8 : Int32))), some (zI (x6 - x6 / (8 : Int32) * (8 : Int32)))] (And.intro rfl (And.intro rfl (And.intro rfl (And.intro rfl (And.intro rfl (And.intro rfl (And.intro rfl (And.intro rfl (And.intro rfl trivial))))))))) (zc_X9_first_111 x1 x2 x3 x4 x5 x6 (x6 / (8 : Int32)) (x6 - x6 / (8 : Int32) * (8 : Int32)) x3 (x6 - x6 / (8 : Int32) * (8 : Int32)) M hk44 ih h)
        · rw [if_pos c103] at h
          refine zS_iconst (v := (-1 : Int32)) dX9_first_106 (by decide) ?_
          refine zS_goto (tgt := 111) dX9_first_107 (by decide) ?_
          exact zS_wk [some (zO 9), some (zI x1), some (zI x2), some (zI x3), some (zI x4), some (zI x5), some (zI x6), some (zI (x6 / (8 : Int32))), some (zI (x6 - x6 / (8 : Int32) * (8 : Int32)))] (And.intro rfl (And.intro rfl (And.intro rfl (And.intro rfl (And.intro rfl (And.intro rfl (And.intro rfl (And.intro rfl (And.intro rfl trivial))))))))) (zc_X9_first_111 x1 x2 x3 x4 x5 x6 (x6 / (8 : Int32)) (x6 - x6 / (8 : Int32) * (8 : Int32)) (-1 : Int32) (x6 - x6 / (8 : Int32) * (8 : Int32)) M hk44 ih h)
def p_X9_first_44 (x1 : Int32) (x2 : Int32) (M : zM) : Nat → Int32 → Int32 → Int32 → Option (Int32 × zM)
  | 0, _, _, _ => none
  | nn + 1, x3, x4, x5 =>
  if x2 < x5 then
    some (x4, M)
  else
    p_X9_first_56 (p_X9_first_44 x1 x2 M nn) x1 x2 x3 x5 M 5000 (-1 : Int32) (0 : Int32)
set_option maxRecDepth 20000 in
set_option maxHeartbeats 4000000 in
theorem zc_X9_first_44 (x1 : Int32) (x2 : Int32) (M : zM) : ∀ (nn : Nat) (x3 : Int32) (x4 : Int32) (x5 : Int32) (r : Int32 × zM), p_X9_first_44 x1 x2 M nn x3 x4 x5 = some r → zS Y_X9_first 44 [some (zO 9), some (zI x1), some (zI x2), some (zI x3), some (zI x4), some (zI x5), none, none, none] [] M (some r.1, r.2) := by
  intro nn
  induction nn with
  | zero => intro x3 x4 x5 r h; cases h
  | succ nn ih =>
  intro x3 x4 x5 r h
  rw [p_X9_first_44] at h
  refine zS_iload dX9_first_44 rfl ?_
  refine zS_iload_n dX9_first_46 rfl rfl ?_
  refine zS_icmp_gt (tgt := 165) dX9_first_47 (by decide) (fun c47 => ?_) (fun c47 => ?_)
  · rw [if_pos c47] at h
    refine zS_iload dX9_first_165 rfl ?_
    cases h
    exact zS_ireturn dX9_first_167 rfl rfl
  · rw [if_neg c47] at h
    refine zS_iconst (v := (-1 : Int32)) dX9_first_50 (by decide) ?_
    refine zS_istore (ls' := [some (zO 9), some (zI x1), some (zI x2), some (zI x3), some (zI (-1 : Int32)), some (zI x5), none, none, none]) dX9_first_51 (by decide) rfl rfl ?_
    refine zS_iconst (v := (0 : Int32)) dX9_first_53 (by decide) ?_
    refine zS_istore (ls' := [some (zO 9), some (zI x1), some (zI x2), some (zI x3), some (zI (-1 : Int32)), some (zI x5), some (zI (0 : Int32)), none, none]) dX9_first_54 (by decide) rfl rfl ?_
    exact zS_wk [some (zO 9), some (zI x1), some (zI x2), some (zI x3), some (zI (-1 : Int32)), some (zI x5), some (zI (0 : Int32)), none, none] (And.intro rfl (And.intro rfl (And.intro rfl (And.intro rfl (And.intro rfl (And.intro rfl (And.intro rfl trivial))))))) (zc_X9_first_56 x1 x2 x3 x5 M ih 5000 (-1 : Int32) (0 : Int32) r h)
def p_X9_first (x1 : Int32) (x2 : Int32) (M : zM) : Option (Int32 × zM) :=
  (p_X9_isRegion x1).bind fun r1 =>
  if r1 = 0 then
    some ((-2 : Int32), M)
  else
    if 0 ≤ x2 then
      (p_X9_readBy x1 M).bind fun q19 =>
      if q19.1 = 0 then
        some ((-1 : Int32), q19.2)
      else
        if x2 < (q19.2 9 11) then
          p_X9_first_44 x1 x2 q19.2 5000 (9 : Int32) (-1 : Int32) (0 : Int32)
        else
          some ((-1 : Int32), q19.2)
    else
      some ((-3 : Int32), M)
set_option maxRecDepth 20000 in
set_option maxHeartbeats 4000000 in
theorem zc_X9_first (x1 : Int32) (x2 : Int32) (M : zM) {r : Int32 × zM} (h : p_X9_first x1 x2 M = some r) : zS Y_X9_first 0 [some (zO 9), some (zI x1), some (zI x2), none, none, none, none, none, none] [] M (some r.1, r.2) := by
  rw [p_X9_first] at h
  refine zS_iload_n dX9_first_0 rfl rfl ?_
  obtain ⟨r1, h1, h⟩ := zbind h
  refine zS_callS (as := [zI x1]) (st := []) (ls0 := [some (zI x1)]) dX9_first_1 okY_X9_isRegion rfl rfl zw_344 zw_345 np_X9_isRegion (by decide) (Nat.le_of_ble_eq_true rfl) rfl (Nat.le_of_ble_eq_true rfl) (And.intro rfl trivial) (zc_X9_isRegion x1 M h1) ?_
  refine zS_if_ne (tgt := 10) dX9_first_4 (by decide) (fun c4 => ?_) (fun c4 => ?_)
  · rw [if_neg c4] at h
    refine zS_iload_n dX9_first_10 rfl rfl ?_
    refine zS_if_ge (tgt := 17) dX9_first_11 (by decide) (fun c11 => ?_) (fun c11 => ?_)
    · rw [if_pos c11] at h
      refine zS_aload_nO dX9_first_17 rfl rfl ?_
      refine zS_iload_n dX9_first_18 rfl rfl ?_
      obtain ⟨q19, h19, h⟩ := zbind h
      refine zS_callV (as := [zI x1]) (st := []) (ls0 := [some (zO 9), some (zI x1), none, none, none, none, none]) dX9_first_19 okY_X9_readBy rfl rfl lay_9 rfl zw_354 zw_355 zw_356 np_X9_readBy (by decide) (Nat.le_of_ble_eq_true rfl) rfl (Nat.le_of_ble_eq_true rfl) (And.intro rfl (And.intro rfl trivial)) (zc_X9_readBy x1 M h19) ?_
      refine zS_if_eq (tgt := 33) dX9_first_22 (by decide) (fun c22 => ?_) (fun c22 => ?_)
      · rw [if_pos c22] at h
        refine zS_iconst (v := (-1 : Int32)) dX9_first_33 (by decide) ?_
        cases h
        exact zS_ireturn dX9_first_34 rfl rfl
      · rw [if_neg c22] at h
        refine zS_iload_n dX9_first_25 rfl rfl ?_
        refine zS_aload_nO dX9_first_26 rfl rfl ?_
        refine gf_9_11 dX9_first_27 zw_346 ?_
        refine zS_icmp_lt (tgt := 35) dX9_first_30 (by decide) (fun c30 => ?_) (fun c30 => ?_)
        · rw [if_pos c30] at h
          refine zS_bipush (v := (9 : Int32)) dX9_first_35 (by decide) ?_
          refine zS_istore_n (ls' := [some (zO 9), some (zI x1), some (zI x2), some (zI (9 : Int32)), none, none, none, none, none]) dX9_first_37 rfl (by decide) rfl rfl ?_
          refine zS_iconst (v := (-1 : Int32)) dX9_first_38 (by decide) ?_
          refine zS_istore (ls' := [some (zO 9), some (zI x1), some (zI x2), some (zI (9 : Int32)), some (zI (-1 : Int32)), none, none, none, none]) dX9_first_39 (by decide) rfl rfl ?_
          refine zS_iconst (v := (0 : Int32)) dX9_first_41 (by decide) ?_
          refine zS_istore (ls' := [some (zO 9), some (zI x1), some (zI x2), some (zI (9 : Int32)), some (zI (-1 : Int32)), some (zI (0 : Int32)), none, none, none]) dX9_first_42 (by decide) rfl rfl ?_
          exact zS_wk [some (zO 9), some (zI x1), some (zI x2), some (zI (9 : Int32)), some (zI (-1 : Int32)), some (zI (0 : Int32)), none, none, none] (And.intro rfl (And.intro rfl (And.intro rfl (And.intro rfl (And.intro rfl (And.intro rfl trivial)))))) (zc_X9_first_44 x1 x2 q19.2 5000 (9 : Int32) (-1 : Int32) (0 : Int32) r h)
        · rw [if_neg c30] at h
          refine zS_iconst (v := (-1 : Int32)) dX9_first_33 (by decide) ?_
          cases h
          exact zS_ireturn dX9_first_34 rfl rfl
    · rw [if_neg c11] at h
      refine zS_bipush (v := (-3 : Int32)) dX9_first_14 (by decide) ?_
      cases h
      exact zS_ireturn dX9_first_16 rfl rfl
  · rw [if_pos c4] at h
    refine zS_bipush (v := (-2 : Int32)) dX9_first_7 (by decide) ?_
    cases h
    exact zS_ireturn dX9_first_9 rfl rfl
def p_X9_home_6 : Nat → Int32 → Int32 → Int32 → zM → Option (Int32 × zM)
  | 0, _, _, _, _ => none
  | nn + 1, x1, x2, x3, M =>
  if (3 : Int32) ≤ x3 then
    some (x1, M)
  else
    (p_X9_readBy x3 M).bind fun q13 =>
    if q13.1 ≤ 0 then
      p_X9_home_6 nn x1 x2 (x3 + (1 : Int32)) q13.2
    else
      if x1 = (-1 : Int32) then
        p_X9_home_6 nn x3 q13.1 (x3 + (1 : Int32)) q13.2
      else
        if x2 ≤ q13.1 then
          p_X9_home_6 nn x1 x2 (x3 + (1 : Int32)) q13.2
        else
          p_X9_home_6 nn x3 q13.1 (x3 + (1 : Int32)) q13.2
set_option maxRecDepth 20000 in
set_option maxHeartbeats 4000000 in
theorem zc_X9_home_6 : ∀ (nn : Nat) (x1 : Int32) (x2 : Int32) (x3 : Int32) (M : zM) (r : Int32 × zM), p_X9_home_6 nn x1 x2 x3 M = some r → zS Y_X9_home 6 [some (zO 9), some (zI x1), some (zI x2), some (zI x3), none] [] M (some r.1, r.2) := by
  intro nn
  induction nn with
  | zero => intro x1 x2 x3 M r h; cases h
  | succ nn ih =>
  intro x1 x2 x3 M r h
  rw [p_X9_home_6] at h
  refine zS_iload_n dX9_home_6 rfl rfl ?_
  refine zS_iconst (v := (3 : Int32)) dX9_home_7 (by decide) ?_
  refine zS_icmp_ge (tgt := 45) dX9_home_8 (by decide) (fun c8 => ?_) (fun c8 => ?_)
  · rw [if_pos c8] at h
    refine zS_iload_n dX9_home_45 rfl rfl ?_
    cases h
    exact zS_ireturn dX9_home_46 rfl rfl
  · rw [if_neg c8] at h
    refine zS_aload_nO dX9_home_11 rfl rfl ?_
    refine zS_iload_n dX9_home_12 rfl rfl ?_
    obtain ⟨q13, h13, h⟩ := zbind h
    refine zS_callV (as := [zI x3]) (st := []) (ls0 := [some (zO 9), some (zI x3), none, none, none, none, none]) dX9_home_13 okY_X9_readBy rfl rfl lay_9 rfl zw_354 zw_355 zw_356 np_X9_readBy (by decide) (Nat.le_of_ble_eq_true rfl) rfl (Nat.le_of_ble_eq_true rfl) (And.intro rfl (And.intro rfl trivial)) (zc_X9_readBy x3 M h13) ?_
    refine zS_istore (ls' := [some (zO 9), some (zI x1), some (zI x2), some (zI x3), some (zI q13.1)]) dX9_home_16 (by decide) rfl rfl ?_
    refine zS_iload dX9_home_18 rfl ?_
    refine zS_if_le (tgt := 39) dX9_home_20 (by decide) (fun c20 => ?_) (fun c20 => ?_)
    · rw [if_pos c20] at h
      refine zS_iinc (v := x3 + (1 : Int32)) (ls' := [some (zO 9), some (zI x1), some (zI x2), some (zI (x3 + (1 : Int32))), some (zI q13.1)]) dX9_home_39 rfl rfl (by decide) rfl rfl ?_
      refine zS_goto (tgt := 6) dX9_home_42 (by decide) ?_
      exact zS_wk [some (zO 9), some (zI x1), some (zI x2), some (zI (x3 + (1 : Int32))), none] (And.intro rfl (And.intro rfl (And.intro rfl (And.intro rfl trivial)))) (ih x1 x2 (x3 + (1 : Int32)) q13.2 r h)
    · rw [if_neg c20] at h
      refine zS_iload_n dX9_home_23 rfl rfl ?_
      refine zS_iconst (v := (-1 : Int32)) dX9_home_24 (by decide) ?_
      refine zS_icmp_eq (tgt := 34) dX9_home_25 (by decide) (fun c25 => ?_) (fun c25 => ?_)
      · rw [if_pos c25] at h
        refine zS_iload_n dX9_home_34 rfl rfl ?_
        refine zS_istore_n (ls' := [some (zO 9), some (zI x3), some (zI x2), some (zI x3), some (zI q13.1)]) dX9_home_35 rfl (by decide) rfl rfl ?_
        refine zS_iload dX9_home_36 rfl ?_
        refine zS_istore_n (ls' := [some (zO 9), some (zI x3), some (zI q13.1), some (zI x3), some (zI q13.1)]) dX9_home_38 rfl (by decide) rfl rfl ?_
        refine zS_iinc (v := x3 + (1 : Int32)) (ls' := [some (zO 9), some (zI x3), some (zI q13.1), some (zI (x3 + (1 : Int32))), some (zI q13.1)]) dX9_home_39 rfl rfl (by decide) rfl rfl ?_
        refine zS_goto (tgt := 6) dX9_home_42 (by decide) ?_
        exact zS_wk [some (zO 9), some (zI x3), some (zI q13.1), some (zI (x3 + (1 : Int32))), none] (And.intro rfl (And.intro rfl (And.intro rfl (And.intro rfl trivial)))) (ih x3 q13.1 (x3 + (1 : Int32)) q13.2 r h)
      · rw [if_neg c25] at h
        refine zS_iload dX9_home_28 rfl ?_
        refine zS_iload_n dX9_home_30 rfl rfl ?_
        refine zS_icmp_ge (tgt := 39) dX9_home_31 (by decide) (fun c31 => ?_) (fun c31 => ?_)
        · rw [if_pos c31] at h
          refine zS_iinc (v := x3 + (1 : Int32)) (ls' := [some (zO 9), some (zI x1), some (zI x2), some (zI (x3 + (1 : Int32))), some (zI q13.1)]) dX9_home_39 rfl rfl (by decide) rfl rfl ?_
          refine zS_goto (tgt := 6) dX9_home_42 (by decide) ?_
          exact zS_wk [some (zO 9), some (zI x1), some (zI x2), some (zI (x3 + (1 : Int32))), none] (And.intro rfl (And.intro rfl (And.intro rfl (And.intro rfl trivial)))) (ih x1 x2 (x3 + (1 : Int32)) q13.2 r h)
        · rw [if_neg c31] at h
          refine zS_iload_n dX9_home_34 rfl rfl ?_
          refine zS_istore_n (ls' := [some (zO 9), some (zI x3), some (zI x2), some (zI x3), some (zI q13.1)]) dX9_home_35 rfl (by decide) rfl rfl ?_
          refine zS_iload dX9_home_36 rfl ?_
          refine zS_istore_n (ls' := [some (zO 9), some (zI x3), some (zI q13.1), some (zI x3), some (zI q13.1)]) dX9_home_38 rfl (by decide) rfl rfl ?_
          refine zS_iinc (v := x3 + (1 : Int32)) (ls' := [some (zO 9), some (zI x3), some (zI q13.1), some (zI (x3 + (1 : Int32))), some (zI q13.1)]) dX9_home_39 rfl rfl (by decide) rfl rfl ?_
          refine zS_goto (tgt := 6) dX9_home_42 (by decide) ?_
          exact zS_wk [some (zO 9), some (zI x3), some (zI q13.1), some (zI (x3 + (1 : Int32))), none] (And.intro rfl (And.intro rfl (And.intro rfl (And.intro rfl trivial)))) (ih x3 q13.1 (x3 + (1 : Int32)) q13.2 r h)
def p_X9_home (M : zM) : Option (Int32 × zM) :=
  p_X9_home_6 5000 (-1 : Int32) (0 : Int32) (0 : Int32) M
set_option maxRecDepth 20000 in
set_option maxHeartbeats 4000000 in
theorem zc_X9_home (M : zM) {r : Int32 × zM} (h : p_X9_home M = some r) : zS Y_X9_home 0 [some (zO 9), none, none, none, none] [] M (some r.1, r.2) := by
  rw [p_X9_home] at h
  refine zS_iconst (v := (-1 : Int32)) dX9_home_0 (by decide) ?_
  refine zS_istore_n (ls' := [some (zO 9), some (zI (-1 : Int32)), none, none, none]) dX9_home_1 rfl (by decide) rfl rfl ?_
  refine zS_iconst (v := (0 : Int32)) dX9_home_2 (by decide) ?_
  refine zS_istore_n (ls' := [some (zO 9), some (zI (-1 : Int32)), some (zI (0 : Int32)), none, none]) dX9_home_3 rfl (by decide) rfl rfl ?_
  refine zS_iconst (v := (0 : Int32)) dX9_home_4 (by decide) ?_
  refine zS_istore_n (ls' := [some (zO 9), some (zI (-1 : Int32)), some (zI (0 : Int32)), some (zI (0 : Int32)), none]) dX9_home_5 rfl (by decide) rfl rfl ?_
  exact zS_wk [some (zO 9), some (zI (-1 : Int32)), some (zI (0 : Int32)), some (zI (0 : Int32)), none] (And.intro rfl (And.intro rfl (And.intro rfl (And.intro rfl trivial)))) (zc_X9_home_6 5000 (-1 : Int32) (0 : Int32) (0 : Int32) M r h)
def p_X9_rule_96 (x1 : Int32) (x2 : Int32) (x3 : Int32) : Nat → Int32 → zM → Option (Int32 × zM)
  | 0, _, _ => none
  | nn + 1, x4, M =>
  if x2 ≤ x4 then
    some ((1 : Int32), M)
  else
    if ((4 : Int32) * x1) + x4 < 0 ∨ 20 ≤ (((4 : Int32) * x1) + x4).toNatClampNeg then none else
    p_X9_rule_96 x1 x2 x3 nn (x4 + (1 : Int32)) (zset M 87 ((((4 : Int32) * x1) + x4).toNatClampNeg) ((x3 >>> (((4 : Int32) * x4) &&& 31)) &&& (15 : Int32)))
set_option maxRecDepth 20000 in
set_option maxHeartbeats 4000000 in
theorem zc_X9_rule_96 (x1 : Int32) (x2 : Int32) (x3 : Int32) : ∀ (nn : Nat) (x4 : Int32) (M : zM) (r : Int32 × zM), p_X9_rule_96 x1 x2 x3 nn x4 M = some r → zS Y_X9_rule 96 [some (zO 9), some (zI x1), some (zI x2), some (zI x3), some (zI x4)] [] M (some r.1, r.2) := by
  intro nn
  induction nn with
  | zero => intro x4 M r h; cases h
  | succ nn ih =>
  intro x4 M r h
  rw [p_X9_rule_96] at h
  refine zS_iload dX9_rule_96 rfl ?_
  refine zS_iload_n dX9_rule_98 rfl rfl ?_
  refine zS_icmp_ge (tgt := 128) dX9_rule_99 (by decide) (fun c99 => ?_) (fun c99 => ?_)
  · rw [if_pos c99] at h
    refine zS_iconst (v := (1 : Int32)) dX9_rule_128 (by decide) ?_
    cases h
    exact zS_ireturn dX9_rule_129 rfl rfl
  · rw [if_neg c99] at h
    refine zS_aload_nO dX9_rule_102 rfl rfl ?_
    refine gf_9_15 dX9_rule_103 zw_357 ?_
    refine zS_iconst (v := (4 : Int32)) dX9_rule_106 (by decide) ?_
    refine zS_iload_n dX9_rule_107 rfl rfl ?_
    refine zS_imul dX9_rule_108 ?_
    refine zS_iload dX9_rule_109 rfl ?_
    refine zS_iadd dX9_rule_111 ?_
    refine zS_iload_n dX9_rule_112 rfl rfl ?_
    refine zS_iconst (v := (4 : Int32)) dX9_rule_113 (by decide) ?_
    refine zS_iload dX9_rule_114 rfl ?_
    refine zS_imul dX9_rule_116 ?_
    refine zS_ishr dX9_rule_117 ?_
    refine zS_bipush (v := (15 : Int32)) dX9_rule_118 (by decide) ?_
    refine zS_iand dX9_rule_120 ?_
    by_cases b121 : ((4 : Int32) * x1) + x4 < 0 ∨ 20 ≤ (((4 : Int32) * x1) + x4).toNatClampNeg
    · rw [if_pos b121] at h; cases h
    rw [if_neg b121] at h
    refine zS_iast b121 dX9_rule_121 ?_
    refine zS_iinc (v := x4 + (1 : Int32)) (ls' := [some (zO 9), some (zI x1), some (zI x2), some (zI x3), some (zI (x4 + (1 : Int32)))]) dX9_rule_122 rfl rfl (by decide) rfl rfl ?_
    refine zS_goto (tgt := 96) dX9_rule_125 (by decide) ?_
    exact zS_wk [some (zO 9), some (zI x1), some (zI x2), some (zI x3), some (zI (x4 + (1 : Int32)))] (And.intro rfl (And.intro rfl (And.intro rfl (And.intro rfl (And.intro rfl trivial))))) (ih (x4 + (1 : Int32)) (zset M 87 ((((4 : Int32) * x1) + x4).toNatClampNeg) ((x3 >>> (((4 : Int32) * x4) &&& 31)) &&& (15 : Int32))) r h)
def p_X9_rule_57 (x1 : Int32) (x2 : Int32) (x3 : Int32) (M : zM) : Nat → Int32 → Option (Int32 × zM)
  | 0, _ => none
  | nn + 1, x4 =>
  if (M 9 18) ≤ x4 then
    if x1 < 0 ∨ 5 ≤ x1.toNatClampNeg then none else
    p_X9_rule_96 x1 x2 x3 5000 (0 : Int32) (zset M 86 x1.toNatClampNeg x2)
  else
    if x4 < 0 ∨ 3 ≤ x4.toNatClampNeg then none else
    if (M 89 x4.toNatClampNeg) = x1 then
      some ((-4 : Int32), M)
    else
      p_X9_rule_57 x1 x2 x3 M nn (x4 + (1 : Int32))
set_option maxRecDepth 20000 in
set_option maxHeartbeats 4000000 in
theorem zc_X9_rule_57 (x1 : Int32) (x2 : Int32) (x3 : Int32) (M : zM) : ∀ (nn : Nat) (x4 : Int32) (r : Int32 × zM), p_X9_rule_57 x1 x2 x3 M nn x4 = some r → zS Y_X9_rule 57 [some (zO 9), some (zI x1), some (zI x2), some (zI x3), some (zI x4)] [] M (some r.1, r.2) := by
  intro nn
  induction nn with
  | zero => intro x4 r h; cases h
  | succ nn ih =>
  intro x4 r h
  rw [p_X9_rule_57] at h
  refine zS_iload dX9_rule_57 rfl ?_
  refine zS_aload_nO dX9_rule_59 rfl rfl ?_
  refine gf_9_18 dX9_rule_60 zw_358 ?_
  refine zS_icmp_ge (tgt := 86) dX9_rule_63 (by decide) (fun c63 => ?_) (fun c63 => ?_)
  · rw [if_pos c63] at h
    refine zS_aload_nO dX9_rule_86 rfl rfl ?_
    refine gf_9_14 dX9_rule_87 zw_359 ?_
    refine zS_iload_n dX9_rule_90 rfl rfl ?_
    refine zS_iload_n dX9_rule_91 rfl rfl ?_
    by_cases b92 : x1 < 0 ∨ 5 ≤ x1.toNatClampNeg
    · rw [if_pos b92] at h; cases h
    rw [if_neg b92] at h
    refine zS_iast b92 dX9_rule_92 ?_
    refine zS_iconst (v := (0 : Int32)) dX9_rule_93 (by decide) ?_
    refine zS_istore (ls' := [some (zO 9), some (zI x1), some (zI x2), some (zI x3), some (zI (0 : Int32))]) dX9_rule_94 (by decide) rfl rfl ?_
    exact zS_wk [some (zO 9), some (zI x1), some (zI x2), some (zI x3), some (zI (0 : Int32))] (And.intro rfl (And.intro rfl (And.intro rfl (And.intro rfl (And.intro rfl trivial))))) (zc_X9_rule_96 x1 x2 x3 5000 (0 : Int32) (zset M 86 x1.toNatClampNeg x2) r h)
  · rw [if_neg c63] at h
    refine zS_aload_nO dX9_rule_66 rfl rfl ?_
    refine gf_9_21 dX9_rule_67 zw_360 ?_
    refine zS_iload dX9_rule_70 rfl ?_
    by_cases b72 : x4 < 0 ∨ 3 ≤ x4.toNatClampNeg
    · rw [if_pos b72] at h; cases h
    rw [if_neg b72] at h
    refine zS_iald b72 dX9_rule_72 ?_
    refine zS_iload_n dX9_rule_73 rfl rfl ?_
    refine zS_icmp_ne (tgt := 80) dX9_rule_74 (by decide) (fun c74 => ?_) (fun c74 => ?_)
    · rw [if_neg c74] at h
      refine zS_iinc (v := x4 + (1 : Int32)) (ls' := [some (zO 9), some (zI x1), some (zI x2), some (zI x3), some (zI (x4 + (1 : Int32)))]) dX9_rule_80 rfl rfl (by decide) rfl rfl ?_
      refine zS_goto (tgt := 57) dX9_rule_83 (by decide) ?_
      exact zS_wk [some (zO 9), some (zI x1), some (zI x2), some (zI x3), some (zI (x4 + (1 : Int32)))] (And.intro rfl (And.intro rfl (And.intro rfl (And.intro rfl (And.intro rfl trivial))))) (ih (x4 + (1 : Int32)) r h)
    · rw [if_pos c74] at h
      refine zS_bipush (v := (-4 : Int32)) dX9_rule_77 (by decide) ?_
      cases h
      exact zS_ireturn dX9_rule_79 rfl rfl
def p_X9_rule_25 (x1 : Int32) (x2 : Int32) (x3 : Int32) (M : zM) : Nat → Int32 → Option (Int32 × zM)
  | 0, _ => none
  | nn + 1, x4 =>
  if x2 ≤ x4 then
    p_X9_rule_57 x1 x2 x3 M 5000 (0 : Int32)
  else
    if ((x3 >>> (((4 : Int32) * x4) &&& 31)) &&& (15 : Int32)) ≤ (10 : Int32) then
      p_X9_rule_25 x1 x2 x3 M nn (x4 + (1 : Int32))
    else
      some ((-3 : Int32), M)
set_option maxRecDepth 20000 in
set_option maxHeartbeats 4000000 in
theorem zc_X9_rule_25 (x1 : Int32) (x2 : Int32) (x3 : Int32) (M : zM) : ∀ (nn : Nat) (x4 : Int32) (r : Int32 × zM), p_X9_rule_25 x1 x2 x3 M nn x4 = some r → zS Y_X9_rule 25 [some (zO 9), some (zI x1), some (zI x2), some (zI x3), some (zI x4)] [] M (some r.1, r.2) := by
  intro nn
  induction nn with
  | zero => intro x4 r h; cases h
  | succ nn ih =>
  intro x4 r h
  rw [p_X9_rule_25] at h
  refine zS_iload dX9_rule_25 rfl ?_
  refine zS_iload_n dX9_rule_27 rfl rfl ?_
  refine zS_icmp_ge (tgt := 54) dX9_rule_28 (by decide) (fun c28 => ?_) (fun c28 => ?_)
  · rw [if_pos c28] at h
    refine zS_iconst (v := (0 : Int32)) dX9_rule_54 (by decide) ?_
    refine zS_istore (ls' := [some (zO 9), some (zI x1), some (zI x2), some (zI x3), some (zI (0 : Int32))]) dX9_rule_55 (by decide) rfl rfl ?_
    exact zS_wk [some (zO 9), some (zI x1), some (zI x2), some (zI x3), some (zI (0 : Int32))] (And.intro rfl (And.intro rfl (And.intro rfl (And.intro rfl (And.intro rfl trivial))))) (zc_X9_rule_57 x1 x2 x3 M 5000 (0 : Int32) r h)
  · rw [if_neg c28] at h
    refine zS_iload_n dX9_rule_31 rfl rfl ?_
    refine zS_iconst (v := (4 : Int32)) dX9_rule_32 (by decide) ?_
    refine zS_iload dX9_rule_33 rfl ?_
    refine zS_imul dX9_rule_35 ?_
    refine zS_ishr dX9_rule_36 ?_
    refine zS_bipush (v := (15 : Int32)) dX9_rule_37 (by decide) ?_
    refine zS_iand dX9_rule_39 ?_
    refine zS_bipush (v := (10 : Int32)) dX9_rule_40 (by decide) ?_
    refine zS_icmp_le (tgt := 48) dX9_rule_42 (by decide) (fun c42 => ?_) (fun c42 => ?_)
    · rw [if_pos c42] at h
      refine zS_iinc (v := x4 + (1 : Int32)) (ls' := [some (zO 9), some (zI x1), some (zI x2), some (zI x3), some (zI (x4 + (1 : Int32)))]) dX9_rule_48 rfl rfl (by decide) rfl rfl ?_
      refine zS_goto (tgt := 25) dX9_rule_51 (by decide) ?_
      exact zS_wk [some (zO 9), some (zI x1), some (zI x2), some (zI x3), some (zI (x4 + (1 : Int32)))] (And.intro rfl (And.intro rfl (And.intro rfl (And.intro rfl (And.intro rfl trivial))))) (ih (x4 + (1 : Int32)) r h)
    · rw [if_neg c42] at h
      refine zS_bipush (v := (-3 : Int32)) dX9_rule_45 (by decide) ?_
      cases h
      exact zS_ireturn dX9_rule_47 rfl rfl
def p_X9_rule (x1 : Int32) (x2 : Int32) (x3 : Int32) (M : zM) : Option (Int32 × zM) :=
  (p_X9_isRule x1).bind fun r1 =>
  if r1 = 0 then
    some ((-2 : Int32), M)
  else
    (p_X9_in x2 (1 : Int32) (4 : Int32)).bind fun r13 =>
    if r13 = 0 then
      some ((-3 : Int32), M)
    else
      p_X9_rule_25 x1 x2 x3 M 5000 (0 : Int32)
set_option maxRecDepth 20000 in
set_option maxHeartbeats 4000000 in
theorem zc_X9_rule (x1 : Int32) (x2 : Int32) (x3 : Int32) (M : zM) {r : Int32 × zM} (h : p_X9_rule x1 x2 x3 M = some r) : zS Y_X9_rule 0 [some (zO 9), some (zI x1), some (zI x2), some (zI x3), none] [] M (some r.1, r.2) := by
  rw [p_X9_rule] at h
  refine zS_iload_n dX9_rule_0 rfl rfl ?_
  obtain ⟨r1, h1, h⟩ := zbind h
  refine zS_callS (as := [zI x1]) (st := []) (ls0 := [some (zI x1)]) dX9_rule_1 okY_X9_isRule rfl rfl zw_361 zw_362 np_X9_isRule (by decide) (Nat.le_of_ble_eq_true rfl) rfl (Nat.le_of_ble_eq_true rfl) (And.intro rfl trivial) (zc_X9_isRule x1 M h1) ?_
  refine zS_if_ne (tgt := 10) dX9_rule_4 (by decide) (fun c4 => ?_) (fun c4 => ?_)
  · rw [if_neg c4] at h
    refine zS_iload_n dX9_rule_10 rfl rfl ?_
    refine zS_iconst (v := (1 : Int32)) dX9_rule_11 (by decide) ?_
    refine zS_iconst (v := (4 : Int32)) dX9_rule_12 (by decide) ?_
    obtain ⟨r13, h13, h⟩ := zbind h
    refine zS_callS (as := [zI x2, zI (1 : Int32), zI (4 : Int32)]) (st := []) (ls0 := [some (zI x2), some (zI (1 : Int32)), some (zI (4 : Int32))]) dX9_rule_13 okY_X9_in rfl rfl zw_310 zw_311 np_X9_in (by decide) (Nat.le_of_ble_eq_true rfl) rfl (Nat.le_of_ble_eq_true rfl) (And.intro rfl (And.intro rfl (And.intro rfl trivial))) (zc_X9_in x2 (1 : Int32) (4 : Int32) M h13) ?_
    refine zS_if_ne (tgt := 22) dX9_rule_16 (by decide) (fun c16 => ?_) (fun c16 => ?_)
    · rw [if_neg c16] at h
      refine zS_iconst (v := (0 : Int32)) dX9_rule_22 (by decide) ?_
      refine zS_istore (ls' := [some (zO 9), some (zI x1), some (zI x2), some (zI x3), some (zI (0 : Int32))]) dX9_rule_23 (by decide) rfl rfl ?_
      exact zS_wk [some (zO 9), some (zI x1), some (zI x2), some (zI x3), some (zI (0 : Int32))] (And.intro rfl (And.intro rfl (And.intro rfl (And.intro rfl (And.intro rfl trivial))))) (zc_X9_rule_25 x1 x2 x3 M 5000 (0 : Int32) r h)
    · rw [if_pos c16] at h
      refine zS_bipush (v := (-3 : Int32)) dX9_rule_19 (by decide) ?_
      cases h
      exact zS_ireturn dX9_rule_21 rfl rfl
  · rw [if_pos c4] at h
    refine zS_bipush (v := (-2 : Int32)) dX9_rule_7 (by decide) ?_
    cases h
    exact zS_ireturn dX9_rule_9 rfl rfl
def p_X9_note (x1 : Int32) (M : zM) : Option (Int32 × zM) :=
  (p_X9_isNote x1).bind fun r1 =>
  if r1 = 0 then
    some ((-2 : Int32), M)
  else
    if (M 9 16) = (16 : Int32) then
      some ((-5 : Int32), M)
    else
      if M 9 16 < 0 ∨ 16 ≤ (M 9 16).toNatClampNeg then none else
      some ((zset (zset M 88 ((M 9 16).toNatClampNeg) x1) 9 16 (((zset M 88 ((M 9 16).toNatClampNeg) x1) 9 16) + (1 : Int32))) 9 16, zset (zset M 88 ((M 9 16).toNatClampNeg) x1) 9 16 (((zset M 88 ((M 9 16).toNatClampNeg) x1) 9 16) + (1 : Int32)))
set_option maxRecDepth 20000 in
set_option maxHeartbeats 4000000 in
theorem zc_X9_note (x1 : Int32) (M : zM) {r : Int32 × zM} (h : p_X9_note x1 M = some r) : zS Y_X9_note 0 [some (zO 9), some (zI x1)] [] M (some r.1, r.2) := by
  rw [p_X9_note] at h
  refine zS_iload_n dX9_note_0 rfl rfl ?_
  obtain ⟨r1, h1, h⟩ := zbind h
  refine zS_callS (as := [zI x1]) (st := []) (ls0 := [some (zI x1)]) dX9_note_1 okY_X9_isNote rfl rfl zw_315 zw_316 np_X9_isNote (by decide) (Nat.le_of_ble_eq_true rfl) rfl (Nat.le_of_ble_eq_true rfl) (And.intro rfl trivial) (zc_X9_isNote x1 M h1) ?_
  refine zS_if_ne (tgt := 10) dX9_note_4 (by decide) (fun c4 => ?_) (fun c4 => ?_)
  · rw [if_neg c4] at h
    refine zS_aload_nO dX9_note_10 rfl rfl ?_
    refine gf_9_16 dX9_note_11 zw_363 ?_
    refine zS_bipush (v := (16 : Int32)) dX9_note_14 (by decide) ?_
    refine zS_icmp_ne (tgt := 22) dX9_note_16 (by decide) (fun c16 => ?_) (fun c16 => ?_)
    · rw [if_neg c16] at h
      refine zS_aload_nO dX9_note_22 rfl rfl ?_
      refine gf_9_17 dX9_note_23 zw_364 ?_
      refine zS_aload_nO dX9_note_26 rfl rfl ?_
      refine gf_9_16 dX9_note_27 zw_363 ?_
      refine zS_iload_n dX9_note_30 rfl rfl ?_
      by_cases b31 : M 9 16 < 0 ∨ 16 ≤ (M 9 16).toNatClampNeg
      · rw [if_pos b31] at h; cases h
      rw [if_neg b31] at h
      refine zS_iast b31 dX9_note_31 ?_
      refine zS_aload_nO dX9_note_32 rfl rfl ?_
      refine zS_dup dX9_note_33 rfl ?_
      refine gf_9_16 dX9_note_34 zw_363 ?_
      refine zS_iconst (v := (1 : Int32)) dX9_note_37 (by decide) ?_
      refine zS_iadd dX9_note_38 ?_
      refine pf_9_16 dX9_note_39 zw_363 ?_
      refine zS_aload_nO dX9_note_42 rfl rfl ?_
      refine gf_9_16 dX9_note_43 zw_363 ?_
      cases h
      exact zS_ireturn dX9_note_46 rfl rfl
    · rw [if_pos c16] at h
      refine zS_bipush (v := (-5 : Int32)) dX9_note_19 (by decide) ?_
      cases h
      exact zS_ireturn dX9_note_21 rfl rfl
  · rw [if_pos c4] at h
    refine zS_bipush (v := (-2 : Int32)) dX9_note_7 (by decide) ?_
    cases h
    exact zS_ireturn dX9_note_9 rfl rfl
def p_X9_silence (M : zM) : Option (Int32 × zM) :=
  some (M 9 16, zset M 9 16 (0 : Int32))
set_option maxRecDepth 20000 in
set_option maxHeartbeats 4000000 in
theorem zc_X9_silence (M : zM) {r : Int32 × zM} (h : p_X9_silence M = some r) : zS Y_X9_silence 0 [some (zO 9), none] [] M (some r.1, r.2) := by
  rw [p_X9_silence] at h
  refine zS_aload_nO dX9_silence_0 rfl rfl ?_
  refine gf_9_16 dX9_silence_1 zw_363 ?_
  refine zS_istore_n (ls' := [some (zO 9), some (zI (M 9 16))]) dX9_silence_4 rfl (by decide) rfl rfl ?_
  refine zS_aload_nO dX9_silence_5 rfl rfl ?_
  refine zS_iconst (v := (0 : Int32)) dX9_silence_6 (by decide) ?_
  refine pf_9_16 dX9_silence_7 zw_363 ?_
  refine zS_iload_n dX9_silence_10 rfl rfl ?_
  cases h
  exact zS_ireturn dX9_silence_11 rfl rfl
def p_X9_cellsOf (x1 : Int32) (x2 : Int32) (x3 : Int32) (M : zM) : Option (Int32) :=
  if ((x2 >>> (x3 &&& 31)) &&& (1 : Int32)) = (1 : Int32) then
    some (1 : Int32)
  else
    if x1 < 0 ∨ 5 ≤ x1.toNatClampNeg then none else
    some (M 86 x1.toNatClampNeg)
set_option maxRecDepth 20000 in
set_option maxHeartbeats 4000000 in
theorem zc_X9_cellsOf (x1 : Int32) (x2 : Int32) (x3 : Int32) (M : zM) {r : Int32} (h : p_X9_cellsOf x1 x2 x3 M = some r) : zS Y_X9_cellsOf 0 [some (zO 9), some (zI x1), some (zI x2), some (zI x3)] [] M (some r, M) := by
  rw [p_X9_cellsOf] at h
  refine zS_iload_n dX9_cellsOf_0 rfl rfl ?_
  refine zS_iload_n dX9_cellsOf_1 rfl rfl ?_
  refine zS_ishr dX9_cellsOf_2 ?_
  refine zS_iconst (v := (1 : Int32)) dX9_cellsOf_3 (by decide) ?_
  refine zS_iand dX9_cellsOf_4 ?_
  refine zS_iconst (v := (1 : Int32)) dX9_cellsOf_5 (by decide) ?_
  refine zS_icmp_ne (tgt := 13) dX9_cellsOf_6 (by decide) (fun c6 => ?_) (fun c6 => ?_)
  · rw [if_neg c6] at h
    refine zS_aload_nO dX9_cellsOf_13 rfl rfl ?_
    refine gf_9_14 dX9_cellsOf_14 zw_359 ?_
    refine zS_iload_n dX9_cellsOf_17 rfl rfl ?_
    by_cases b18 : x1 < 0 ∨ 5 ≤ x1.toNatClampNeg
    · rw [if_pos b18] at h; cases h
    rw [if_neg b18] at h
    refine zS_iald b18 dX9_cellsOf_18 ?_
    cases h
    exact zS_ireturn dX9_cellsOf_19 rfl rfl
  · rw [if_pos c6] at h
    refine zS_iconst (v := (1 : Int32)) dX9_cellsOf_9 (by decide) ?_
    refine zS_goto (tgt := 19) dX9_cellsOf_10 (by decide) ?_
    cases h
    exact zS_ireturn dX9_cellsOf_19 rfl rfl
def p_X9_cellOf_25 (x5 : Int32) (x6 : Int32) (t0 : Int32) (M : zM) : Option (Int32) :=
  if t0 = (9 : Int32) then
    some x5
  else
    if t0 = (10 : Int32) then
      some x6
    else
      some t0
set_option maxRecDepth 20000 in
set_option maxHeartbeats 4000000 in
theorem zc_X9_cellOf_25 (x5 : Int32) (x6 : Int32) (t0 : Int32) (M : zM) {r : Int32} (h : p_X9_cellOf_25 x5 x6 t0 M = some r) : zS Y_X9_cellOf 25 [none, none, none, none, none, some (zI x5), some (zI x6), none] [zI t0] M (some r, M) := by
  rw [p_X9_cellOf_25] at h
  refine zS_istore (ls' := [none, none, none, none, none, some (zI x5), some (zI x6), some (zI t0)]) dX9_cellOf_25 (by decide) rfl rfl ?_
  refine zS_iload dX9_cellOf_27 rfl ?_
  refine zS_bipush (v := (9 : Int32)) dX9_cellOf_29 (by decide) ?_
  refine zS_icmp_ne (tgt := 39) dX9_cellOf_31 (by decide) (fun c31 => ?_) (fun c31 => ?_)
  · rw [if_neg c31] at h
    refine zS_iload dX9_cellOf_39 rfl ?_
    refine zS_bipush (v := (10 : Int32)) dX9_cellOf_41 (by decide) ?_
    refine zS_icmp_ne (tgt := 51) dX9_cellOf_43 (by decide) (fun c43 => ?_) (fun c43 => ?_)
    · rw [if_neg c43] at h
      refine zS_iload dX9_cellOf_51 rfl ?_
      cases h
      exact zS_ireturn dX9_cellOf_53 rfl rfl
    · rw [if_pos c43] at h
      refine zS_iload dX9_cellOf_46 rfl ?_
      refine zS_goto (tgt := 53) dX9_cellOf_48 (by decide) ?_
      cases h
      exact zS_ireturn dX9_cellOf_53 rfl rfl
  · rw [if_pos c31] at h
    refine zS_iload dX9_cellOf_34 rfl ?_
    refine zS_goto (tgt := 53) dX9_cellOf_36 (by decide) ?_
    cases h
    exact zS_ireturn dX9_cellOf_53 rfl rfl
def p_X9_cellOf (x1 : Int32) (x2 : Int32) (x3 : Int32) (x4 : Int32) (x5 : Int32) (x6 : Int32) (M : zM) : Option (Int32) :=
  if ((x2 >>> (x3 &&& 31)) &&& (1 : Int32)) = (1 : Int32) then
    p_X9_cellOf_25 x5 x6 (9 : Int32) M
  else
    if ((4 : Int32) * x1) + x4 < 0 ∨ 20 ≤ (((4 : Int32) * x1) + x4).toNatClampNeg then none else
    p_X9_cellOf_25 x5 x6 (M 87 (((4 : Int32) * x1) + x4).toNatClampNeg) M
set_option maxRecDepth 20000 in
set_option maxHeartbeats 4000000 in
theorem zc_X9_cellOf (x1 : Int32) (x2 : Int32) (x3 : Int32) (x4 : Int32) (x5 : Int32) (x6 : Int32) (M : zM) {r : Int32} (h : p_X9_cellOf x1 x2 x3 x4 x5 x6 M = some r) : zS Y_X9_cellOf 0 [some (zO 9), some (zI x1), some (zI x2), some (zI x3), some (zI x4), some (zI x5), some (zI x6), none] [] M (some r, M) := by
  rw [p_X9_cellOf] at h
  refine zS_iload_n dX9_cellOf_0 rfl rfl ?_
  refine zS_iload_n dX9_cellOf_1 rfl rfl ?_
  refine zS_ishr dX9_cellOf_2 ?_
  refine zS_iconst (v := (1 : Int32)) dX9_cellOf_3 (by decide) ?_
  refine zS_iand dX9_cellOf_4 ?_
  refine zS_iconst (v := (1 : Int32)) dX9_cellOf_5 (by decide) ?_
  refine zS_icmp_ne (tgt := 14) dX9_cellOf_6 (by decide) (fun c6 => ?_) (fun c6 => ?_)
  · rw [if_neg c6] at h
    refine zS_aload_nO dX9_cellOf_14 rfl rfl ?_
    refine gf_9_15 dX9_cellOf_15 zw_357 ?_
    refine zS_iconst (v := (4 : Int32)) dX9_cellOf_18 (by decide) ?_
    refine zS_iload_n dX9_cellOf_19 rfl rfl ?_
    refine zS_imul dX9_cellOf_20 ?_
    refine zS_iload dX9_cellOf_21 rfl ?_
    refine zS_iadd dX9_cellOf_23 ?_
    by_cases b24 : ((4 : Int32) * x1) + x4 < 0 ∨ 20 ≤ (((4 : Int32) * x1) + x4).toNatClampNeg
    · rw [if_pos b24] at h; cases h
    rw [if_neg b24] at h
    refine zS_iald b24 dX9_cellOf_24 ?_
    exact zS_wk [none, none, none, none, none, some (zI x5), some (zI x6), none] (And.intro rfl (And.intro rfl trivial)) (zc_X9_cellOf_25 x5 x6 (M 87 (((4 : Int32) * x1) + x4).toNatClampNeg) M h)
  · rw [if_pos c6] at h
    refine zS_bipush (v := (9 : Int32)) dX9_cellOf_9 (by decide) ?_
    refine zS_goto (tgt := 25) dX9_cellOf_11 (by decide) ?_
    exact zS_wk [none, none, none, none, none, some (zI x5), some (zI x6), none] (And.intro rfl (And.intro rfl trivial)) (zc_X9_cellOf_25 x5 x6 (9 : Int32) M h)
def p_X9_varied_33 (x1 : Int32) (x2 : Int32) (M : zM) : Nat → Int32 → Int32 → Option (Int32)
  | 0, _, _ => none
  | nn + 1, x4, x5 =>
  if (M 9 16) ≤ x5 then
    some (-1 : Int32)
  else
    (p_X9_cellsOf x1 x2 x5 M).bind fun r47 =>
    if r47 ≤ x4 then
      p_X9_varied_33 x1 x2 M nn (x4 - r47) (x5 + (1 : Int32))
    else
      if x5 < 0 ∨ 16 ≤ x5.toNatClampNeg then none else
      if M 9 16 = 0 then none else
      if (x5 + (1 : Int32)) - (x5 + (1 : Int32)) / (M 9 16) * (M 9 16) < 0 ∨ 16 ≤ ((x5 + (1 : Int32)) - (x5 + (1 : Int32)) / (M 9 16) * (M 9 16)).toNatClampNeg then none else
      (p_X9_cellOf x1 x2 x5 x4 (M 88 x5.toNatClampNeg) (M 88 ((x5 + (1 : Int32)) - (x5 + (1 : Int32)) / (M 9 16) * (M 9 16)).toNatClampNeg) M).bind fun r87 =>
      some r87
set_option maxRecDepth 20000 in
set_option maxHeartbeats 4000000 in
theorem zc_X9_varied_33 (x1 : Int32) (x2 : Int32) (M : zM) : ∀ (nn : Nat) (x4 : Int32) (x5 : Int32) (r : Int32), p_X9_varied_33 x1 x2 M nn x4 x5 = some r → zS Y_X9_varied 33 [some (zO 9), some (zI x1), some (zI x2), none, some (zI x4), some (zI x5), none] [] M (some r, M) := by
  intro nn
  induction nn with
  | zero => intro x4 x5 r h; cases h
  | succ nn ih =>
  intro x4 x5 r h
  rw [p_X9_varied_33] at h
  refine zS_iload dX9_varied_33 rfl ?_
  refine zS_aload_nO dX9_varied_35 rfl rfl ?_
  refine gf_9_16 dX9_varied_36 zw_363 ?_
  refine zS_icmp_ge (tgt := 104) dX9_varied_39 (by decide) (fun c39 => ?_) (fun c39 => ?_)
  · rw [if_pos c39] at h
    refine zS_iconst (v := (-1 : Int32)) dX9_varied_104 (by decide) ?_
    cases h
    exact zS_ireturn dX9_varied_105 rfl rfl
  · rw [if_neg c39] at h
    refine zS_aload_nO dX9_varied_42 rfl rfl ?_
    refine zS_iload_n dX9_varied_43 rfl rfl ?_
    refine zS_iload_n dX9_varied_44 rfl rfl ?_
    refine zS_iload dX9_varied_45 rfl ?_
    obtain ⟨r47, h47, h⟩ := zbind h
    refine zS_callV (as := [zI x1, zI x2, zI x5]) (st := []) (ls0 := [some (zO 9), some (zI x1), some (zI x2), some (zI x5)]) dX9_varied_47 okY_X9_cellsOf rfl rfl lay_9 rfl zw_365 zw_366 zw_367 np_X9_cellsOf (by decide) (Nat.le_of_ble_eq_true rfl) rfl (Nat.le_of_ble_eq_true rfl) (And.intro rfl (And.intro rfl (And.intro rfl (And.intro rfl trivial)))) (zc_X9_cellsOf x1 x2 x5 M h47) ?_
    refine zS_istore (ls' := [some (zO 9), some (zI x1), some (zI x2), none, some (zI x4), some (zI x5), some (zI r47)]) dX9_varied_50 (by decide) rfl rfl ?_
    refine zS_iload dX9_varied_52 rfl ?_
    refine zS_iload dX9_varied_54 rfl ?_
    refine zS_icmp_ge (tgt := 91) dX9_varied_56 (by decide) (fun c56 => ?_) (fun c56 => ?_)
    · rw [if_pos c56] at h
      refine zS_iload dX9_varied_91 rfl ?_
      refine zS_iload dX9_varied_93 rfl ?_
      refine zS_isub dX9_varied_95 ?_
      refine zS_istore (ls' := [some (zO 9), some (zI x1), some (zI x2), none, some (zI (x4 - r47)), some (zI x5), some (zI r47)]) dX9_varied_96 (by decide) rfl rfl ?_
      refine zS_iinc (v := x5 + (1 : Int32)) (ls' := [some (zO 9), some (zI x1), some (zI x2), none, some (zI (x4 - r47)), some (zI (x5 + (1 : Int32))), some (zI r47)]) dX9_varied_98 rfl rfl (by decide) rfl rfl ?_
      refine zS_goto (tgt := 33) dX9_varied_101 (by decide) ?_
      exact zS_wk [some (zO 9), some (zI x1), some (zI x2), none, some (zI (x4 - r47)), some (zI (x5 + (1 : Int32))), none] (And.intro rfl (And.intro rfl (And.intro rfl (And.intro rfl (And.intro rfl trivial))))) (ih (x4 - r47) (x5 + (1 : Int32)) r h)
    · rw [if_neg c56] at h
      refine zS_aload_nO dX9_varied_59 rfl rfl ?_
      refine zS_iload_n dX9_varied_60 rfl rfl ?_
      refine zS_iload_n dX9_varied_61 rfl rfl ?_
      refine zS_iload dX9_varied_62 rfl ?_
      refine zS_iload dX9_varied_64 rfl ?_
      refine zS_aload_nO dX9_varied_66 rfl rfl ?_
      refine gf_9_17 dX9_varied_67 zw_364 ?_
      refine zS_iload dX9_varied_70 rfl ?_
      by_cases b72 : x5 < 0 ∨ 16 ≤ x5.toNatClampNeg
      · rw [if_pos b72] at h; cases h
      rw [if_neg b72] at h
      refine zS_iald b72 dX9_varied_72 ?_
      refine zS_aload_nO dX9_varied_73 rfl rfl ?_
      refine gf_9_17 dX9_varied_74 zw_364 ?_
      refine zS_iload dX9_varied_77 rfl ?_
      refine zS_iconst (v := (1 : Int32)) dX9_varied_79 (by decide) ?_
      refine zS_iadd dX9_varied_80 ?_
      refine zS_aload_nO dX9_varied_81 rfl rfl ?_
      refine gf_9_16 dX9_varied_82 zw_363 ?_
      by_cases z85 : M 9 16 = 0
      · rw [if_pos z85] at h; cases h
      rw [if_neg z85] at h
      refine zS_irem z85 dX9_varied_85 ?_
      by_cases b86 : (x5 + (1 : Int32)) - (x5 + (1 : Int32)) / (M 9 16) * (M 9 16) < 0 ∨ 16 ≤ ((x5 + (1 : Int32)) - (x5 + (1 : Int32)) / (M 9 16) * (M 9 16)).toNatClampNeg
      · rw [if_pos b86] at h; cases h
      rw [if_neg b86] at h
      refine zS_iald b86 dX9_varied_86 ?_
      obtain ⟨r87, h87, h⟩ := zbind h
      refine zS_callV (as := [zI x1, zI x2, zI x5, zI x4, zI (M 88 x5.toNatClampNeg), zI (M 88 ((x5 + (1 : Int32)) - (x5 + (1 : Int32)) / (M 9 16) * (M 9 16)).toNatClampNeg)]) (st := []) (ls0 := [some (zO 9), some (zI x1), some (zI x2), some (zI x5), some (zI x4), some (zI (M 88 x5.toNatClampNeg)), some (zI (M 88 ((x5 + (1 : Int32)) - (x5 + (1 : Int32)) / (M 9 16) * (M 9 16)).toNatClampNeg)), none]) dX9_varied_87 okY_X9_cellOf rfl rfl lay_9 rfl zw_368 zw_369 zw_370 np_X9_cellOf (by decide) (Nat.le_of_ble_eq_true rfl) rfl (Nat.le_of_ble_eq_true rfl) (And.intro rfl (And.intro rfl (And.intro rfl (And.intro rfl (And.intro rfl (And.intro rfl (And.intro rfl trivial))))))) (zc_X9_cellOf x1 x2 x5 x4 (M 88 x5.toNatClampNeg) (M 88 ((x5 + (1 : Int32)) - (x5 + (1 : Int32)) / (M 9 16) * (M 9 16)).toNatClampNeg) M h87) ?_
      cases h
      exact zS_ireturn dX9_varied_90 rfl rfl
def p_X9_varied (x1 : Int32) (x2 : Int32) (x3 : Int32) (M : zM) : Option (Int32) :=
  (p_X9_isRule x1).bind fun r1 =>
  if r1 = 0 then
    some (-2 : Int32)
  else
    (p_X9_in x2 (0 : Int32) (65535 : Int32)).bind fun r14 =>
    if r14 = 0 then
      some (-3 : Int32)
    else
      if 0 ≤ x3 then
        p_X9_varied_33 x1 x2 M 5000 x3 (0 : Int32)
      else
        some (-3 : Int32)
set_option maxRecDepth 20000 in
set_option maxHeartbeats 4000000 in
theorem zc_X9_varied (x1 : Int32) (x2 : Int32) (x3 : Int32) (M : zM) {r : Int32} (h : p_X9_varied x1 x2 x3 M = some r) : zS Y_X9_varied 0 [some (zO 9), some (zI x1), some (zI x2), some (zI x3), none, none, none] [] M (some r, M) := by
  rw [p_X9_varied] at h
  refine zS_iload_n dX9_varied_0 rfl rfl ?_
  obtain ⟨r1, h1, h⟩ := zbind h
  refine zS_callS (as := [zI x1]) (st := []) (ls0 := [some (zI x1)]) dX9_varied_1 okY_X9_isRule rfl rfl zw_361 zw_362 np_X9_isRule (by decide) (Nat.le_of_ble_eq_true rfl) rfl (Nat.le_of_ble_eq_true rfl) (And.intro rfl trivial) (zc_X9_isRule x1 M h1) ?_
  refine zS_if_ne (tgt := 10) dX9_varied_4 (by decide) (fun c4 => ?_) (fun c4 => ?_)
  · rw [if_neg c4] at h
    refine zS_iload_n dX9_varied_10 rfl rfl ?_
    refine zS_iconst (v := (0 : Int32)) dX9_varied_11 (by decide) ?_
    refine zS_ldc (v := (65535 : Int32)) dX9_varied_12 zw_371 ?_
    obtain ⟨r14, h14, h⟩ := zbind h
    refine zS_callS (as := [zI x2, zI (0 : Int32), zI (65535 : Int32)]) (st := []) (ls0 := [some (zI x2), some (zI (0 : Int32)), some (zI (65535 : Int32))]) dX9_varied_14 okY_X9_in rfl rfl zw_310 zw_311 np_X9_in (by decide) (Nat.le_of_ble_eq_true rfl) rfl (Nat.le_of_ble_eq_true rfl) (And.intro rfl (And.intro rfl (And.intro rfl trivial))) (zc_X9_in x2 (0 : Int32) (65535 : Int32) M h14) ?_
    refine zS_if_eq (tgt := 24) dX9_varied_17 (by decide) (fun c17 => ?_) (fun c17 => ?_)
    · rw [if_pos c17] at h
      refine zS_bipush (v := (-3 : Int32)) dX9_varied_24 (by decide) ?_
      cases h
      exact zS_ireturn dX9_varied_26 rfl rfl
    · rw [if_neg c17] at h
      refine zS_iload_n dX9_varied_20 rfl rfl ?_
      refine zS_if_ge (tgt := 27) dX9_varied_21 (by decide) (fun c21 => ?_) (fun c21 => ?_)
      · rw [if_pos c21] at h
        refine zS_iload_n dX9_varied_27 rfl rfl ?_
        refine zS_istore (ls' := [some (zO 9), some (zI x1), some (zI x2), some (zI x3), some (zI x3), none, none]) dX9_varied_28 (by decide) rfl rfl ?_
        refine zS_iconst (v := (0 : Int32)) dX9_varied_30 (by decide) ?_
        refine zS_istore (ls' := [some (zO 9), some (zI x1), some (zI x2), some (zI x3), some (zI x3), some (zI (0 : Int32)), none]) dX9_varied_31 (by decide) rfl rfl ?_
        exact zS_wk [some (zO 9), some (zI x1), some (zI x2), none, some (zI x3), some (zI (0 : Int32)), none] (And.intro rfl (And.intro rfl (And.intro rfl (And.intro rfl (And.intro rfl trivial))))) (zc_X9_varied_33 x1 x2 M 5000 x3 (0 : Int32) r h)
      · rw [if_neg c21] at h
        refine zS_bipush (v := (-3 : Int32)) dX9_varied_24 (by decide) ?_
        cases h
        exact zS_ireturn dX9_varied_26 rfl rfl
  · rw [if_pos c4] at h
    refine zS_bipush (v := (-2 : Int32)) dX9_varied_7 (by decide) ?_
    cases h
    exact zS_ireturn dX9_varied_9 rfl rfl
def p_X9_sheet_96 : Nat → Int32 → zM → Option (Int32 × zM)
  | 0, _, _ => none
  | nn + 1, x4, M =>
  if (64 : Int32) ≤ x4 then
    some (((zset M 9 18 ((M 9 18) + (1 : Int32))) 9 18) - (1 : Int32), zset M 9 18 ((M 9 18) + (1 : Int32)))
  else
    if ((64 : Int32) * (M 9 18)) + x4 < 0 ∨ 192 ≤ (((64 : Int32) * (M 9 18)) + x4).toNatClampNeg then none else
    p_X9_sheet_96 nn (x4 + (1 : Int32)) (zset M 90 ((((64 : Int32) * (M 9 18)) + x4).toNatClampNeg) (-1 : Int32))
set_option maxRecDepth 20000 in
set_option maxHeartbeats 4000000 in
theorem zc_X9_sheet_96 : ∀ (nn : Nat) (x4 : Int32) (M : zM) (r : Int32 × zM), p_X9_sheet_96 nn x4 M = some r → zS Y_X9_sheet 96 [some (zO 9), none, none, none, some (zI x4)] [] M (some r.1, r.2) := by
  intro nn
  induction nn with
  | zero => intro x4 M r h; cases h
  | succ nn ih =>
  intro x4 M r h
  rw [p_X9_sheet_96] at h
  refine zS_iload dX9_sheet_96 rfl ?_
  refine zS_bipush (v := (64 : Int32)) dX9_sheet_98 (by decide) ?_
  refine zS_icmp_ge (tgt := 125) dX9_sheet_100 (by decide) (fun c100 => ?_) (fun c100 => ?_)
  · rw [if_pos c100] at h
    refine zS_aload_nO dX9_sheet_125 rfl rfl ?_
    refine zS_dup dX9_sheet_126 rfl ?_
    refine gf_9_18 dX9_sheet_127 zw_358 ?_
    refine zS_iconst (v := (1 : Int32)) dX9_sheet_130 (by decide) ?_
    refine zS_iadd dX9_sheet_131 ?_
    refine pf_9_18 dX9_sheet_132 zw_358 ?_
    refine zS_aload_nO dX9_sheet_135 rfl rfl ?_
    refine gf_9_18 dX9_sheet_136 zw_358 ?_
    refine zS_iconst (v := (1 : Int32)) dX9_sheet_139 (by decide) ?_
    refine zS_isub dX9_sheet_140 ?_
    cases h
    exact zS_ireturn dX9_sheet_141 rfl rfl
  · rw [if_neg c100] at h
    refine zS_aload_nO dX9_sheet_103 rfl rfl ?_
    refine gf_9_22 dX9_sheet_104 zw_372 ?_
    refine zS_bipush (v := (64 : Int32)) dX9_sheet_107 (by decide) ?_
    refine zS_aload_nO dX9_sheet_109 rfl rfl ?_
    refine gf_9_18 dX9_sheet_110 zw_358 ?_
    refine zS_imul dX9_sheet_113 ?_
    refine zS_iload dX9_sheet_114 rfl ?_
    refine zS_iadd dX9_sheet_116 ?_
    refine zS_iconst (v := (-1 : Int32)) dX9_sheet_117 (by decide) ?_
    by_cases b118 : ((64 : Int32) * (M 9 18)) + x4 < 0 ∨ 192 ≤ (((64 : Int32) * (M 9 18)) + x4).toNatClampNeg
    · rw [if_pos b118] at h; cases h
    rw [if_neg b118] at h
    refine zS_iast b118 dX9_sheet_118 ?_
    refine zS_iinc (v := x4 + (1 : Int32)) (ls' := [some (zO 9), none, none, none, some (zI (x4 + (1 : Int32)))]) dX9_sheet_119 rfl rfl (by decide) rfl rfl ?_
    refine zS_goto (tgt := 96) dX9_sheet_122 (by decide) ?_
    exact zS_wk [some (zO 9), none, none, none, some (zI (x4 + (1 : Int32)))] (And.intro rfl (And.intro rfl trivial)) (ih (x4 + (1 : Int32)) (zset M 90 ((((64 : Int32) * (M 9 18)) + x4).toNatClampNeg) (-1 : Int32)) r h)
def p_X9_sheet_62 (x1 : Int32) (x2 : Int32) (x3 : Int32) (M : zM) : Option (Int32 × zM) :=
  if (M 9 18) = (3 : Int32) then
    some ((-5 : Int32), M)
  else
    if (zset (zset M 9 19 x2) 9 20 x3) 9 18 < 0 ∨ 3 ≤ ((zset (zset M 9 19 x2) 9 20 x3) 9 18).toNatClampNeg then none else
    p_X9_sheet_96 5000 (0 : Int32) (zset (zset (zset M 9 19 x2) 9 20 x3) 89 (((zset (zset M 9 19 x2) 9 20 x3) 9 18).toNatClampNeg) x1)
set_option maxRecDepth 20000 in
set_option maxHeartbeats 4000000 in
theorem zc_X9_sheet_62 (x1 : Int32) (x2 : Int32) (x3 : Int32) (M : zM) {r : Int32 × zM} (h : p_X9_sheet_62 x1 x2 x3 M = some r) : zS Y_X9_sheet 62 [some (zO 9), some (zI x1), some (zI x2), some (zI x3), none] [] M (some r.1, r.2) := by
  rw [p_X9_sheet_62] at h
  refine zS_aload_nO dX9_sheet_62 rfl rfl ?_
  refine gf_9_18 dX9_sheet_63 zw_358 ?_
  refine zS_iconst (v := (3 : Int32)) dX9_sheet_66 (by decide) ?_
  refine zS_icmp_ne (tgt := 73) dX9_sheet_67 (by decide) (fun c67 => ?_) (fun c67 => ?_)
  · rw [if_neg c67] at h
    refine zS_aload_nO dX9_sheet_73 rfl rfl ?_
    refine zS_iload_n dX9_sheet_74 rfl rfl ?_
    refine pf_9_19 dX9_sheet_75 zw_373 ?_
    refine zS_aload_nO dX9_sheet_78 rfl rfl ?_
    refine zS_iload_n dX9_sheet_79 rfl rfl ?_
    refine pf_9_20 dX9_sheet_80 zw_374 ?_
    refine zS_aload_nO dX9_sheet_83 rfl rfl ?_
    refine gf_9_21 dX9_sheet_84 zw_360 ?_
    refine zS_aload_nO dX9_sheet_87 rfl rfl ?_
    refine gf_9_18 dX9_sheet_88 zw_358 ?_
    refine zS_iload_n dX9_sheet_91 rfl rfl ?_
    by_cases b92 : (zset (zset M 9 19 x2) 9 20 x3) 9 18 < 0 ∨ 3 ≤ ((zset (zset M 9 19 x2) 9 20 x3) 9 18).toNatClampNeg
    · rw [if_pos b92] at h; cases h
    rw [if_neg b92] at h
    refine zS_iast b92 dX9_sheet_92 ?_
    refine zS_iconst (v := (0 : Int32)) dX9_sheet_93 (by decide) ?_
    refine zS_istore (ls' := [some (zO 9), some (zI x1), some (zI x2), some (zI x3), some (zI (0 : Int32))]) dX9_sheet_94 (by decide) rfl rfl ?_
    exact zS_wk [some (zO 9), none, none, none, some (zI (0 : Int32))] (And.intro rfl (And.intro rfl trivial)) (zc_X9_sheet_96 5000 (0 : Int32) (zset (zset (zset M 9 19 x2) 9 20 x3) 89 (((zset (zset M 9 19 x2) 9 20 x3) 9 18).toNatClampNeg) x1) r h)
  · rw [if_pos c67] at h
    refine zS_bipush (v := (-5 : Int32)) dX9_sheet_70 (by decide) ?_
    cases h
    exact zS_ireturn dX9_sheet_72 rfl rfl
def p_X9_sheet (x1 : Int32) (x2 : Int32) (x3 : Int32) (M : zM) : Option (Int32 × zM) :=
  (p_X9_isRule x1).bind fun r1 =>
  if r1 = 0 then
    some ((-2 : Int32), M)
  else
    (p_X9_in x2 (1 : Int32) (16 : Int32)).bind fun r14 =>
    if r14 = 0 then
      some ((-3 : Int32), M)
    else
      (p_X9_in x3 (0 : Int32) (((1 : Int32) <<< (x2 &&& 31)) - (1 : Int32))).bind fun r27 =>
      if r27 = 0 then
        some ((-3 : Int32), M)
      else
        if (M 9 18) ≤ 0 then
          p_X9_sheet_62 x1 x2 x3 M
        else
          if x2 = (M 9 19) then
            if x3 = (M 9 20) then
              p_X9_sheet_62 x1 x2 x3 M
            else
              some ((-4 : Int32), M)
          else
            some ((-4 : Int32), M)
set_option maxRecDepth 20000 in
set_option maxHeartbeats 4000000 in
theorem zc_X9_sheet (x1 : Int32) (x2 : Int32) (x3 : Int32) (M : zM) {r : Int32 × zM} (h : p_X9_sheet x1 x2 x3 M = some r) : zS Y_X9_sheet 0 [some (zO 9), some (zI x1), some (zI x2), some (zI x3), none] [] M (some r.1, r.2) := by
  rw [p_X9_sheet] at h
  refine zS_iload_n dX9_sheet_0 rfl rfl ?_
  obtain ⟨r1, h1, h⟩ := zbind h
  refine zS_callS (as := [zI x1]) (st := []) (ls0 := [some (zI x1)]) dX9_sheet_1 okY_X9_isRule rfl rfl zw_361 zw_362 np_X9_isRule (by decide) (Nat.le_of_ble_eq_true rfl) rfl (Nat.le_of_ble_eq_true rfl) (And.intro rfl trivial) (zc_X9_isRule x1 M h1) ?_
  refine zS_if_ne (tgt := 10) dX9_sheet_4 (by decide) (fun c4 => ?_) (fun c4 => ?_)
  · rw [if_neg c4] at h
    refine zS_iload_n dX9_sheet_10 rfl rfl ?_
    refine zS_iconst (v := (1 : Int32)) dX9_sheet_11 (by decide) ?_
    refine zS_bipush (v := (16 : Int32)) dX9_sheet_12 (by decide) ?_
    obtain ⟨r14, h14, h⟩ := zbind h
    refine zS_callS (as := [zI x2, zI (1 : Int32), zI (16 : Int32)]) (st := []) (ls0 := [some (zI x2), some (zI (1 : Int32)), some (zI (16 : Int32))]) dX9_sheet_14 okY_X9_in rfl rfl zw_310 zw_311 np_X9_in (by decide) (Nat.le_of_ble_eq_true rfl) rfl (Nat.le_of_ble_eq_true rfl) (And.intro rfl (And.intro rfl (And.intro rfl trivial))) (zc_X9_in x2 (1 : Int32) (16 : Int32) M h14) ?_
    refine zS_if_eq (tgt := 33) dX9_sheet_17 (by decide) (fun c17 => ?_) (fun c17 => ?_)
    · rw [if_pos c17] at h
      refine zS_bipush (v := (-3 : Int32)) dX9_sheet_33 (by decide) ?_
      cases h
      exact zS_ireturn dX9_sheet_35 rfl rfl
    · rw [if_neg c17] at h
      refine zS_iload_n dX9_sheet_20 rfl rfl ?_
      refine zS_iconst (v := (0 : Int32)) dX9_sheet_21 (by decide) ?_
      refine zS_iconst (v := (1 : Int32)) dX9_sheet_22 (by decide) ?_
      refine zS_iload_n dX9_sheet_23 rfl rfl ?_
      refine zS_ishl dX9_sheet_24 ?_
      refine zS_iconst (v := (1 : Int32)) dX9_sheet_25 (by decide) ?_
      refine zS_isub dX9_sheet_26 ?_
      obtain ⟨r27, h27, h⟩ := zbind h
      refine zS_callS (as := [zI x3, zI (0 : Int32), zI (((1 : Int32) <<< (x2 &&& 31)) - (1 : Int32))]) (st := []) (ls0 := [some (zI x3), some (zI (0 : Int32)), some (zI (((1 : Int32) <<< (x2 &&& 31)) - (1 : Int32)))]) dX9_sheet_27 okY_X9_in rfl rfl zw_310 zw_311 np_X9_in (by decide) (Nat.le_of_ble_eq_true rfl) rfl (Nat.le_of_ble_eq_true rfl) (And.intro rfl (And.intro rfl (And.intro rfl trivial))) (zc_X9_in x3 (0 : Int32) (((1 : Int32) <<< (x2 &&& 31)) - (1 : Int32)) M h27) ?_
      refine zS_if_ne (tgt := 36) dX9_sheet_30 (by decide) (fun c30 => ?_) (fun c30 => ?_)
      · rw [if_neg c30] at h
        refine zS_aload_nO dX9_sheet_36 rfl rfl ?_
        refine gf_9_18 dX9_sheet_37 zw_358 ?_
        refine zS_if_le (tgt := 62) dX9_sheet_40 (by decide) (fun c40 => ?_) (fun c40 => ?_)
        · rw [if_pos c40] at h
          exact zS_wk [some (zO 9), some (zI x1), some (zI x2), some (zI x3), none] (And.intro rfl (And.intro rfl (And.intro rfl (And.intro rfl trivial)))) (zc_X9_sheet_62 x1 x2 x3 M h)
        · rw [if_neg c40] at h
          refine zS_iload_n dX9_sheet_43 rfl rfl ?_
          refine zS_aload_nO dX9_sheet_44 rfl rfl ?_
          refine gf_9_19 dX9_sheet_45 zw_373 ?_
          refine zS_icmp_ne (tgt := 59) dX9_sheet_48 (by decide) (fun c48 => ?_) (fun c48 => ?_)
          · rw [if_neg c48] at h
            refine zS_bipush (v := (-4 : Int32)) dX9_sheet_59 (by decide) ?_
            cases h
            exact zS_ireturn dX9_sheet_61 rfl rfl
          · rw [if_pos c48] at h
            refine zS_iload_n dX9_sheet_51 rfl rfl ?_
            refine zS_aload_nO dX9_sheet_52 rfl rfl ?_
            refine gf_9_20 dX9_sheet_53 zw_374 ?_
            refine zS_icmp_eq (tgt := 62) dX9_sheet_56 (by decide) (fun c56 => ?_) (fun c56 => ?_)
            · rw [if_pos c56] at h
              exact zS_wk [some (zO 9), some (zI x1), some (zI x2), some (zI x3), none] (And.intro rfl (And.intro rfl (And.intro rfl (And.intro rfl trivial)))) (zc_X9_sheet_62 x1 x2 x3 M h)
            · rw [if_neg c56] at h
              refine zS_bipush (v := (-4 : Int32)) dX9_sheet_59 (by decide) ?_
              cases h
              exact zS_ireturn dX9_sheet_61 rfl rfl
      · rw [if_pos c30] at h
        refine zS_bipush (v := (-3 : Int32)) dX9_sheet_33 (by decide) ?_
        cases h
        exact zS_ireturn dX9_sheet_35 rfl rfl
  · rw [if_pos c4] at h
    refine zS_bipush (v := (-2 : Int32)) dX9_sheet_7 (by decide) ?_
    cases h
    exact zS_ireturn dX9_sheet_9 rfl rfl
def p_X9_isSheet (x1 : Int32) (M : zM) : Option (Int32) :=
  (p_X9_in x1 (0 : Int32) ((M 9 18) - (1 : Int32))).bind fun r8 =>
  if r8 = 0 ∨ r8 = 1 then
  some r8
  else none
set_option maxRecDepth 20000 in
set_option maxHeartbeats 4000000 in
theorem zc_X9_isSheet (x1 : Int32) (M : zM) {r : Int32} (h : p_X9_isSheet x1 M = some r) : zS Y_X9_isSheet 0 [some (zO 9), some (zI x1)] [] M (some r, M) := by
  rw [p_X9_isSheet] at h
  refine zS_iload_n dX9_isSheet_0 rfl rfl ?_
  refine zS_iconst (v := (0 : Int32)) dX9_isSheet_1 (by decide) ?_
  refine zS_aload_nO dX9_isSheet_2 rfl rfl ?_
  refine gf_9_18 dX9_isSheet_3 zw_358 ?_
  refine zS_iconst (v := (1 : Int32)) dX9_isSheet_6 (by decide) ?_
  refine zS_isub dX9_isSheet_7 ?_
  obtain ⟨r8, h8, h⟩ := zbind h
  refine zS_callS (as := [zI x1, zI (0 : Int32), zI ((M 9 18) - (1 : Int32))]) (st := []) (ls0 := [some (zI x1), some (zI (0 : Int32)), some (zI ((M 9 18) - (1 : Int32)))]) dX9_isSheet_8 okY_X9_in rfl rfl zw_310 zw_311 np_X9_in (by decide) (Nat.le_of_ble_eq_true rfl) rfl (Nat.le_of_ble_eq_true rfl) (And.intro rfl (And.intro rfl (And.intro rfl trivial))) (zc_X9_in x1 (0 : Int32) ((M 9 18) - (1 : Int32)) M h8) ?_
  by_cases z11 : r8 = 0 ∨ r8 = 1
  rotate_left
  · rw [if_neg z11] at h; cases h
  rw [if_pos z11] at h
  cases h
  exact zS_ireturn dX9_isSheet_11 rfl (zbool z11)
def p_X9_sizeOf_4 (x1 : Int32) (M : zM) : Nat → Int32 → Int32 → Option (Int32)
  | 0, _, _ => none
  | nn + 1, x2, x3 =>
  if (M 9 19) ≤ x3 then
    some x2
  else
    if x1 < 0 ∨ 3 ≤ x1.toNatClampNeg then none else
    (p_X9_cellsOf (M 89 x1.toNatClampNeg) (M 9 20) x3 M).bind fun r25 =>
    p_X9_sizeOf_4 x1 M nn (x2 + r25) (x3 + (1 : Int32))
set_option maxRecDepth 20000 in
set_option maxHeartbeats 4000000 in
theorem zc_X9_sizeOf_4 (x1 : Int32) (M : zM) : ∀ (nn : Nat) (x2 : Int32) (x3 : Int32) (r : Int32), p_X9_sizeOf_4 x1 M nn x2 x3 = some r → zS Y_X9_sizeOf 4 [some (zO 9), some (zI x1), some (zI x2), some (zI x3)] [] M (some r, M) := by
  intro nn
  induction nn with
  | zero => intro x2 x3 r h; cases h
  | succ nn ih =>
  intro x2 x3 r h
  rw [p_X9_sizeOf_4] at h
  refine zS_iload_n dX9_sizeOf_4 rfl rfl ?_
  refine zS_aload_nO dX9_sizeOf_5 rfl rfl ?_
  refine gf_9_19 dX9_sizeOf_6 zw_373 ?_
  refine zS_icmp_ge (tgt := 36) dX9_sizeOf_9 (by decide) (fun c9 => ?_) (fun c9 => ?_)
  · rw [if_pos c9] at h
    refine zS_iload_n dX9_sizeOf_36 rfl rfl ?_
    cases h
    exact zS_ireturn dX9_sizeOf_37 rfl rfl
  · rw [if_neg c9] at h
    refine zS_iload_n dX9_sizeOf_12 rfl rfl ?_
    refine zS_aload_nO dX9_sizeOf_13 rfl rfl ?_
    refine zS_aload_nO dX9_sizeOf_14 rfl rfl ?_
    refine gf_9_21 dX9_sizeOf_15 zw_360 ?_
    refine zS_iload_n dX9_sizeOf_18 rfl rfl ?_
    by_cases b19 : x1 < 0 ∨ 3 ≤ x1.toNatClampNeg
    · rw [if_pos b19] at h; cases h
    rw [if_neg b19] at h
    refine zS_iald b19 dX9_sizeOf_19 ?_
    refine zS_aload_nO dX9_sizeOf_20 rfl rfl ?_
    refine gf_9_20 dX9_sizeOf_21 zw_374 ?_
    refine zS_iload_n dX9_sizeOf_24 rfl rfl ?_
    obtain ⟨r25, h25, h⟩ := zbind h
    refine zS_callV (as := [zI (M 89 x1.toNatClampNeg), zI (M 9 20), zI x3]) (st := [zI x2]) (ls0 := [some (zO 9), some (zI (M 89 x1.toNatClampNeg)), some (zI (M 9 20)), some (zI x3)]) dX9_sizeOf_25 okY_X9_cellsOf rfl rfl lay_9 rfl zw_365 zw_366 zw_367 np_X9_cellsOf (by decide) (Nat.le_of_ble_eq_true rfl) rfl (Nat.le_of_ble_eq_true rfl) (And.intro rfl (And.intro rfl (And.intro rfl (And.intro rfl trivial)))) (zc_X9_cellsOf (M 89 x1.toNatClampNeg) (M 9 20) x3 M h25) ?_
    refine zS_iadd dX9_sizeOf_28 ?_
    refine zS_istore_n (ls' := [some (zO 9), some (zI x1), some (zI (x2 + r25)), some (zI x3)]) dX9_sizeOf_29 rfl (by decide) rfl rfl ?_
    refine zS_iinc (v := x3 + (1 : Int32)) (ls' := [some (zO 9), some (zI x1), some (zI (x2 + r25)), some (zI (x3 + (1 : Int32)))]) dX9_sizeOf_30 rfl rfl (by decide) rfl rfl ?_
    refine zS_goto (tgt := 4) dX9_sizeOf_33 (by decide) ?_
    exact zS_wk [some (zO 9), some (zI x1), some (zI (x2 + r25)), some (zI (x3 + (1 : Int32)))] (And.intro rfl (And.intro rfl (And.intro rfl (And.intro rfl trivial)))) (ih (x2 + r25) (x3 + (1 : Int32)) r h)
def p_X9_sizeOf (x1 : Int32) (M : zM) : Option (Int32) :=
  p_X9_sizeOf_4 x1 M 5000 (0 : Int32) (0 : Int32)
set_option maxRecDepth 20000 in
set_option maxHeartbeats 4000000 in
theorem zc_X9_sizeOf (x1 : Int32) (M : zM) {r : Int32} (h : p_X9_sizeOf x1 M = some r) : zS Y_X9_sizeOf 0 [some (zO 9), some (zI x1), none, none] [] M (some r, M) := by
  rw [p_X9_sizeOf] at h
  refine zS_iconst (v := (0 : Int32)) dX9_sizeOf_0 (by decide) ?_
  refine zS_istore_n (ls' := [some (zO 9), some (zI x1), some (zI (0 : Int32)), none]) dX9_sizeOf_1 rfl (by decide) rfl rfl ?_
  refine zS_iconst (v := (0 : Int32)) dX9_sizeOf_2 (by decide) ?_
  refine zS_istore_n (ls' := [some (zO 9), some (zI x1), some (zI (0 : Int32)), some (zI (0 : Int32))]) dX9_sizeOf_3 rfl (by decide) rfl rfl ?_
  exact zS_wk [some (zO 9), some (zI x1), some (zI (0 : Int32)), some (zI (0 : Int32))] (And.intro rfl (And.intro rfl (And.intro rfl (And.intro rfl trivial)))) (zc_X9_sizeOf_4 x1 M 5000 (0 : Int32) (0 : Int32) r h)
def p_X9_tell (x1 : Int32) (x2 : Int32) (x3 : Int32) (M : zM) : Option (Int32 × zM) :=
  (p_X9_isSheet x1 M).bind fun r2 =>
  if r2 = 0 then
    some ((-2 : Int32), M)
  else
    (p_X9_sizeOf x1 M).bind fun r12 =>
    (p_X9_in x2 (0 : Int32) (r12 - (1 : Int32))).bind fun r17 =>
    if r17 = 0 then
      some ((-2 : Int32), M)
    else
      (p_X9_in x3 (-1 : Int32) (8 : Int32)).bind fun r30 =>
      if r30 = 0 then
        some ((-3 : Int32), M)
      else
        if ((64 : Int32) * x1) + x2 < 0 ∨ 192 ≤ (((64 : Int32) * x1) + x2).toNatClampNeg then none else
        if ((64 : Int32) * x1) + x2 < 0 ∨ 192 ≤ (((64 : Int32) * x1) + x2).toNatClampNeg then none else
        some (M 90 (((64 : Int32) * x1) + x2).toNatClampNeg, zset M 90 ((((64 : Int32) * x1) + x2).toNatClampNeg) x3)
set_option maxRecDepth 20000 in
set_option maxHeartbeats 4000000 in
theorem zc_X9_tell (x1 : Int32) (x2 : Int32) (x3 : Int32) (M : zM) {r : Int32 × zM} (h : p_X9_tell x1 x2 x3 M = some r) : zS Y_X9_tell 0 [some (zO 9), some (zI x1), some (zI x2), some (zI x3), none] [] M (some r.1, r.2) := by
  rw [p_X9_tell] at h
  refine zS_aload_nO dX9_tell_0 rfl rfl ?_
  refine zS_iload_n dX9_tell_1 rfl rfl ?_
  obtain ⟨r2, h2, h⟩ := zbind h
  refine zS_callV (as := [zI x1]) (st := []) (ls0 := [some (zO 9), some (zI x1)]) dX9_tell_2 okY_X9_isSheet rfl rfl lay_9 rfl zw_375 zw_376 zw_377 np_X9_isSheet (by decide) (Nat.le_of_ble_eq_true rfl) rfl (Nat.le_of_ble_eq_true rfl) (And.intro rfl (And.intro rfl trivial)) (zc_X9_isSheet x1 M h2) ?_
  refine zS_if_eq (tgt := 23) dX9_tell_5 (by decide) (fun c5 => ?_) (fun c5 => ?_)
  · rw [if_pos c5] at h
    refine zS_bipush (v := (-2 : Int32)) dX9_tell_23 (by decide) ?_
    cases h
    exact zS_ireturn dX9_tell_25 rfl rfl
  · rw [if_neg c5] at h
    refine zS_iload_n dX9_tell_8 rfl rfl ?_
    refine zS_iconst (v := (0 : Int32)) dX9_tell_9 (by decide) ?_
    refine zS_aload_nO dX9_tell_10 rfl rfl ?_
    refine zS_iload_n dX9_tell_11 rfl rfl ?_
    obtain ⟨r12, h12, h⟩ := zbind h
    refine zS_callV (as := [zI x1]) (st := [zI (0 : Int32), zI x2]) (ls0 := [some (zO 9), some (zI x1), none, none]) dX9_tell_12 okY_X9_sizeOf rfl rfl lay_9 rfl zw_378 zw_379 zw_380 np_X9_sizeOf (by decide) (Nat.le_of_ble_eq_true rfl) rfl (Nat.le_of_ble_eq_true rfl) (And.intro rfl (And.intro rfl trivial)) (zc_X9_sizeOf x1 M h12) ?_
    refine zS_iconst (v := (1 : Int32)) dX9_tell_15 (by decide) ?_
    refine zS_isub dX9_tell_16 ?_
    obtain ⟨r17, h17, h⟩ := zbind h
    refine zS_callS (as := [zI x2, zI (0 : Int32), zI (r12 - (1 : Int32))]) (st := []) (ls0 := [some (zI x2), some (zI (0 : Int32)), some (zI (r12 - (1 : Int32)))]) dX9_tell_17 okY_X9_in rfl rfl zw_310 zw_311 np_X9_in (by decide) (Nat.le_of_ble_eq_true rfl) rfl (Nat.le_of_ble_eq_true rfl) (And.intro rfl (And.intro rfl (And.intro rfl trivial))) (zc_X9_in x2 (0 : Int32) (r12 - (1 : Int32)) M h17) ?_
    refine zS_if_ne (tgt := 26) dX9_tell_20 (by decide) (fun c20 => ?_) (fun c20 => ?_)
    · rw [if_neg c20] at h
      refine zS_iload_n dX9_tell_26 rfl rfl ?_
      refine zS_iconst (v := (-1 : Int32)) dX9_tell_27 (by decide) ?_
      refine zS_bipush (v := (8 : Int32)) dX9_tell_28 (by decide) ?_
      obtain ⟨r30, h30, h⟩ := zbind h
      refine zS_callS (as := [zI x3, zI (-1 : Int32), zI (8 : Int32)]) (st := []) (ls0 := [some (zI x3), some (zI (-1 : Int32)), some (zI (8 : Int32))]) dX9_tell_30 okY_X9_in rfl rfl zw_310 zw_311 np_X9_in (by decide) (Nat.le_of_ble_eq_true rfl) rfl (Nat.le_of_ble_eq_true rfl) (And.intro rfl (And.intro rfl (And.intro rfl trivial))) (zc_X9_in x3 (-1 : Int32) (8 : Int32) M h30) ?_
      refine zS_if_ne (tgt := 39) dX9_tell_33 (by decide) (fun c33 => ?_) (fun c33 => ?_)
      · rw [if_neg c33] at h
        refine zS_aload_nO dX9_tell_39 rfl rfl ?_
        refine gf_9_22 dX9_tell_40 zw_372 ?_
        refine zS_bipush (v := (64 : Int32)) dX9_tell_43 (by decide) ?_
        refine zS_iload_n dX9_tell_45 rfl rfl ?_
        refine zS_imul dX9_tell_46 ?_
        refine zS_iload_n dX9_tell_47 rfl rfl ?_
        refine zS_iadd dX9_tell_48 ?_
        by_cases b49 : ((64 : Int32) * x1) + x2 < 0 ∨ 192 ≤ (((64 : Int32) * x1) + x2).toNatClampNeg
        · rw [if_pos b49] at h; cases h
        rw [if_neg b49] at h
        refine zS_iald b49 dX9_tell_49 ?_
        refine zS_istore (ls' := [some (zO 9), some (zI x1), some (zI x2), some (zI x3), some (zI (M 90 (((64 : Int32) * x1) + x2).toNatClampNeg))]) dX9_tell_50 (by decide) rfl rfl ?_
        refine zS_aload_nO dX9_tell_52 rfl rfl ?_
        refine gf_9_22 dX9_tell_53 zw_372 ?_
        refine zS_bipush (v := (64 : Int32)) dX9_tell_56 (by decide) ?_
        refine zS_iload_n dX9_tell_58 rfl rfl ?_
        refine zS_imul dX9_tell_59 ?_
        refine zS_iload_n dX9_tell_60 rfl rfl ?_
        refine zS_iadd dX9_tell_61 ?_
        refine zS_iload_n dX9_tell_62 rfl rfl ?_
        by_cases b63 : ((64 : Int32) * x1) + x2 < 0 ∨ 192 ≤ (((64 : Int32) * x1) + x2).toNatClampNeg
        · rw [if_pos b63] at h; cases h
        rw [if_neg b63] at h
        refine zS_iast b63 dX9_tell_63 ?_
        refine zS_iload dX9_tell_64 rfl ?_
        cases h
        exact zS_ireturn dX9_tell_66 rfl rfl
      · rw [if_pos c33] at h
        refine zS_bipush (v := (-3 : Int32)) dX9_tell_36 (by decide) ?_
        cases h
        exact zS_ireturn dX9_tell_38 rfl rfl
    · rw [if_pos c20] at h
      refine zS_bipush (v := (-2 : Int32)) dX9_tell_23 (by decide) ?_
      cases h
      exact zS_ireturn dX9_tell_25 rfl rfl
def p_X9_cells (x1 : Int32) (M : zM) : Option (Int32) :=
  (p_X9_isSheet x1 M).bind fun r2 =>
  if r2 = 0 then
    some (-2 : Int32)
  else
    (p_X9_sizeOf x1 M).bind fun r10 =>
    some r10
set_option maxRecDepth 20000 in
set_option maxHeartbeats 4000000 in
theorem zc_X9_cells (x1 : Int32) (M : zM) {r : Int32} (h : p_X9_cells x1 M = some r) : zS Y_X9_cells 0 [some (zO 9), some (zI x1)] [] M (some r, M) := by
  rw [p_X9_cells] at h
  refine zS_aload_nO dX9_cells_0 rfl rfl ?_
  refine zS_iload_n dX9_cells_1 rfl rfl ?_
  obtain ⟨r2, h2, h⟩ := zbind h
  refine zS_callV (as := [zI x1]) (st := []) (ls0 := [some (zO 9), some (zI x1)]) dX9_cells_2 okY_X9_isSheet rfl rfl lay_9 rfl zw_375 zw_376 zw_377 np_X9_isSheet (by decide) (Nat.le_of_ble_eq_true rfl) rfl (Nat.le_of_ble_eq_true rfl) (And.intro rfl (And.intro rfl trivial)) (zc_X9_isSheet x1 M h2) ?_
  refine zS_if_eq (tgt := 16) dX9_cells_5 (by decide) (fun c5 => ?_) (fun c5 => ?_)
  · rw [if_pos c5] at h
    refine zS_bipush (v := (-2 : Int32)) dX9_cells_16 (by decide) ?_
    cases h
    exact zS_ireturn dX9_cells_18 rfl rfl
  · rw [if_neg c5] at h
    refine zS_aload_nO dX9_cells_8 rfl rfl ?_
    refine zS_iload_n dX9_cells_9 rfl rfl ?_
    obtain ⟨r10, h10, h⟩ := zbind h
    refine zS_callV (as := [zI x1]) (st := []) (ls0 := [some (zO 9), some (zI x1), none, none]) dX9_cells_10 okY_X9_sizeOf rfl rfl lay_9 rfl zw_378 zw_379 zw_380 np_X9_sizeOf (by decide) (Nat.le_of_ble_eq_true rfl) rfl (Nat.le_of_ble_eq_true rfl) (And.intro rfl (And.intro rfl trivial)) (zc_X9_sizeOf x1 M h10) ?_
    refine zS_goto (tgt := 18) dX9_cells_13 (by decide) ?_
    cases h
    exact zS_ireturn dX9_cells_18 rfl rfl
def p_X9_clear (M : zM) : Option (Int32 × zM) :=
  some (M 9 18, zset M 9 18 (0 : Int32))
set_option maxRecDepth 20000 in
set_option maxHeartbeats 4000000 in
theorem zc_X9_clear (M : zM) {r : Int32 × zM} (h : p_X9_clear M = some r) : zS Y_X9_clear 0 [some (zO 9), none] [] M (some r.1, r.2) := by
  rw [p_X9_clear] at h
  refine zS_aload_nO dX9_clear_0 rfl rfl ?_
  refine gf_9_18 dX9_clear_1 zw_358 ?_
  refine zS_istore_n (ls' := [some (zO 9), some (zI (M 9 18))]) dX9_clear_4 rfl (by decide) rfl rfl ?_
  refine zS_aload_nO dX9_clear_5 rfl rfl ?_
  refine zS_iconst (v := (0 : Int32)) dX9_clear_6 (by decide) ?_
  refine pf_9_18 dX9_clear_7 zw_358 ?_
  refine zS_iload_n dX9_clear_10 rfl rfl ?_
  cases h
  exact zS_ireturn dX9_clear_11 rfl rfl
