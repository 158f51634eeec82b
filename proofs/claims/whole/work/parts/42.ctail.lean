theorem zw_423 : Cond.methodLink RX3 24 yJ7_fill_53178 ∈ zU := zU_in (by decide +kernel) (by decide +kernel)
def Y_X0_init : zY := (yX0_init, cX0_init, 1, none, 0)
theorem okY_X0_init : zYok Y_X0_init := ⟨by decide +kernel, zU_in (by decide +kernel) (by decide +kernel), zU_in (by decide +kernel) (by decide +kernel), ⟨by decide +kernel, by decide +kernel⟩, by decide⟩
def Y_X1_init : zY := (yX1_init, cX1_init, 2, none, 0)
theorem okY_X1_init : zYok Y_X1_init := ⟨by decide +kernel, zU_in (by decide +kernel) (by decide +kernel), zU_in (by decide +kernel) (by decide +kernel), ⟨by decide +kernel, by decide +kernel⟩, by decide⟩
def Y_X2_init : zY := (yX2_init, cX2_init, 1, none, 0)
theorem okY_X2_init : zYok Y_X2_init := ⟨by decide +kernel, zU_in (by decide +kernel) (by decide +kernel), zU_in (by decide +kernel) (by decide +kernel), ⟨by decide +kernel, by decide +kernel⟩, by decide⟩
def Y_X3_init : zY := (yX3_init, cX3_init, 1, none, 1)
theorem okY_X3_init : zYok Y_X3_init := ⟨by decide +kernel, zU_in (by decide +kernel) (by decide +kernel), zU_in (by decide +kernel) (by decide +kernel), ⟨by decide +kernel, by decide +kernel⟩, by decide⟩
def Y_X4_init : zY := (yX4_init, cX4_init, 2, none, 0)
theorem okY_X4_init : zYok Y_X4_init := ⟨by decide +kernel, zU_in (by decide +kernel) (by decide +kernel), zU_in (by decide +kernel) (by decide +kernel), ⟨by decide +kernel, by decide +kernel⟩, by decide⟩
def Y_X5_init : zY := (yX5_init, cX5_init, 2, none, 0)
theorem okY_X5_init : zYok Y_X5_init := ⟨by decide +kernel, zU_in (by decide +kernel) (by decide +kernel), zU_in (by decide +kernel) (by decide +kernel), ⟨by decide +kernel, by decide +kernel⟩, by decide⟩
def Y_X6_init : zY := (yX6_init, cX6_init, 4, none, 0)
theorem okY_X6_init : zYok Y_X6_init := ⟨by decide +kernel, zU_in (by decide +kernel) (by decide +kernel), zU_in (by decide +kernel) (by decide +kernel), ⟨by decide +kernel, by decide +kernel⟩, by decide⟩
def Y_X7_init : zY := (yX7_init, cX7_init, 2, none, 0)
theorem okY_X7_init : zYok Y_X7_init := ⟨by decide +kernel, zU_in (by decide +kernel) (by decide +kernel), zU_in (by decide +kernel) (by decide +kernel), ⟨by decide +kernel, by decide +kernel⟩, by decide⟩
def Y_X8_init : zY := (yX8_init, cX8_init, 1, none, 0)
theorem okY_X8_init : zYok Y_X8_init := ⟨by decide +kernel, zU_in (by decide +kernel) (by decide +kernel), zU_in (by decide +kernel) (by decide +kernel), ⟨by decide +kernel, by decide +kernel⟩, by decide⟩
def Y_X9_init : zY := (yX9_init, cX9_init, 3, none, 0)
theorem okY_X9_init : zYok Y_X9_init := ⟨by decide +kernel, zU_in (by decide +kernel) (by decide +kernel), zU_in (by decide +kernel) (by decide +kernel), ⟨by decide +kernel, by decide +kernel⟩, by decide⟩
theorem zwA : Cond.arrayClass .int ∈ zU := zU_in (by decide +kernel) (by decide +kernel)
theorem zwO1 : Cond.instanceMethod objectInit ∈ zU := zU_in (by decide +kernel) (by decide +kernel)
theorem zwO2 : Cond.code objectInit ⟨#[0xb1]⟩ 1 none ∈ zU := zU_in (by decide +kernel) (by decide +kernel)
def p_X2_init (M : zM) : Option (zM) :=
  some (zset (zset M 20 ((0 : Int32).toNatClampNeg) (511 : Int32)) 21 ((0 : Int32).toNatClampNeg) (511 : Int32))
set_option maxRecDepth 20000 in
set_option maxHeartbeats 4000000 in
theorem zc_X2_init (M : zM) {r : zM} (h : p_X2_init M = some r) : zS Y_X2_init 44 [some (zO 1)] [] M (none, r) := by
  rw [p_X2_init] at h
  refine zS_aload_nO dX2_init_44 rfl rfl ?_
  refine gf_1_2 dX2_init_45 zw_23 ?_
  refine zS_iconst (v := (0 : Int32)) dX2_init_48 (by decide) ?_
  refine zS_sipush (v := (511 : Int32)) dX2_init_49 (by decide) ?_
  refine zS_iast (by decide) dX2_init_52 ?_
  refine zS_aload_nO dX2_init_53 rfl rfl ?_
  refine gf_1_3 dX2_init_54 zw_22 ?_
  refine zS_iconst (v := (0 : Int32)) dX2_init_57 (by decide) ?_
  refine zS_sipush (v := (511 : Int32)) dX2_init_58 (by decide) ?_
  refine zS_iast (by decide) dX2_init_61 ?_
  cases h
  exact zS_return dX2_init_62
def p_X3_init (M : zM) : Option (zM) :=
  (p_J7_fill_53178 72 6 (1 : Int32) M).bind fun M41 =>
  some M41
set_option maxRecDepth 20000 in
set_option maxHeartbeats 4000000 in
theorem zc_X3_init (M : zM) {r : zM} (h : p_X3_init M = some r) : zS Y_X3_init 36 [some (zO 7)] [] M (none, r) := by
  rw [p_X3_init] at h
  refine zS_aload_nO dX3_init_36 rfl rfl ?_
  refine gf_7_2 dX3_init_37 zw_239 ?_
  refine zS_iconst (v := (1 : Int32)) dX3_init_40 (by decide) ?_
  obtain ⟨M41, h41, h⟩ := zbind h
  refine zS_callSv (as := [zA 72 6, zI (1 : Int32)]) (st := []) (ls0 := [some (zA 72 6), some (zI (1 : Int32)), none, none]) dX3_init_41 okY_J7_fill_53178 rfl rfl zw_112 zw_423 np_J7_fill_53178 (by decide) (Nat.le_of_ble_eq_true rfl) rfl (Nat.le_of_ble_eq_true rfl) (And.intro rfl (And.intro rfl trivial)) (zc_J7_fill_53178 72 6 (1 : Int32) M h41) ?_
  cases h
  exact zS_return dX3_init_44
def p_X4_init_23 : Nat → Int32 → zM → Option (zM)
  | 0, _, _ => none
  | nn + 1, x1, M =>
  if (5 : Int32) ≤ x1 then
    some M
  else
    if x1 < 0 ∨ 5 ≤ x1.toNatClampNeg then none else
    if x1 < 0 ∨ 5 ≤ x1.toNatClampNeg then none else
    p_X4_init_23 nn (x1 + (1 : Int32)) (zset (zset M 37 x1.toNatClampNeg (1 : Int32)) (39 + x1.toNatClampNeg) ((0 : Int32).toNatClampNeg) (9 : Int32))
set_option maxRecDepth 20000 in
set_option maxHeartbeats 4000000 in
theorem zc_X4_init_23 : ∀ (nn : Nat) (x1 : Int32) (M : zM) (r : zM), p_X4_init_23 nn x1 M = some r → zS Y_X4_init 23 [some (zO 4), some (zI x1)] [] M (none, r) := by
  intro nn
  induction nn with
  | zero => intro x1 M r h; cases h
  | succ nn ih =>
  intro x1 M r h
  rw [p_X4_init_23] at h
  refine zS_iload_n dX4_init_23 rfl rfl ?_
  refine zS_iconst (v := (5 : Int32)) dX4_init_24 (by decide) ?_
  refine zS_icmp_ge (tgt := 51) dX4_init_25 (by decide) (fun c25 => ?_) (fun c25 => ?_)
  · rw [if_pos c25] at h
    cases h
    exact zS_return dX4_init_51
  · rw [if_neg c25] at h
    refine zS_aload_nO dX4_init_28 rfl rfl ?_
    refine gf_4_0 dX4_init_29 zw_147 ?_
    refine zS_iload_n dX4_init_32 rfl rfl ?_
    refine zS_iconst (v := (1 : Int32)) dX4_init_33 (by decide) ?_
    by_cases b34 : x1 < 0 ∨ 5 ≤ x1.toNatClampNeg
    · rw [if_pos b34] at h; cases h
    rw [if_neg b34] at h
    refine zS_iast b34 dX4_init_34 ?_
    refine zS_aload_nO dX4_init_35 rfl rfl ?_
    refine gf_4_1 dX4_init_36 zw_146 ?_
    refine zS_iload_n dX4_init_39 rfl rfl ?_
    by_cases b40 : x1 < 0 ∨ 5 ≤ x1.toNatClampNeg
    · rw [if_pos b40] at h; cases h
    rw [if_neg b40] at h
    refine zS_aald lay_38 b40 dX4_init_40 ?_
    refine zS_iconst (v := (0 : Int32)) dX4_init_41 (by decide) ?_
    refine zS_bipush (v := (9 : Int32)) dX4_init_42 (by decide) ?_
    refine zS_iast (by decide) dX4_init_44 ?_
    refine zS_iinc (v := x1 + (1 : Int32)) (ls' := [some (zO 4), some (zI (x1 + (1 : Int32)))]) dX4_init_45 rfl rfl (by decide) rfl rfl ?_
    refine zS_goto (tgt := 23) dX4_init_48 (by decide) ?_
    exact zS_wk [some (zO 4), some (zI (x1 + (1 : Int32)))] (And.intro rfl (And.intro rfl trivial)) (ih (x1 + (1 : Int32)) (zset (zset M 37 x1.toNatClampNeg (1 : Int32)) (39 + x1.toNatClampNeg) ((0 : Int32).toNatClampNeg) (9 : Int32)) r h)
def p_X4_init (M : zM) : Option (zM) :=
  p_X4_init_23 5000 (0 : Int32) M
set_option maxRecDepth 20000 in
set_option maxHeartbeats 4000000 in
theorem zc_X4_init (M : zM) {r : zM} (h : p_X4_init M = some r) : zS Y_X4_init 21 [some (zO 4), none] [] M (none, r) := by
  rw [p_X4_init] at h
  refine zS_iconst (v := (0 : Int32)) dX4_init_21 (by decide) ?_
  refine zS_istore_n (ls' := [some (zO 4), some (zI (0 : Int32))]) dX4_init_22 rfl (by decide) rfl rfl ?_
  exact zS_wk [some (zO 4), some (zI (0 : Int32))] (And.intro rfl (And.intro rfl trivial)) (zc_X4_init_23 5000 (0 : Int32) M r h)
def p_X6_init_95 (k65 : Int32 → zM → Option (zM)) (x2 : Int32) : Nat → Int32 → zM → Option (zM)
  | 0, _, _ => none
  | nn + 1, x3, M =>
  if (9 : Int32) ≤ x3 then
    k65 (x2 + (1 : Int32)) M
  else
    if x2 < 0 ∨ 3 ≤ x2.toNatClampNeg then none else
    if x3 < 0 ∨ 9 ≤ x3.toNatClampNeg then none else
    p_X6_init_95 k65 x2 nn (x3 + (1 : Int32)) (zset M (30 + x2.toNatClampNeg) x3.toNatClampNeg (x3 / (3 : Int32)))
set_option maxRecDepth 20000 in
set_option maxHeartbeats 4000000 in
theorem zc_X6_init_95 {k65 : Int32 → zM → Option (zM)} (x2 : Int32) (hk65 : ∀ (x2 : Int32) (M : zM) (r : zM), k65 x2 M = some r → zS Y_X6_init 65 [some (zO 3), none, some (zI x2), none] [] M (none, r)) : ∀ (nn : Nat) (x3 : Int32) (M : zM) (r : zM), p_X6_init_95 k65 x2 nn x3 M = some r → zS Y_X6_init 95 [some (zO 3), none, some (zI x2), some (zI x3)] [] M (none, r) := by
  intro nn
  induction nn with
  | zero => intro x3 M r h; cases h
  | succ nn ih =>
  intro x3 M r h
  rw [p_X6_init_95] at h
  refine zS_iload_n dX6_init_95 rfl rfl ?_
  refine zS_bipush (v := (9 : Int32)) dX6_init_96 (by decide) ?_
  refine zS_icmp_ge (tgt := 118) dX6_init_98 (by decide) (fun c98 => ?_) (fun c98 => ?_)
  · rw [if_pos c98] at h
    refine zS_iinc (v := x2 + (1 : Int32)) (ls' := [some (zO 3), none, some (zI (x2 + (1 : Int32))), some (zI x3)]) dX6_init_118 rfl rfl (by decide) rfl rfl ?_
    refine zS_goto (tgt := 65) dX6_init_121 (by decide) ?_
    exact zS_wk [some (zO 3), none, some (zI (x2 + (1 : Int32))), none] (And.intro rfl (And.intro rfl trivial)) (hk65 (x2 + (1 : Int32)) M r h)
  · rw [if_neg c98] at h
    refine zS_aload_nO dX6_init_101 rfl rfl ?_
    refine gf_3_2 dX6_init_102 zw_85 ?_
    refine zS_iload_n dX6_init_105 rfl rfl ?_
    by_cases b106 : x2 < 0 ∨ 3 ≤ x2.toNatClampNeg
    · rw [if_pos b106] at h; cases h
    rw [if_neg b106] at h
    refine zS_aald lay_29 b106 dX6_init_106 ?_
    refine zS_iload_n dX6_init_107 rfl rfl ?_
    refine zS_iload_n dX6_init_108 rfl rfl ?_
    refine zS_iconst (v := (3 : Int32)) dX6_init_109 (by decide) ?_
    refine zS_idiv (by decide) dX6_init_110 ?_
    by_cases b111 : x3 < 0 ∨ 9 ≤ x3.toNatClampNeg
    · rw [if_pos b111] at h; cases h
    rw [if_neg b111] at h
    refine zS_iast b111 dX6_init_111 ?_
    refine zS_iinc (v := x3 + (1 : Int32)) (ls' := [some (zO 3), none, some (zI x2), some (zI (x3 + (1 : Int32)))]) dX6_init_112 rfl rfl (by decide) rfl rfl ?_
    refine zS_goto (tgt := 95) dX6_init_115 (by decide) ?_
    exact zS_wk [some (zO 3), none, some (zI x2), some (zI (x3 + (1 : Int32)))] (And.intro rfl (And.intro rfl (And.intro rfl trivial))) (ih (x3 + (1 : Int32)) (zset M (30 + x2.toNatClampNeg) x3.toNatClampNeg (x3 / (3 : Int32))) r h)
def p_X6_init_72 (k65 : Int32 → zM → Option (zM)) (x2 : Int32) : Nat → Int32 → zM → Option (zM)
  | 0, _, _ => none
  | nn + 1, x3, M =>
  if (8 : Int32) ≤ x3 then
    p_X6_init_95 k65 x2 5000 (0 : Int32) M
  else
    if x2 < 0 ∨ 3 ≤ x2.toNatClampNeg then none else
    if x3 < 0 ∨ 8 ≤ x3.toNatClampNeg then none else
    p_X6_init_72 k65 x2 nn (x3 + (1 : Int32)) (zset M (26 + x2.toNatClampNeg) x3.toNatClampNeg x3)
set_option maxRecDepth 20000 in
set_option maxHeartbeats 4000000 in
theorem zc_X6_init_72 {k65 : Int32 → zM → Option (zM)} (x2 : Int32) (hk65 : ∀ (x2 : Int32) (M : zM) (r : zM), k65 x2 M = some r → zS Y_X6_init 65 [some (zO 3), none, some (zI x2), none] [] M (none, r)) : ∀ (nn : Nat) (x3 : Int32) (M : zM) (r : zM), p_X6_init_72 k65 x2 nn x3 M = some r → zS Y_X6_init 72 [some (zO 3), none, some (zI x2), some (zI x3)] [] M (none, r) := by
  intro nn
  induction nn with
  | zero => intro x3 M r h; cases h
  | succ nn ih =>
  intro x3 M r h
  rw [p_X6_init_72] at h
  refine zS_iload_n dX6_init_72 rfl rfl ?_
  refine zS_bipush (v := (8 : Int32)) dX6_init_73 (by decide) ?_
  refine zS_icmp_ge (tgt := 93) dX6_init_75 (by decide) (fun c75 => ?_) (fun c75 => ?_)
  · rw [if_pos c75] at h
    refine zS_iconst (v := (0 : Int32)) dX6_init_93 (by decide) ?_
    refine zS_istore_n (ls' := [some (zO 3), none, some (zI x2), some (zI (0 : Int32))]) dX6_init_94 rfl (by decide) rfl rfl ?_
    exact zS_wk [some (zO 3), none, some (zI x2), some (zI (0 : Int32))] (And.intro rfl (And.intro rfl (And.intro rfl trivial))) (zc_X6_init_95 x2 hk65 5000 (0 : Int32) M r h)
  · rw [if_neg c75] at h
    refine zS_aload_nO dX6_init_78 rfl rfl ?_
    refine gf_3_1 dX6_init_79 zw_84 ?_
    refine zS_iload_n dX6_init_82 rfl rfl ?_
    by_cases b83 : x2 < 0 ∨ 3 ≤ x2.toNatClampNeg
    · rw [if_pos b83] at h; cases h
    rw [if_neg b83] at h
    refine zS_aald lay_25 b83 dX6_init_83 ?_
    refine zS_iload_n dX6_init_84 rfl rfl ?_
    refine zS_iload_n dX6_init_85 rfl rfl ?_
    by_cases b86 : x3 < 0 ∨ 8 ≤ x3.toNatClampNeg
    · rw [if_pos b86] at h; cases h
    rw [if_neg b86] at h
    refine zS_iast b86 dX6_init_86 ?_
    refine zS_iinc (v := x3 + (1 : Int32)) (ls' := [some (zO 3), none, some (zI x2), some (zI (x3 + (1 : Int32)))]) dX6_init_87 rfl rfl (by decide) rfl rfl ?_
    refine zS_goto (tgt := 72) dX6_init_90 (by decide) ?_
    exact zS_wk [some (zO 3), none, some (zI x2), some (zI (x3 + (1 : Int32)))] (And.intro rfl (And.intro rfl (And.intro rfl trivial))) (ih (x3 + (1 : Int32)) (zset M (26 + x2.toNatClampNeg) x3.toNatClampNeg x3) r h)
def p_X6_init_65 : Nat → Int32 → zM → Option (zM)
  | 0, _, _ => none
  | nn + 1, x2, M =>
  if (3 : Int32) ≤ x2 then
    some M
  else
    p_X6_init_72 (p_X6_init_65 nn) x2 5000 (0 : Int32) M
set_option maxRecDepth 20000 in
set_option maxHeartbeats 4000000 in
theorem zc_X6_init_65 : ∀ (nn : Nat) (x2 : Int32) (M : zM) (r : zM), p_X6_init_65 nn x2 M = some r → zS Y_X6_init 65 [some (zO 3), none, some (zI x2), none] [] M (none, r) := by
  intro nn
  induction nn with
  | zero => intro x2 M r h; cases h
  | succ nn ih =>
  intro x2 M r h
  rw [p_X6_init_65] at h
  refine zS_iload_n dX6_init_65 rfl rfl ?_
  refine zS_iconst (v := (3 : Int32)) dX6_init_66 (by decide) ?_
  refine zS_icmp_ge (tgt := 124) dX6_init_67 (by decide) (fun c67 => ?_) (fun c67 => ?_)
  · rw [if_pos c67] at h
    cases h
    exact zS_return dX6_init_124
  · rw [if_neg c67] at h
    refine zS_iconst (v := (0 : Int32)) dX6_init_70 (by decide) ?_
    refine zS_istore_n (ls' := [some (zO 3), none, some (zI x2), some (zI (0 : Int32))]) dX6_init_71 rfl (by decide) rfl rfl ?_
    exact zS_wk [some (zO 3), none, some (zI x2), some (zI (0 : Int32))] (And.intro rfl (And.intro rfl (And.intro rfl trivial))) (zc_X6_init_72 x2 ih 5000 (0 : Int32) M r h)
def p_X6_init (M : zM) : Option (zM) :=
  p_X6_init_65 5000 (0 : Int32) M
set_option maxRecDepth 20000 in
set_option maxHeartbeats 4000000 in
theorem zc_X6_init (M : zM) {r : zM} (h : p_X6_init M = some r) : zS Y_X6_init 63 [some (zO 3), none, none, none] [] M (none, r) := by
  rw [p_X6_init] at h
  refine zS_iconst (v := (0 : Int32)) dX6_init_63 (by decide) ?_
  refine zS_istore_n (ls' := [some (zO 3), none, some (zI (0 : Int32)), none]) dX6_init_64 rfl (by decide) rfl rfl ?_
  exact zS_wk [some (zO 3), none, some (zI (0 : Int32)), none] (And.intro rfl (And.intro rfl trivial)) (zc_X6_init_65 5000 (0 : Int32) M r h)
def p_X9_init_326 : Nat → Int32 → zM → Option (zM)
  | 0, _, _ => none
  | nn + 1, x1, M =>
  if (6 : Int32) ≤ x1 then
    some M
  else
    if x1 < 0 ∨ 6 ≤ x1.toNatClampNeg then none else
    p_X9_init_326 nn (x1 + (1 : Int32)) (zset M 96 x1.toNatClampNeg (1 : Int32))
set_option maxRecDepth 20000 in
set_option maxHeartbeats 4000000 in
theorem zc_X9_init_326 : ∀ (nn : Nat) (x1 : Int32) (M : zM) (r : zM), p_X9_init_326 nn x1 M = some r → zS Y_X9_init 326 [some (zO 9), some (zI x1), none] [] M (none, r) := by
  intro nn
  induction nn with
  | zero => intro x1 M r h; cases h
  | succ nn ih =>
  intro x1 M r h
  rw [p_X9_init_326] at h
  refine zS_iload_n dX9_init_326 rfl rfl ?_
  refine zS_bipush (v := (6 : Int32)) dX9_init_327 (by decide) ?_
  refine zS_icmp_ge (tgt := 345) dX9_init_329 (by decide) (fun c329 => ?_) (fun c329 => ?_)
  · rw [if_pos c329] at h
    cases h
    exact zS_return dX9_init_345
  · rw [if_neg c329] at h
    refine zS_aload_nO dX9_init_332 rfl rfl ?_
    refine gf_9_28 dX9_init_333 zw_398 ?_
    refine zS_iload_n dX9_init_336 rfl rfl ?_
    refine zS_iconst (v := (1 : Int32)) dX9_init_337 (by decide) ?_
    by_cases b338 : x1 < 0 ∨ 6 ≤ x1.toNatClampNeg
    · rw [if_pos b338] at h; cases h
    rw [if_neg b338] at h
    refine zS_iast b338 dX9_init_338 ?_
    refine zS_iinc (v := x1 + (1 : Int32)) (ls' := [some (zO 9), some (zI (x1 + (1 : Int32))), none]) dX9_init_339 rfl rfl (by decide) rfl rfl ?_
    refine zS_goto (tgt := 326) dX9_init_342 (by decide) ?_
    exact zS_wk [some (zO 9), some (zI (x1 + (1 : Int32))), none] (And.intro rfl (And.intro rfl trivial)) (ih (x1 + (1 : Int32)) (zset M 96 x1.toNatClampNeg (1 : Int32)) r h)
def p_X9_init_296 : Nat → Int32 → zM → Option (zM)
  | 0, _, _ => none
  | nn + 1, x1, M =>
  if (5 : Int32) ≤ x1 then
    p_X9_init_326 5000 (0 : Int32) M
  else
    if x1 < 0 ∨ 5 ≤ x1.toNatClampNeg then none else
    if (4 : Int32) * x1 < 0 ∨ 20 ≤ ((4 : Int32) * x1).toNatClampNeg then none else
    p_X9_init_296 nn (x1 + (1 : Int32)) (zset (zset M 86 x1.toNatClampNeg (1 : Int32)) 87 (((4 : Int32) * x1).toNatClampNeg) (9 : Int32))
set_option maxRecDepth 20000 in
set_option maxHeartbeats 4000000 in
theorem zc_X9_init_296 : ∀ (nn : Nat) (x1 : Int32) (M : zM) (r : zM), p_X9_init_296 nn x1 M = some r → zS Y_X9_init 296 [some (zO 9), some (zI x1), none] [] M (none, r) := by
  intro nn
  induction nn with
  | zero => intro x1 M r h; cases h
  | succ nn ih =>
  intro x1 M r h
  rw [p_X9_init_296] at h
  refine zS_iload_n dX9_init_296 rfl rfl ?_
  refine zS_iconst (v := (5 : Int32)) dX9_init_297 (by decide) ?_
  refine zS_icmp_ge (tgt := 324) dX9_init_298 (by decide) (fun c298 => ?_) (fun c298 => ?_)
  · rw [if_pos c298] at h
    refine zS_iconst (v := (0 : Int32)) dX9_init_324 (by decide) ?_
    refine zS_istore_n (ls' := [some (zO 9), some (zI (0 : Int32)), none]) dX9_init_325 rfl (by decide) rfl rfl ?_
    exact zS_wk [some (zO 9), some (zI (0 : Int32)), none] (And.intro rfl (And.intro rfl trivial)) (zc_X9_init_326 5000 (0 : Int32) M r h)
  · rw [if_neg c298] at h
    refine zS_aload_nO dX9_init_301 rfl rfl ?_
    refine gf_9_14 dX9_init_302 zw_359 ?_
    refine zS_iload_n dX9_init_305 rfl rfl ?_
    refine zS_iconst (v := (1 : Int32)) dX9_init_306 (by decide) ?_
    by_cases b307 : x1 < 0 ∨ 5 ≤ x1.toNatClampNeg
    · rw [if_pos b307] at h; cases h
    rw [if_neg b307] at h
    refine zS_iast b307 dX9_init_307 ?_
    refine zS_aload_nO dX9_init_308 rfl rfl ?_
    refine gf_9_15 dX9_init_309 zw_357 ?_
    refine zS_iconst (v := (4 : Int32)) dX9_init_312 (by decide) ?_
    refine zS_iload_n dX9_init_313 rfl rfl ?_
    refine zS_imul dX9_init_314 ?_
    refine zS_bipush (v := (9 : Int32)) dX9_init_315 (by decide) ?_
    by_cases b317 : (4 : Int32) * x1 < 0 ∨ 20 ≤ ((4 : Int32) * x1).toNatClampNeg
    · rw [if_pos b317] at h; cases h
    rw [if_neg b317] at h
    refine zS_iast b317 dX9_init_317 ?_
    refine zS_iinc (v := x1 + (1 : Int32)) (ls' := [some (zO 9), some (zI (x1 + (1 : Int32))), none]) dX9_init_318 rfl rfl (by decide) rfl rfl ?_
    refine zS_goto (tgt := 296) dX9_init_321 (by decide) ?_
    exact zS_wk [some (zO 9), some (zI (x1 + (1 : Int32))), none] (And.intro rfl (And.intro rfl trivial)) (ih (x1 + (1 : Int32)) (zset (zset M 86 x1.toNatClampNeg (1 : Int32)) 87 (((4 : Int32) * x1).toNatClampNeg) (9 : Int32)) r h)
def p_X9_init_267 (k223 : Int32 → zM → Option (zM)) (k230 : Int32 → zM → Option (zM)) (x1 : Int32) (x2 : Int32) (t2 : Int32) (t1 : Int32) (b0 : Nat) (m0 : Nat) (M : zM) : Option (zM) :=
  if t1 < 0 ∨ m0 ≤ t1.toNatClampNeg then none else
  if ((9 : Int32) * x1) + x2 < 0 ∨ 27 ≤ (((9 : Int32) * x1) + x2).toNatClampNeg then none else
  k230 (x2 + (1 : Int32)) (zset (zset M b0 t1.toNatClampNeg t2) 83 ((((9 : Int32) * x1) + x2).toNatClampNeg) (x2 / (3 : Int32)))
set_option maxRecDepth 20000 in
set_option maxHeartbeats 4000000 in
theorem zc_X9_init_267 {k223 : Int32 → zM → Option (zM)} {k230 : Int32 → zM → Option (zM)} (x1 : Int32) (x2 : Int32) (t2 : Int32) (t1 : Int32) (b0 : Nat) (m0 : Nat) (M : zM) (hk223 : ∀ (x1 : Int32) (M : zM) (r : zM), k223 x1 M = some r → zS Y_X9_init 223 [some (zO 9), some (zI x1), none] [] M (none, r)) (hk230 : ∀ (x2 : Int32) (M : zM) (r : zM), k230 x2 M = some r → zS Y_X9_init 230 [some (zO 9), some (zI x1), some (zI x2)] [] M (none, r)) {r : zM} (h : p_X9_init_267 k223 k230 x1 x2 t2 t1 b0 m0 M = some r) : zS Y_X9_init 267 [some (zO 9), some (zI x1), some (zI x2)] [zI t2, zI t1, zA b0 m0] M (none, r) := by
  rw [p_X9_init_267] at h
  by_cases b267 : t1 < 0 ∨ m0 ≤ t1.toNatClampNeg
  · rw [if_pos b267] at h; cases h
  rw [if_neg b267] at h
  refine zS_iast b267 dX9_init_267 ?_
  refine zS_aload_nO dX9_init_268 rfl rfl ?_
  refine gf_9_10 dX9_init_269 zw_342 ?_
  refine zS_bipush (v := (9 : Int32)) dX9_init_272 (by decide) ?_
  refine zS_iload_n dX9_init_274 rfl rfl ?_
  refine zS_imul dX9_init_275 ?_
  refine zS_iload_n dX9_init_276 rfl rfl ?_
  refine zS_iadd dX9_init_277 ?_
  refine zS_iload_n dX9_init_278 rfl rfl ?_
  refine zS_iconst (v := (3 : Int32)) dX9_init_279 (by decide) ?_
  refine zS_idiv (by decide) dX9_init_280 ?_
  by_cases b281 : ((9 : Int32) * x1) + x2 < 0 ∨ 27 ≤ (((9 : Int32) * x1) + x2).toNatClampNeg
  · rw [if_pos b281] at h; cases h
  rw [if_neg b281] at h
  refine zS_iast b281 dX9_init_281 ?_
  refine zS_iinc (v := x2 + (1 : Int32)) (ls' := [some (zO 9), some (zI x1), some (zI (x2 + (1 : Int32)))]) dX9_init_282 rfl rfl (by decide) rfl rfl ?_
  refine zS_goto (tgt := 230) dX9_init_285 (by decide) ?_
  exact zS_wk [some (zO 9), some (zI x1), some (zI (x2 + (1 : Int32)))] (And.intro rfl (And.intro rfl (And.intro rfl trivial))) (hk230 (x2 + (1 : Int32)) (zset (zset M b0 t1.toNatClampNeg t2) 83 ((((9 : Int32) * x1) + x2).toNatClampNeg) (x2 / (3 : Int32))) r h)
def p_X9_init_255 (k223 : Int32 → zM → Option (zM)) (k230 : Int32 → zM → Option (zM)) (x1 : Int32) (x2 : Int32) (t2 : Int32) (t1 : Int32) (b0 : Nat) (m0 : Nat) (M : zM) : Option (zM) :=
  if (8 : Int32) ≤ x2 then
    p_X9_init_267 k223 k230 x1 x2 (0 : Int32) (t1 + t2) b0 m0 M
  else
    p_X9_init_267 k223 k230 x1 x2 x2 (t1 + t2) b0 m0 M
set_option maxRecDepth 20000 in
set_option maxHeartbeats 4000000 in
theorem zc_X9_init_255 {k223 : Int32 → zM → Option (zM)} {k230 : Int32 → zM → Option (zM)} (x1 : Int32) (x2 : Int32) (t2 : Int32) (t1 : Int32) (b0 : Nat) (m0 : Nat) (M : zM) (hk223 : ∀ (x1 : Int32) (M : zM) (r : zM), k223 x1 M = some r → zS Y_X9_init 223 [some (zO 9), some (zI x1), none] [] M (none, r)) (hk230 : ∀ (x2 : Int32) (M : zM) (r : zM), k230 x2 M = some r → zS Y_X9_init 230 [some (zO 9), some (zI x1), some (zI x2)] [] M (none, r)) {r : zM} (h : p_X9_init_255 k223 k230 x1 x2 t2 t1 b0 m0 M = some r) : zS Y_X9_init 255 [some (zO 9), some (zI x1), some (zI x2)] [zI t2, zI t1, zA b0 m0] M (none, r) := by
  rw [p_X9_init_255] at h
  refine zS_iadd dX9_init_255 ?_
  refine zS_iload_n dX9_init_256 rfl rfl ?_
  refine zS_bipush (v := (8 : Int32)) dX9_init_257 (by decide) ?_
  refine zS_icmp_ge (tgt := 266) dX9_init_259 (by decide) (fun c259 => ?_) (fun c259 => ?_)
  · rw [if_pos c259] at h
    refine zS_iconst (v := (0 : Int32)) dX9_init_266 (by decide) ?_
    exact zS_wk [some (zO 9), some (zI x1), some (zI x2)] (And.intro rfl (And.intro rfl (And.intro rfl trivial))) (zc_X9_init_267 x1 x2 (0 : Int32) (t1 + t2) b0 m0 M hk223 hk230 h)
  · rw [if_neg c259] at h
    refine zS_iload_n dX9_init_262 rfl rfl ?_
    refine zS_goto (tgt := 267) dX9_init_263 (by decide) ?_
    exact zS_wk [some (zO 9), some (zI x1), some (zI x2)] (And.intro rfl (And.intro rfl (And.intro rfl trivial))) (zc_X9_init_267 x1 x2 x2 (t1 + t2) b0 m0 M hk223 hk230 h)
def p_X9_init_230 (k223 : Int32 → zM → Option (zM)) (x1 : Int32) : Nat → Int32 → zM → Option (zM)
  | 0, _, _ => none
  | nn + 1, x2, M =>
  if (9 : Int32) ≤ x2 then
    k223 (x1 + (1 : Int32)) M
  else
    if (8 : Int32) ≤ x2 then
      p_X9_init_255 k223 (p_X9_init_230 k223 x1 nn) x1 x2 (0 : Int32) ((8 : Int32) * x1) 82 24 M
    else
      p_X9_init_255 k223 (p_X9_init_230 k223 x1 nn) x1 x2 x2 ((8 : Int32) * x1) 82 24 M
set_option maxRecDepth 20000 in
set_option maxHeartbeats 4000000 in
theorem zc_X9_init_230 {k223 : Int32 → zM → Option (zM)} (x1 : Int32) (hk223 : ∀ (x1 : Int32) (M : zM) (r : zM), k223 x1 M = some r → zS Y_X9_init 223 [some (zO 9), some (zI x1), none] [] M (none, r)) : ∀ (nn : Nat) (x2 : Int32) (M : zM) (r : zM), p_X9_init_230 k223 x1 nn x2 M = some r → zS Y_X9_init 230 [some (zO 9), some (zI x1), some (zI x2)] [] M (none, r) := by
  intro nn
  induction nn with
  | zero => intro x2 M r h; cases h
  | succ nn ih =>
  intro x2 M r h
  rw [p_X9_init_230] at h
  refine zS_iload_n dX9_init_230 rfl rfl ?_
  refine zS_bipush (v := (9 : Int32)) dX9_init_231 (by decide) ?_
  refine zS_icmp_ge (tgt := 288) dX9_init_233 (by decide) (fun c233 => ?_) (fun c233 => ?_)
  · rw [if_pos c233] at h
    refine zS_iinc (v := x1 + (1 : Int32)) (ls' := [some (zO 9), some (zI (x1 + (1 : Int32))), some (zI x2)]) dX9_init_288 rfl rfl (by decide) rfl rfl ?_
    refine zS_goto (tgt := 223) dX9_init_291 (by decide) ?_
    exact zS_wk [some (zO 9), some (zI (x1 + (1 : Int32))), none] (And.intro rfl (And.intro rfl trivial)) (hk223 (x1 + (1 : Int32)) M r h)
  · rw [if_neg c233] at h
    refine zS_aload_nO dX9_init_236 rfl rfl ?_
    refine gf_9_9 dX9_init_237 zw_343 ?_
    refine zS_bipush (v := (8 : Int32)) dX9_init_240 (by decide) ?_
    refine zS_iload_n dX9_init_242 rfl rfl ?_
    refine zS_imul dX9_init_243 ?_
    refine zS_iload_n dX9_init_244 rfl rfl ?_
    refine zS_bipush (v := (8 : Int32)) dX9_init_245 (by decide) ?_
    refine zS_icmp_ge (tgt := 254) dX9_init_247 (by decide) (fun c247 => ?_) (fun c247 => ?_)
    · rw [if_pos c247] at h
      refine zS_iconst (v := (0 : Int32)) dX9_init_254 (by decide) ?_
      exact zS_wk [some (zO 9), some (zI x1), some (zI x2)] (And.intro rfl (And.intro rfl (And.intro rfl trivial))) (zc_X9_init_255 x1 x2 (0 : Int32) ((8 : Int32) * x1) 82 24 M hk223 ih h)
    · rw [if_neg c247] at h
      refine zS_iload_n dX9_init_250 rfl rfl ?_
      refine zS_goto (tgt := 255) dX9_init_251 (by decide) ?_
      exact zS_wk [some (zO 9), some (zI x1), some (zI x2)] (And.intro rfl (And.intro rfl (And.intro rfl trivial))) (zc_X9_init_255 x1 x2 x2 ((8 : Int32) * x1) 82 24 M hk223 ih h)
def p_X9_init_223 : Nat → Int32 → zM → Option (zM)
  | 0, _, _ => none
  | nn + 1, x1, M =>
  if (3 : Int32) ≤ x1 then
    p_X9_init_296 5000 (0 : Int32) M
  else
    p_X9_init_230 (p_X9_init_223 nn) x1 5000 (0 : Int32) M
set_option maxRecDepth 20000 in
set_option maxHeartbeats 4000000 in
theorem zc_X9_init_223 : ∀ (nn : Nat) (x1 : Int32) (M : zM) (r : zM), p_X9_init_223 nn x1 M = some r → zS Y_X9_init 223 [some (zO 9), some (zI x1), none] [] M (none, r) := by
  intro nn
  induction nn with
  | zero => intro x1 M r h; cases h
  | succ nn ih =>
  intro x1 M r h
  rw [p_X9_init_223] at h
  refine zS_iload_n dX9_init_223 rfl rfl ?_
  refine zS_iconst (v := (3 : Int32)) dX9_init_224 (by decide) ?_
  refine zS_icmp_ge (tgt := 294) dX9_init_225 (by decide) (fun c225 => ?_) (fun c225 => ?_)
  · rw [if_pos c225] at h
    refine zS_iconst (v := (0 : Int32)) dX9_init_294 (by decide) ?_
    refine zS_istore_n (ls' := [some (zO 9), some (zI (0 : Int32)), none]) dX9_init_295 rfl (by decide) rfl rfl ?_
    exact zS_wk [some (zO 9), some (zI (0 : Int32)), none] (And.intro rfl (And.intro rfl trivial)) (zc_X9_init_296 5000 (0 : Int32) M r h)
  · rw [if_neg c225] at h
    refine zS_iconst (v := (0 : Int32)) dX9_init_228 (by decide) ?_
    refine zS_istore_n (ls' := [some (zO 9), some (zI x1), some (zI (0 : Int32))]) dX9_init_229 rfl (by decide) rfl rfl ?_
    exact zS_wk [some (zO 9), some (zI x1), some (zI (0 : Int32))] (And.intro rfl (And.intro rfl (And.intro rfl trivial))) (zc_X9_init_230 x1 ih 5000 (0 : Int32) M r h)
def p_X9_init (M : zM) : Option (zM) :=
  p_X9_init_223 5000 (0 : Int32) (zset (zset M 77 ((0 : Int32).toNatClampNeg) (511 : Int32)) 78 ((0 : Int32).toNatClampNeg) (511 : Int32))
set_option maxRecDepth 20000 in
set_option maxHeartbeats 4000000 in
theorem zc_X9_init (M : zM) {r : zM} (h : p_X9_init M = some r) : zS Y_X9_init 203 [some (zO 9), none, none] [] M (none, r) := by
  rw [p_X9_init] at h
  refine zS_aload_nO dX9_init_203 rfl rfl ?_
  refine gf_9_2 dX9_init_204 zw_320 ?_
  refine zS_iconst (v := (0 : Int32)) dX9_init_207 (by decide) ?_
  refine zS_sipush (v := (511 : Int32)) dX9_init_208 (by decide) ?_
  refine zS_iast (by decide) dX9_init_211 ?_
  refine zS_aload_nO dX9_init_212 rfl rfl ?_
  refine gf_9_3 dX9_init_213 zw_319 ?_
  refine zS_iconst (v := (0 : Int32)) dX9_init_216 (by decide) ?_
  refine zS_sipush (v := (511 : Int32)) dX9_init_217 (by decide) ?_
  refine zS_iast (by decide) dX9_init_220 ?_
  refine zS_iconst (v := (0 : Int32)) dX9_init_221 (by decide) ?_
  refine zS_istore_n (ls' := [some (zO 9), some (zI (0 : Int32)), none]) dX9_init_222 rfl (by decide) rfl rfl ?_
  exact zS_wk [some (zO 9), some (zI (0 : Int32)), none] (And.intro rfl (And.intro rfl trivial)) (zc_X9_init_223 5000 (0 : Int32) (zset (zset M 77 ((0 : Int32).toNatClampNeg) (511 : Int32)) 78 ((0 : Int32).toNatClampNeg) (511 : Int32)) r h)
