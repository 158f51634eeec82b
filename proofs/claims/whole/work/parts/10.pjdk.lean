def p_J7_fill_53178_5 (a0 : Nat) (n0 : Nat) (x1 : Int32) (x3 : Int32) : Nat → Int32 → zM → Option (zM)
  | 0, _, _ => none
  | nn + 1, x2, M =>
  if x3 ≤ x2 then
    some M
  else
    if x2 < 0 ∨ n0 ≤ x2.toNatClampNeg then none else
    p_J7_fill_53178_5 a0 n0 x1 x3 nn (x2 + (1 : Int32)) (zset M a0 x2.toNatClampNeg x1)
set_option maxRecDepth 20000 in
set_option maxHeartbeats 4000000 in
theorem zc_J7_fill_53178_5 (a0 : Nat) (n0 : Nat) (x1 : Int32) (x3 : Int32) : ∀ (nn : Nat) (x2 : Int32) (M : zM) (r : zM), p_J7_fill_53178_5 a0 n0 x1 x3 nn x2 M = some r → zS Y_J7_fill_53178 5 [some (zA a0 n0), some (zI x1), some (zI x2), some (zI x3)] [] M (none, r) := by
  intro nn
  induction nn with
  | zero => intro x2 M r h; cases h
  | succ nn ih =>
  intro x2 M r h
  rw [p_J7_fill_53178_5] at h
  refine zS_iload_n dJ7_fill_53178_5 rfl rfl ?_
  refine zS_iload_n dJ7_fill_53178_6 rfl rfl ?_
  refine zS_icmp_ge (tgt := 20) dJ7_fill_53178_7 (by decide) (fun c7 => ?_) (fun c7 => ?_)
  · rw [if_pos c7] at h
    cases h
    exact zS_return dJ7_fill_53178_20
  · rw [if_neg c7] at h
    refine zS_aload_nA dJ7_fill_53178_10 rfl rfl ?_
    refine zS_iload_n dJ7_fill_53178_11 rfl rfl ?_
    refine zS_iload_n dJ7_fill_53178_12 rfl rfl ?_
    by_cases b13 : x2 < 0 ∨ n0 ≤ x2.toNatClampNeg
    · rw [if_pos b13] at h; cases h
    rw [if_neg b13] at h
    refine zS_iast b13 dJ7_fill_53178_13 ?_
    refine zS_iinc (v := x2 + (1 : Int32)) (ls' := [some (zA a0 n0), some (zI x1), some (zI (x2 + (1 : Int32))), some (zI x3)]) dJ7_fill_53178_14 rfl rfl (by decide) rfl rfl ?_
    refine zS_goto (tgt := 5) dJ7_fill_53178_17 (by decide) ?_
    exact zS_wk [some (zA a0 n0), some (zI x1), some (zI (x2 + (1 : Int32))), some (zI x3)] (And.intro rfl (And.intro rfl (And.intro rfl (And.intro rfl trivial)))) (ih (x2 + (1 : Int32)) (zset M a0 x2.toNatClampNeg x1) r h)
def p_J7_fill_53178 (a0 : Nat) (n0 : Nat) (x1 : Int32) (M : zM) : Option (zM) :=
  p_J7_fill_53178_5 a0 n0 x1 (Int32.ofNat n0) 5000 (0 : Int32) M
set_option maxRecDepth 20000 in
set_option maxHeartbeats 4000000 in
theorem zc_J7_fill_53178 (a0 : Nat) (n0 : Nat) (x1 : Int32) (M : zM) {r : zM} (h : p_J7_fill_53178 a0 n0 x1 M = some r) : zS Y_J7_fill_53178 0 [some (zA a0 n0), some (zI x1), none, none] [] M (none, r) := by
  rw [p_J7_fill_53178] at h
  refine zS_iconst (v := (0 : Int32)) dJ7_fill_53178_0 (by decide) ?_
  refine zS_istore_n (ls' := [some (zA a0 n0), some (zI x1), some (zI (0 : Int32)), none]) dJ7_fill_53178_1 rfl (by decide) rfl rfl ?_
  refine zS_aload_nA dJ7_fill_53178_2 rfl rfl ?_
  refine zS_alen dJ7_fill_53178_3 ?_
  refine zS_istore_n (ls' := [some (zA a0 n0), some (zI x1), some (zI (0 : Int32)), some (zI (Int32.ofNat n0))]) dJ7_fill_53178_4 rfl (by decide) rfl rfl ?_
  exact zS_wk [some (zA a0 n0), some (zI x1), some (zI (0 : Int32)), some (zI (Int32.ofNat n0))] (And.intro rfl (And.intro rfl (And.intro rfl (And.intro rfl trivial)))) (zc_J7_fill_53178_5 a0 n0 x1 (Int32.ofNat n0) 5000 (0 : Int32) M r h)
def p_J6_bitCount_0f7a4 (x0 : Int32) : Option (Int32) :=
  some ((((((((x0 - (((x0.toUInt32 >>> ((1 : Int32).toUInt32 &&& Int32.toUInt32 31)).toInt32) &&& (1431655765 : Int32))) &&& (858993459 : Int32)) + ((((x0 - (((x0.toUInt32 >>> ((1 : Int32).toUInt32 &&& Int32.toUInt32 31)).toInt32) &&& (1431655765 : Int32))).toUInt32 >>> ((2 : Int32).toUInt32 &&& Int32.toUInt32 31)).toInt32) &&& (858993459 : Int32))) + (((((x0 - (((x0.toUInt32 >>> ((1 : Int32).toUInt32 &&& Int32.toUInt32 31)).toInt32) &&& (1431655765 : Int32))) &&& (858993459 : Int32)) + ((((x0 - (((x0.toUInt32 >>> ((1 : Int32).toUInt32 &&& Int32.toUInt32 31)).toInt32) &&& (1431655765 : Int32))).toUInt32 >>> ((2 : Int32).toUInt32 &&& Int32.toUInt32 31)).toInt32) &&& (858993459 : Int32))).toUInt32 >>> ((4 : Int32).toUInt32 &&& Int32.toUInt32 31)).toInt32)) &&& (252645135 : Int32)) + (((((((x0 - (((x0.toUInt32 >>> ((1 : Int32).toUInt32 &&& Int32.toUInt32 31)).toInt32) &&& (1431655765 : Int32))) &&& (858993459 : Int32)) + ((((x0 - (((x0.toUInt32 >>> ((1 : Int32).toUInt32 &&& Int32.toUInt32 31)).toInt32) &&& (1431655765 : Int32))).toUInt32 >>> ((2 : Int32).toUInt32 &&& Int32.toUInt32 31)).toInt32) &&& (858993459 : Int32))) + (((((x0 - (((x0.toUInt32 >>> ((1 : Int32).toUInt32 &&& Int32.toUInt32 31)).toInt32) &&& (1431655765 : Int32))) &&& (858993459 : Int32)) + ((((x0 - (((x0.toUInt32 >>> ((1 : Int32).toUInt32 &&& Int32.toUInt32 31)).toInt32) &&& (1431655765 : Int32))).toUInt32 >>> ((2 : Int32).toUInt32 &&& Int32.toUInt32 31)).toInt32) &&& (858993459 : Int32))).toUInt32 >>> ((4 : Int32).toUInt32 &&& Int32.toUInt32 31)).toInt32)) &&& (252645135 : Int32)).toUInt32 >>> ((8 : Int32).toUInt32 &&& Int32.toUInt32 31)).toInt32)) + ((((((((x0 - (((x0.toUInt32 >>> ((1 : Int32).toUInt32 &&& Int32.toUInt32 31)).toInt32) &&& (1431655765 : Int32))) &&& (858993459 : Int32)) + ((((x0 - (((x0.toUInt32 >>> ((1 : Int32).toUInt32 &&& Int32.toUInt32 31)).toInt32) &&& (1431655765 : Int32))).toUInt32 >>> ((2 : Int32).toUInt32 &&& Int32.toUInt32 31)).toInt32) &&& (858993459 : Int32))) + (((((x0 - (((x0.toUInt32 >>> ((1 : Int32).toUInt32 &&& Int32.toUInt32 31)).toInt32) &&& (1431655765 : Int32))) &&& (858993459 : Int32)) + ((((x0 - (((x0.toUInt32 >>> ((1 : Int32).toUInt32 &&& Int32.toUInt32 31)).toInt32) &&& (1431655765 : Int32))).toUInt32 >>> ((2 : Int32).toUInt32 &&& Int32.toUInt32 31)).toInt32) &&& (858993459 : Int32))).toUInt32 >>> ((4 : Int32).toUInt32 &&& Int32.toUInt32 31)).toInt32)) &&& (252645135 : Int32)) + (((((((x0 - (((x0.toUInt32 >>> ((1 : Int32).toUInt32 &&& Int32.toUInt32 31)).toInt32) &&& (1431655765 : Int32))) &&& (858993459 : Int32)) + ((((x0 - (((x0.toUInt32 >>> ((1 : Int32).toUInt32 &&& Int32.toUInt32 31)).toInt32) &&& (1431655765 : Int32))).toUInt32 >>> ((2 : Int32).toUInt32 &&& Int32.toUInt32 31)).toInt32) &&& (858993459 : Int32))) + (((((x0 - (((x0.toUInt32 >>> ((1 : Int32).toUInt32 &&& Int32.toUInt32 31)).toInt32) &&& (1431655765 : Int32))) &&& (858993459 : Int32)) + ((((x0 - (((x0.toUInt32 >>> ((1 : Int32).toUInt32 &&& Int32.toUInt32 31)).toInt32) &&& (1431655765 : Int32))).toUInt32 >>> ((2 : Int32).toUInt32 &&& Int32.toUInt32 31)).toInt32) &&& (858993459 : Int32))).toUInt32 >>> ((4 : Int32).toUInt32 &&& Int32.toUInt32 31)).toInt32)) &&& (252645135 : Int32)).toUInt32 >>> ((8 : Int32).toUInt32 &&& Int32.toUInt32 31)).toInt32)).toUInt32 >>> ((16 : Int32).toUInt32 &&& Int32.toUInt32 31)).toInt32)) &&& (63 : Int32))
set_option maxRecDepth 20000 in
set_option maxHeartbeats 4000000 in
theorem zc_J6_bitCount_0f7a4 (x0 : Int32) (M : zM) {r : Int32} (h : p_J6_bitCount_0f7a4 x0 = some r) : zS Y_J6_bitCount_0f7a4 0 [some (zI x0)] [] M (some r, M) := by
  rw [p_J6_bitCount_0f7a4] at h
  refine zS_iload_n dJ6_bitCount_0f7a4_0 rfl rfl ?_
  refine zS_iload_n dJ6_bitCount_0f7a4_1 rfl rfl ?_
  refine zS_iconst (v := (1 : Int32)) dJ6_bitCount_0f7a4_2 (by decide) ?_
  refine zS_iushr dJ6_bitCount_0f7a4_3 ?_
  refine zS_ldcw (v := (1431655765 : Int32)) dJ6_bitCount_0f7a4_4 zw_177 ?_
  refine zS_iand dJ6_bitCount_0f7a4_7 ?_
  refine zS_isub dJ6_bitCount_0f7a4_8 ?_
  refine zS_istore_n (ls' := [some (zI (x0 - (((x0.toUInt32 >>> ((1 : Int32).toUInt32 &&& Int32.toUInt32 31)).toInt32) &&& (1431655765 : Int32))))]) dJ6_bitCount_0f7a4_9 rfl (by decide) rfl rfl ?_
  refine zS_iload_n dJ6_bitCount_0f7a4_10 rfl rfl ?_
  refine zS_ldcw (v := (858993459 : Int32)) dJ6_bitCount_0f7a4_11 zw_178 ?_
  refine zS_iand dJ6_bitCount_0f7a4_14 ?_
  refine zS_iload_n dJ6_bitCount_0f7a4_15 rfl rfl ?_
  refine zS_iconst (v := (2 : Int32)) dJ6_bitCount_0f7a4_16 (by decide) ?_
  refine zS_iushr dJ6_bitCount_0f7a4_17 ?_
  refine zS_ldcw (v := (858993459 : Int32)) dJ6_bitCount_0f7a4_18 zw_178 ?_
  refine zS_iand dJ6_bitCount_0f7a4_21 ?_
  refine zS_iadd dJ6_bitCount_0f7a4_22 ?_
  refine zS_istore_n (ls' := [some (zI (((x0 - (((x0.toUInt32 >>> ((1 : Int32).toUInt32 &&& Int32.toUInt32 31)).toInt32) &&& (1431655765 : Int32))) &&& (858993459 : Int32)) + ((((x0 - (((x0.toUInt32 >>> ((1 : Int32).toUInt32 &&& Int32.toUInt32 31)).toInt32) &&& (1431655765 : Int32))).toUInt32 >>> ((2 : Int32).toUInt32 &&& Int32.toUInt32 31)).toInt32) &&& (858993459 : Int32))))]) dJ6_bitCount_0f7a4_23 rfl (by decide) rfl rfl ?_
  refine zS_iload_n dJ6_bitCount_0f7a4_24 rfl rfl ?_
  refine zS_iload_n dJ6_bitCount_0f7a4_25 rfl rfl ?_
  refine zS_iconst (v := (4 : Int32)) dJ6_bitCount_0f7a4_26 (by decide) ?_
  refine zS_iushr dJ6_bitCount_0f7a4_27 ?_
  refine zS_iadd dJ6_bitCount_0f7a4_28 ?_
  refine zS_ldcw (v := (252645135 : Int32)) dJ6_bitCount_0f7a4_29 zw_179 ?_
  refine zS_iand dJ6_bitCount_0f7a4_32 ?_
  refine zS_istore_n (ls' := [some (zI (((((x0 - (((x0.toUInt32 >>> ((1 : Int32).toUInt32 &&& Int32.toUInt32 31)).toInt32) &&& (1431655765 : Int32))) &&& (858993459 : Int32)) + ((((x0 - (((x0.toUInt32 >>> ((1 : Int32).toUInt32 &&& Int32.toUInt32 31)).toInt32) &&& (1431655765 : Int32))).toUInt32 >>> ((2 : Int32).toUInt32 &&& Int32.toUInt32 31)).toInt32) &&& (858993459 : Int32))) + (((((x0 - (((x0.toUInt32 >>> ((1 : Int32).toUInt32 &&& Int32.toUInt32 31)).toInt32) &&& (1431655765 : Int32))) &&& (858993459 : Int32)) + ((((x0 - (((x0.toUInt32 >>> ((1 : Int32).toUInt32 &&& Int32.toUInt32 31)).toInt32) &&& (1431655765 : Int32))).toUInt32 >>> ((2 : Int32).toUInt32 &&& Int32.toUInt32 31)).toInt32) &&& (858993459 : Int32))).toUInt32 >>> ((4 : Int32).toUInt32 &&& Int32.toUInt32 31)).toInt32)) &&& (252645135 : Int32)))]) dJ6_bitCount_0f7a4_33 rfl (by decide) rfl rfl ?_
  refine zS_iload_n dJ6_bitCount_0f7a4_34 rfl rfl ?_
  refine zS_iload_n dJ6_bitCount_0f7a4_35 rfl rfl ?_
  refine zS_bipush (v := (8 : Int32)) dJ6_bitCount_0f7a4_36 (by decide) ?_
  refine zS_iushr dJ6_bitCount_0f7a4_38 ?_
  refine zS_iadd dJ6_bitCount_0f7a4_39 ?_
  refine zS_istore_n (ls' := [some (zI ((((((x0 - (((x0.toUInt32 >>> ((1 : Int32).toUInt32 &&& Int32.toUInt32 31)).toInt32) &&& (1431655765 : Int32))) &&& (858993459 : Int32)) + ((((x0 - (((x0.toUInt32 >>> ((1 : Int32).toUInt32 &&& Int32.toUInt32 31)).toInt32) &&& (1431655765 : Int32))).toUInt32 >>> ((2 : Int32).toUInt32 &&& Int32.toUInt32 31)).toInt32) &&& (858993459 : Int32))) + (((((x0 - (((x0.toUInt32 >>> ((1 : Int32).toUInt32 &&& Int32.toUInt32 31)).toInt32) &&& (1431655765 : Int32))) &&& (858993459 : Int32)) + ((((x0 - (((x0.toUInt32 >>> ((1 : Int32).toUInt32 &&& Int32.toUInt32 31)).toInt32) &&& (1431655765 : Int32))).toUInt32 >>> ((2 : Int32).toUInt32 &&& Int32.toUInt32 31)).toInt32) &&& (858993459 : Int32))).toUInt32 >>> ((4 : Int32).toUInt32 &&& Int32.toUInt32 31)).toInt32)) &&& (252645135 : Int32)) + (((((((x0 - (((x0.toUInt32 >>> ((1 : Int32).toUInt32 &&& Int32.toUInt32 31)).toInt32) &&& (1431655765 : Int32))) &&& (858993459 : Int32)) + ((((x0 - (((x0.toUInt32 >>> ((1 : Int32).toUInt32 &&& Int32.toUInt32 31)).toInt32) &&& (1431655765 : Int32))).toUInt32 >>> ((2 : Int32).toUInt32 &&& Int32.toUInt32 31)).toInt32) &&& (858993459 : Int32))) + (((((x0 - (((x0.toUInt32 >>> ((1 : Int32).toUInt32 &&& Int32.toUInt32 31)).toInt32) &&& (1431655765 : Int32))) &&& (858993459 : Int32)) + ((((x0 - (((x0.toUInt32 >>> ((1 : Int32).toUInt32 &&& Int32.toUInt32 31)).toInt32) &&& (1431655765 : Int32))).toUInt32 >>> ((2 : Int32).toUInt32 &&& Int32.toUInt32 31)).toInt32) &&& (858993459 : Int32))).toUInt32 >>> ((4 : Int32).toUInt32 &&& Int32.toUInt32 31)).toInt32)) &&& (252645135 : Int32)).toUInt32 >>> ((8 : Int32).toUInt32 &&& Int32.toUInt32 31)).toInt32)))]) dJ6_bitCount_0f7a4_40 rfl (by decide) rfl rfl ?_
  refine zS_iload_n dJ6_bitCount_0f7a4_41 rfl rfl ?_
  refine zS_iload_n dJ6_bitCount_0f7a4_42 rfl rfl ?_
  refine zS_bipush (v := (16 : Int32)) dJ6_bitCount_0f7a4_43 (by decide) ?_
  refine zS_iushr dJ6_bitCount_0f7a4_45 ?_
  refine zS_iadd dJ6_bitCount_0f7a4_46 ?_
  refine zS_istore_n (ls' := [some (zI (((((((x0 - (((x0.toUInt32 >>> ((1 : Int32).toUInt32 &&& Int32.toUInt32 31)).toInt32) &&& (1431655765 : Int32))) &&& (858993459 : Int32)) + ((((x0 - (((x0.toUInt32 >>> ((1 : Int32).toUInt32 &&& Int32.toUInt32 31)).toInt32) &&& (1431655765 : Int32))).toUInt32 >>> ((2 : Int32).toUInt32 &&& Int32.toUInt32 31)).toInt32) &&& (858993459 : Int32))) + (((((x0 - (((x0.toUInt32 >>> ((1 : Int32).toUInt32 &&& Int32.toUInt32 31)).toInt32) &&& (1431655765 : Int32))) &&& (858993459 : Int32)) + ((((x0 - (((x0.toUInt32 >>> ((1 : Int32).toUInt32 &&& Int32.toUInt32 31)).toInt32) &&& (1431655765 : Int32))).toUInt32 >>> ((2 : Int32).toUInt32 &&& Int32.toUInt32 31)).toInt32) &&& (858993459 : Int32))).toUInt32 >>> ((4 : Int32).toUInt32 &&& Int32.toUInt32 31)).toInt32)) &&& (252645135 : Int32)) + (((((((x0 - (((x0.toUInt32 >>> ((1 : Int32).toUInt32 &&& Int32.toUInt32 31)).toInt32) &&& (1431655765 : Int32))) &&& (858993459 : Int32)) + ((((x0 - (((x0.toUInt32 >>> ((1 : Int32).toUInt32 &&& Int32.toUInt32 31)).toInt32) &&& (1431655765 : Int32))).toUInt32 >>> ((2 : Int32).toUInt32 &&& Int32.toUInt32 31)).toInt32) &&& (858993459 : Int32))) + (((((x0 - (((x0.toUInt32 >>> ((1 : Int32).toUInt32 &&& Int32.toUInt32 31)).toInt32) &&& (1431655765 : Int32))) &&& (858993459 : Int32)) + ((((x0 - (((x0.toUInt32 >>> ((1 : Int32).toUInt32 &&& Int32.toUInt32 31)).toInt32) &&& (1431655765 : Int32))).toUInt32 >>> ((2 : Int32).toUInt32 &&& Int32.toUInt32 31)).toInt32) &&& (858993459 : Int32))).toUInt32 >>> ((4 : Int32).toUInt32 &&& Int32.toUInt32 31)).toInt32)) &&& (252645135 : Int32)).toUInt32 >>> ((8 : Int32).toUInt32 &&& Int32.toUInt32 31)).toInt32)) + ((((((((x0 - (((x0.toUInt32 >>> ((1 : Int32).toUInt32 &&& Int32.toUInt32 31)).toInt32) &&& (1431655765 : Int32))) &&& (858993459 : Int32)) + ((((x0 - (((x0.toUInt32 >>> ((1 : Int32).toUInt32 &&& Int32.toUInt32 31)).toInt32) &&& (1431655765 : Int32))).toUInt32 >>> ((2 : Int32).toUInt32 &&& Int32.toUInt32 31)).toInt32) &&& (858993459 : Int32))) + (((((x0 - (((x0.toUInt32 >>> ((1 : Int32).toUInt32 &&& Int32.toUInt32 31)).toInt32) &&& (1431655765 : Int32))) &&& (858993459 : Int32)) + ((((x0 - (((x0.toUInt32 >>> ((1 : Int32).toUInt32 &&& Int32.toUInt32 31)).toInt32) &&& (1431655765 : Int32))).toUInt32 >>> ((2 : Int32).toUInt32 &&& Int32.toUInt32 31)).toInt32) &&& (858993459 : Int32))).toUInt32 >>> ((4 : Int32).toUInt32 &&& Int32.toUInt32 31)).toInt32)) &&& (252645135 : Int32)) + (((((((x0 - (((x0.toUInt32 >>> ((1 : Int32).toUInt32 &&& Int32.toUInt32 31)).toInt32) &&& (1431655765 : Int32))) &&& (858993459 : Int32)) + ((((x0 - (((x0.toUInt32 >>> ((1 : Int32).toUInt32 &&& Int32.toUInt32 31)).toInt32) &&& (1431655765 : Int32))).toUInt32 >>> ((2 : Int32).toUInt32 &&& Int32.toUInt32 31)).toInt32) &&& (858993459 : Int32))) + (((((x0 - (((x0.toUInt32 >>> ((1 : Int32).toUInt32 &&& Int32.toUInt32 31)).toInt32) &&& (1431655765 : Int32))) &&& (858993459 : Int32)) + ((((x0 - (((x0.toUInt32 >>> ((1 : Int32).toUInt32 &&& Int32.toUInt32 31)).toInt32) &&& (1431655765 : Int32))).toUInt32 >>> ((2 : Int32).toUInt32 &&& Int32.toUInt32 31)).toInt32) &&& (858993459 : Int32))).toUInt32 >>> ((4 : Int32).toUInt32 &&& Int32.toUInt32 31)).toInt32)) &&& (252645135 : Int32)).toUInt32 >>> ((8 : Int32).toUInt32 &&& Int32.toUInt32 31)).toInt32)).toUInt32 >>> ((16 : Int32).toUInt32 &&& Int32.toUInt32 31)).toInt32)))]) dJ6_bitCount_0f7a4_47 rfl (by decide) rfl rfl ?_
  refine zS_iload_n dJ6_bitCount_0f7a4_48 rfl rfl ?_
  refine zS_bipush (v := (63 : Int32)) dJ6_bitCount_0f7a4_49 (by decide) ?_
  refine zS_iand dJ6_bitCount_0f7a4_51 ?_
  cases h
  exact zS_ireturn dJ6_bitCount_0f7a4_52 rfl rfl
