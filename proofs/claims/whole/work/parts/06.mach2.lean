section ZR2
variable {Y : zY} {pc : Nat} {ls : List (Option zAV)} {st : List zAV} {M : zM} {r : Option Int32 × zM}
theorem zS_iadd {x y : Int32} (hd : decode Y.2.1 pc = .ok (.iadd, 1)) (k : zS Y (pc + 1) ls (zI (x + y) :: st) M r) : zS Y pc ls (zI y :: zI x :: st) M r := by
  intro l D cI cG ad ids A p e s m args below meth c R cells slots Q H locs Ls C B F hR hk
  exact lv_iadd C.1 C.2.1 hd (k l D cI cG ad ids A p e s m args below meth c R cells slots Q H locs Ls C B (F.tl.tl.push trivial) hR hk)
theorem zS_isub {x y : Int32} (hd : decode Y.2.1 pc = .ok (.isub, 1)) (k : zS Y (pc + 1) ls (zI (x - y) :: st) M r) : zS Y pc ls (zI y :: zI x :: st) M r := by
  intro l D cI cG ad ids A p e s m args below meth c R cells slots Q H locs Ls C B F hR hk
  exact lv_isub C.1 C.2.1 hd (k l D cI cG ad ids A p e s m args below meth c R cells slots Q H locs Ls C B (F.tl.tl.push trivial) hR hk)
theorem zS_imul {x y : Int32} (hd : decode Y.2.1 pc = .ok (.imul, 1)) (k : zS Y (pc + 1) ls (zI (x * y) :: st) M r) : zS Y pc ls (zI y :: zI x :: st) M r := by
  intro l D cI cG ad ids A p e s m args below meth c R cells slots Q H locs Ls C B F hR hk
  exact lv_imul C.1 C.2.1 hd (k l D cI cG ad ids A p e s m args below meth c R cells slots Q H locs Ls C B (F.tl.tl.push trivial) hR hk)
theorem zS_iand {x y : Int32} (hd : decode Y.2.1 pc = .ok (.iand, 1)) (k : zS Y (pc + 1) ls (zI (x &&& y) :: st) M r) : zS Y pc ls (zI y :: zI x :: st) M r := by
  intro l D cI cG ad ids A p e s m args below meth c R cells slots Q H locs Ls C B F hR hk
  exact lv_iand C.1 C.2.1 hd (k l D cI cG ad ids A p e s m args below meth c R cells slots Q H locs Ls C B (F.tl.tl.push trivial) hR hk)
theorem zS_ior {x y : Int32} (hd : decode Y.2.1 pc = .ok (.ior, 1)) (k : zS Y (pc + 1) ls (zI (x ||| y) :: st) M r) : zS Y pc ls (zI y :: zI x :: st) M r := by
  intro l D cI cG ad ids A p e s m args below meth c R cells slots Q H locs Ls C B F hR hk
  exact lv_ior C.1 C.2.1 hd (k l D cI cG ad ids A p e s m args below meth c R cells slots Q H locs Ls C B (F.tl.tl.push trivial) hR hk)
theorem zS_ixor {x y : Int32} (hd : decode Y.2.1 pc = .ok (.ixor, 1)) (k : zS Y (pc + 1) ls (zI (x ^^^ y) :: st) M r) : zS Y pc ls (zI y :: zI x :: st) M r := by
  intro l D cI cG ad ids A p e s m args below meth c R cells slots Q H locs Ls C B F hR hk
  exact lv_ixor C.1 C.2.1 hd (k l D cI cG ad ids A p e s m args below meth c R cells slots Q H locs Ls C B (F.tl.tl.push trivial) hR hk)
theorem zS_ishl {x y : Int32} (hd : decode Y.2.1 pc = .ok (.ishl, 1)) (k : zS Y (pc + 1) ls (zI (x <<< (y &&& 31)) :: st) M r) : zS Y pc ls (zI y :: zI x :: st) M r := by
  intro l D cI cG ad ids A p e s m args below meth c R cells slots Q H locs Ls C B F hR hk
  exact lv_ishl C.1 C.2.1 hd (k l D cI cG ad ids A p e s m args below meth c R cells slots Q H locs Ls C B (F.tl.tl.push trivial) hR hk)
theorem zS_ishr {x y : Int32} (hd : decode Y.2.1 pc = .ok (.ishr, 1)) (k : zS Y (pc + 1) ls (zI (x >>> (y &&& 31)) :: st) M r) : zS Y pc ls (zI y :: zI x :: st) M r := by
  intro l D cI cG ad ids A p e s m args below meth c R cells slots Q H locs Ls C B F hR hk
  exact lv_ishr C.1 C.2.1 hd (k l D cI cG ad ids A p e s m args below meth c R cells slots Q H locs Ls C B (F.tl.tl.push trivial) hR hk)
theorem zS_iushr {x y : Int32} (hd : decode Y.2.1 pc = .ok (.iushr, 1)) (k : zS Y (pc + 1) ls (zI ((x.toUInt32 >>> (y.toUInt32 &&& Int32.toUInt32 31)).toInt32) :: st) M r) : zS Y pc ls (zI y :: zI x :: st) M r := by
  intro l D cI cG ad ids A p e s m args below meth c R cells slots Q H locs Ls C B F hR hk
  exact lv_iushr C.1 C.2.1 hd rfl (k l D cI cG ad ids A p e s m args below meth c R cells slots Q H locs Ls C B (F.tl.tl.push trivial) hR hk)
theorem zS_idiv {x y : Int32} (hne : ¬ y = 0) (hd : decode Y.2.1 pc = .ok (.idiv, 1)) (k : zS Y (pc + 1) ls (zI (x / y) :: st) M r) : zS Y pc ls (zI y :: zI x :: st) M r := by
  intro l D cI cG ad ids A p e s m args below meth c R cells slots Q H locs Ls C B F hR hk
  exact lv_idiv C.1 C.2.1 hd hne (k l D cI cG ad ids A p e s m args below meth c R cells slots Q H locs Ls C B (F.tl.tl.push trivial) hR hk)
theorem zS_irem {x y : Int32} (hne : ¬ y = 0) (hd : decode Y.2.1 pc = .ok (.irem, 1)) (k : zS Y (pc + 1) ls (zI (x - x / y * y) :: st) M r) : zS Y pc ls (zI y :: zI x :: st) M r := by
  intro l D cI cG ad ids A p e s m args below meth c R cells slots Q H locs Ls C B F hR hk
  exact lv_irem C.1 C.2.1 hd hne (k l D cI cG ad ids A p e s m args below meth c R cells slots Q H locs Ls C B (F.tl.tl.push trivial) hR hk)
theorem zS_ineg {x : Int32} (hd : decode Y.2.1 pc = .ok (.ineg, 1)) (k : zS Y (pc + 1) ls (zI (-x) :: st) M r) : zS Y pc ls (zI x :: st) M r := by
  intro l D cI cG ad ids A p e s m args below meth c R cells slots Q H locs Ls C B F hR hk
  exact lv_ineg C.1 C.2.1 hd (k l D cI cG ad ids A p e s m args below meth c R cells slots Q H locs Ls C B (F.tl.push trivial) hR hk)
theorem zS_i2l {x : Int32} (hd : decode Y.2.1 pc = .ok (.i2l, 1)) (k : zS Y (pc + 1) ls (zL x.toInt64 :: st) M r) : zS Y pc ls (zI x :: st) M r := by
  intro l D cI cG ad ids A p e s m args below meth c R cells slots Q H locs Ls C B F hR hk
  exact lv_i2l C.1 C.2.1 hd rfl (k l D cI cG ad ids A p e s m args below meth c R cells slots Q H locs Ls C B (F.tl.push trivial) hR hk)
theorem zS_l2i {x : Int64} (hd : decode Y.2.1 pc = .ok (.l2i, 1)) (k : zS Y (pc + 1) ls (zI x.toInt32 :: st) M r) : zS Y pc ls (zL x :: st) M r := by
  intro l D cI cG ad ids A p e s m args below meth c R cells slots Q H locs Ls C B F hR hk
  exact lv_l2i C.1 C.2.1 hd rfl (k l D cI cG ad ids A p e s m args below meth c R cells slots Q H locs Ls C B (F.tl.push trivial) hR hk)
theorem zS_lmul {x y : Int64} (hd : decode Y.2.1 pc = .ok (.lmul, 1)) (k : zS Y (pc + 1) ls (zL (x * y) :: st) M r) : zS Y pc ls (zL y :: zL x :: st) M r := by
  intro l D cI cG ad ids A p e s m args below meth c R cells slots Q H locs Ls C B F hR hk
  exact lv_lmul C.1 C.2.1 hd (k l D cI cG ad ids A p e s m args below meth c R cells slots Q H locs Ls C B (F.tl.tl.push trivial) hR hk)
theorem zS_lcmp {x y : Int64} (hd : decode Y.2.1 pc = .ok (.lcmp, 1)) (k : zS Y (pc + 1) ls (zI (lg_cmp x y) :: st) M r) : zS Y pc ls (zL y :: zL x :: st) M r := by
  intro l D cI cG ad ids A p e s m args below meth c R cells slots Q H locs Ls C B F hR hk
  exact W.lcmp C.1 C.2.1 hd (k l D cI cG ad ids A p e s m args below meth c R cells slots Q H locs Ls C B (F.tl.tl.push trivial) hR hk)
theorem zS_if_eq {x : Int32} {off : Int} {tgt : Nat} (hd : decode Y.2.1 pc = .ok (.ifCond .eq off, 3)) (ht : (pc : Int) + off = (tgt : Int)) (kt : x = 0 → zS Y tgt ls st M r) (kf : ¬ x = 0 → zS Y (pc + 3) ls st M r) : zS Y pc ls (zI x :: st) M r := by
  intro l D cI cG ad ids A p e s m args below meth c R cells slots Q H locs Ls C B F hR hk
  exact lv_if_eq C.1 C.2.1 hd ht (fun h => kt h l D cI cG ad ids A p e s m args below meth c R cells slots Q H locs Ls C B F.tl hR hk) (fun h => kf h l D cI cG ad ids A p e s m args below meth c R cells slots Q H locs Ls C B F.tl hR hk)
theorem zS_icmp_eq {x y : Int32} {off : Int} {tgt : Nat} (hd : decode Y.2.1 pc = .ok (.if_icmp .eq off, 3)) (ht : (pc : Int) + off = (tgt : Int)) (kt : x = y → zS Y tgt ls st M r) (kf : ¬ x = y → zS Y (pc + 3) ls st M r) : zS Y pc ls (zI y :: zI x :: st) M r := by
  intro l D cI cG ad ids A p e s m args below meth c R cells slots Q H locs Ls C B F hR hk
  exact lv_icmp_eq C.1 C.2.1 hd ht (fun h => kt h l D cI cG ad ids A p e s m args below meth c R cells slots Q H locs Ls C B F.tl.tl hR hk) (fun h => kf h l D cI cG ad ids A p e s m args below meth c R cells slots Q H locs Ls C B F.tl.tl hR hk)
theorem zS_if_ne {x : Int32} {off : Int} {tgt : Nat} (hd : decode Y.2.1 pc = .ok (.ifCond .ne off, 3)) (ht : (pc : Int) + off = (tgt : Int)) (kt : ¬ x = 0 → zS Y tgt ls st M r) (kf : x = 0 → zS Y (pc + 3) ls st M r) : zS Y pc ls (zI x :: st) M r := by
  intro l D cI cG ad ids A p e s m args below meth c R cells slots Q H locs Ls C B F hR hk
  exact lv_if_ne C.1 C.2.1 hd ht (fun h => kt h l D cI cG ad ids A p e s m args below meth c R cells slots Q H locs Ls C B F.tl hR hk) (fun h => kf h l D cI cG ad ids A p e s m args below meth c R cells slots Q H locs Ls C B F.tl hR hk)
theorem zS_icmp_ne {x y : Int32} {off : Int} {tgt : Nat} (hd : decode Y.2.1 pc = .ok (.if_icmp .ne off, 3)) (ht : (pc : Int) + off = (tgt : Int)) (kt : ¬ x = y → zS Y tgt ls st M r) (kf : x = y → zS Y (pc + 3) ls st M r) : zS Y pc ls (zI y :: zI x :: st) M r := by
  intro l D cI cG ad ids A p e s m args below meth c R cells slots Q H locs Ls C B F hR hk
  exact lv_icmp_ne C.1 C.2.1 hd ht (fun h => kt h l D cI cG ad ids A p e s m args below meth c R cells slots Q H locs Ls C B F.tl.tl hR hk) (fun h => kf h l D cI cG ad ids A p e s m args below meth c R cells slots Q H locs Ls C B F.tl.tl hR hk)
theorem zS_if_lt {x : Int32} {off : Int} {tgt : Nat} (hd : decode Y.2.1 pc = .ok (.ifCond .lt off, 3)) (ht : (pc : Int) + off = (tgt : Int)) (kt : x < 0 → zS Y tgt ls st M r) (kf : ¬ x < 0 → zS Y (pc + 3) ls st M r) : zS Y pc ls (zI x :: st) M r := by
  intro l D cI cG ad ids A p e s m args below meth c R cells slots Q H locs Ls C B F hR hk
  exact lv_if_lt C.1 C.2.1 hd ht (fun h => kt h l D cI cG ad ids A p e s m args below meth c R cells slots Q H locs Ls C B F.tl hR hk) (fun h => kf h l D cI cG ad ids A p e s m args below meth c R cells slots Q H locs Ls C B F.tl hR hk)
theorem zS_icmp_lt {x y : Int32} {off : Int} {tgt : Nat} (hd : decode Y.2.1 pc = .ok (.if_icmp .lt off, 3)) (ht : (pc : Int) + off = (tgt : Int)) (kt : x < y → zS Y tgt ls st M r) (kf : ¬ x < y → zS Y (pc + 3) ls st M r) : zS Y pc ls (zI y :: zI x :: st) M r := by
  intro l D cI cG ad ids A p e s m args below meth c R cells slots Q H locs Ls C B F hR hk
  exact lv_icmp_lt C.1 C.2.1 hd ht (fun h => kt h l D cI cG ad ids A p e s m args below meth c R cells slots Q H locs Ls C B F.tl.tl hR hk) (fun h => kf h l D cI cG ad ids A p e s m args below meth c R cells slots Q H locs Ls C B F.tl.tl hR hk)
theorem zS_if_ge {x : Int32} {off : Int} {tgt : Nat} (hd : decode Y.2.1 pc = .ok (.ifCond .ge off, 3)) (ht : (pc : Int) + off = (tgt : Int)) (kt : 0 ≤ x → zS Y tgt ls st M r) (kf : ¬ 0 ≤ x → zS Y (pc + 3) ls st M r) : zS Y pc ls (zI x :: st) M r := by
  intro l D cI cG ad ids A p e s m args below meth c R cells slots Q H locs Ls C B F hR hk
  exact lv_if_ge C.1 C.2.1 hd ht (fun h => kt h l D cI cG ad ids A p e s m args below meth c R cells slots Q H locs Ls C B F.tl hR hk) (fun h => kf h l D cI cG ad ids A p e s m args below meth c R cells slots Q H locs Ls C B F.tl hR hk)
theorem zS_icmp_ge {x y : Int32} {off : Int} {tgt : Nat} (hd : decode Y.2.1 pc = .ok (.if_icmp .ge off, 3)) (ht : (pc : Int) + off = (tgt : Int)) (kt : y ≤ x → zS Y tgt ls st M r) (kf : ¬ y ≤ x → zS Y (pc + 3) ls st M r) : zS Y pc ls (zI y :: zI x :: st) M r := by
  intro l D cI cG ad ids A p e s m args below meth c R cells slots Q H locs Ls C B F hR hk
  exact lv_icmp_ge C.1 C.2.1 hd ht (fun h => kt h l D cI cG ad ids A p e s m args below meth c R cells slots Q H locs Ls C B F.tl.tl hR hk) (fun h => kf h l D cI cG ad ids A p e s m args below meth c R cells slots Q H locs Ls C B F.tl.tl hR hk)
theorem zS_if_gt {x : Int32} {off : Int} {tgt : Nat} (hd : decode Y.2.1 pc = .ok (.ifCond .gt off, 3)) (ht : (pc : Int) + off = (tgt : Int)) (kt : 0 < x → zS Y tgt ls st M r) (kf : ¬ 0 < x → zS Y (pc + 3) ls st M r) : zS Y pc ls (zI x :: st) M r := by
  intro l D cI cG ad ids A p e s m args below meth c R cells slots Q H locs Ls C B F hR hk
  exact lv_if_gt C.1 C.2.1 hd ht (fun h => kt h l D cI cG ad ids A p e s m args below meth c R cells slots Q H locs Ls C B F.tl hR hk) (fun h => kf h l D cI cG ad ids A p e s m args below meth c R cells slots Q H locs Ls C B F.tl hR hk)
theorem zS_icmp_gt {x y : Int32} {off : Int} {tgt : Nat} (hd : decode Y.2.1 pc = .ok (.if_icmp .gt off, 3)) (ht : (pc : Int) + off = (tgt : Int)) (kt : y < x → zS Y tgt ls st M r) (kf : ¬ y < x → zS Y (pc + 3) ls st M r) : zS Y pc ls (zI y :: zI x :: st) M r := by
  intro l D cI cG ad ids A p e s m args below meth c R cells slots Q H locs Ls C B F hR hk
  exact lv_icmp_gt C.1 C.2.1 hd ht (fun h => kt h l D cI cG ad ids A p e s m args below meth c R cells slots Q H locs Ls C B F.tl.tl hR hk) (fun h => kf h l D cI cG ad ids A p e s m args below meth c R cells slots Q H locs Ls C B F.tl.tl hR hk)
theorem zS_if_le {x : Int32} {off : Int} {tgt : Nat} (hd : decode Y.2.1 pc = .ok (.ifCond .le off, 3)) (ht : (pc : Int) + off = (tgt : Int)) (kt : x ≤ 0 → zS Y tgt ls st M r) (kf : ¬ x ≤ 0 → zS Y (pc + 3) ls st M r) : zS Y pc ls (zI x :: st) M r := by
  intro l D cI cG ad ids A p e s m args below meth c R cells slots Q H locs Ls C B F hR hk
  exact lv_if_le C.1 C.2.1 hd ht (fun h => kt h l D cI cG ad ids A p e s m args below meth c R cells slots Q H locs Ls C B F.tl hR hk) (fun h => kf h l D cI cG ad ids A p e s m args below meth c R cells slots Q H locs Ls C B F.tl hR hk)
theorem zS_icmp_le {x y : Int32} {off : Int} {tgt : Nat} (hd : decode Y.2.1 pc = .ok (.if_icmp .le off, 3)) (ht : (pc : Int) + off = (tgt : Int)) (kt : x ≤ y → zS Y tgt ls st M r) (kf : ¬ x ≤ y → zS Y (pc + 3) ls st M r) : zS Y pc ls (zI y :: zI x :: st) M r := by
  intro l D cI cG ad ids A p e s m args below meth c R cells slots Q H locs Ls C B F hR hk
  exact lv_icmp_le C.1 C.2.1 hd ht (fun h => kt h l D cI cG ad ids A p e s m args below meth c R cells slots Q H locs Ls C B F.tl.tl hR hk) (fun h => kf h l D cI cG ad ids A p e s m args below meth c R cells slots Q H locs Ls C B F.tl.tl hR hk)
theorem zS_tswO {dflt lo hi : Int} {offs : Array Int} {len : Nat} {x : Int32} {tgt : Nat} (hd : decode Y.2.1 pc = .ok (.tableswitch dflt lo hi offs, len)) (h : x.toInt < lo ∨ hi < x.toInt) (ht : (pc : Int) + dflt = (tgt : Int)) (k : zS Y tgt ls st M r) : zS Y pc ls (zI x :: st) M r := by
  intro l D cI cG ad ids A p e s m args below meth c R cells slots Q H locs Ls C B F hR hk
  exact lv_tableOut C.1 C.2.1 hd h ht (k l D cI cG ad ids A p e s m args below meth c R cells slots Q H locs Ls C B F.tl hR hk)
theorem zS_tswI {dflt lo hi : Int} {offs : Array Int} {len : Nat} {x : Int32} {off : Int} {tgt : Nat} (hd : decode Y.2.1 pc = .ok (.tableswitch dflt lo hi offs, len)) (h1 : ¬ x.toInt < lo) (h2 : ¬ hi < x.toInt) (ho : offs[(x.toInt - lo).toNat]? = some off) (ht : (pc : Int) + off = (tgt : Int)) (k : zS Y tgt ls st M r) : zS Y pc ls (zI x :: st) M r := by
  intro l D cI cG ad ids A p e s m args below meth c R cells slots Q H locs Ls C B F hR hk
  exact lv_tableIn C.1 C.2.1 hd h1 h2 ho ht (k l D cI cG ad ids A p e s m args below meth c R cells slots Q H locs Ls C B F.tl hR hk)
/-! the world -/
theorem zW_at {cI cG : ClassId} {ad : Nat → Nat} {ids : List Nat} {i : Nat} (M : zM) (h : i ∈ ids) : ∃ q : Nat, ids[q]? = some i ∧ (zW cI cG ad ids M)[q]? = some (ad i, zE cI cG ad M i) := by
  obtain ⟨q, hq⟩ := List.getElem?_of_mem h
  exact ⟨q, hq, by simp [zW, hq]⟩
theorem zE_obj {cI cG : ClassId} {ad : Nat → Nat} {i : Nat} {o : Nat × List (Option zAV)} (h : zlay i = .inl o) : zE cI cG ad M i = .inr (o.1, o.2.mapIdx (fun j f => zfv ad M i j f)) := by simp [zE, h, zEk]
theorem zE_arr {cI cG : ClassId} {ad : Nat → Nat} {i n : Nat} (h : zlay i = .inr (.inr n)) : zE cI cG ad M i = .inl (cI, n, .inl (M i)) := by simp [zE, h, zEk]
theorem zE_grid {cI cG : ClassId} {ad : Nat → Nat} {i : Nat} {g : Nat × Nat × Nat} (h : zlay i = .inr (.inl g)) : zE cI cG ad M i = .inl (cG, g.2.1, .inr (.inr (.inr (.inr (fun k => if k < g.2.1 then some (ad (g.1 + k)) else none))))) := by simp [zE, h, zEk]
theorem zE_congr {cI cG : ClassId} {ad : Nat → Nat} {i : Nat} {M1 M2 : zM} (h : M1 i = M2 i) : zE cI cG ad M1 i = zE cI cG ad M2 i := by
  unfold zE
  match zlay i with
  | .inl o =>
    simp only [zEk]
    congr 2
    apply List.ext_getElem?
    intro j
    simp only [List.getElem?_mapIdx]
    cases o.2[j]? with
    | none => rfl
    | some f => cases f <;> simp [zfv, h]
  | .inr (.inl g) => rfl
  | .inr (.inr n) => simp only [zEk, h]
theorem zset_ne {i j : Nat} {x : Int32} {a : Nat} (h : a ≠ i) : zset M i j x a = M a := by funext b; simp [zset, h]
theorem zset_row {i j : Nat} {x : Int32} : zset M i j x i = upd (M i) j x := by funext b; simp [zset, upd]
theorem zW_set {cI cG : ClassId} {ad : Nat → Nat} {ids : List Nat} {A : Nat → Prop} {q i j : Nat} {x : Int32} (hD : va_D A (zW cI cG ad ids M)) (hq : ids[q]? = some i) : (zW cI cG ad ids M).set q (ad i, zE cI cG ad (zset M i j x) i) = zW cI cG ad ids (zset M i j x) := by
  apply List.ext_getElem?
  intro k
  have hl : q < (zW cI cG ad ids M).length := by
    have := (List.getElem?_eq_some_iff.mp hq).1
    simpa [zW] using this
  by_cases hk : k = q
  · subst hk
    rw [List.getElem?_set_self hl]
    simp [zW, hq]
  · rw [List.getElem?_set_ne (Ne.symm hk)]
    simp only [zW, List.getElem?_map]
    cases hi : ids[k]? with
    | none => rfl
    | some i' =>
      have hne : i' ≠ i := by
        intro h
        subst h
        exact hk (hD.1 k q (ad i', zE cI cG ad M i') (ad i', zE cI cG ad M i') (by simp [zW, hi]) (by simp [zW, hq]) rfl)
      simp only [Option.map_some]
      rw [zE_congr (zset_ne hne)]
theorem zB.put {D : va_G} {cI cG : ClassId} {ad : Nat → Nat} {ids : List Nat} {A : Nat → Prop} {s : State} {H1 : Heap} {locs1 : List Loc} {q i j : Nat} {x : Int32} {ee : va_E} (hD : va_D A (zW cI cG ad ids M)) (hq : ids[q]? = some i) (he : ee = zE cI cG ad (zset M i j x) i) (h1 : va_P D vwCl ((zW cI cG ad ids M).set q (ad i, ee)) H1) (h2 : va_D A ((zW cI cG ad ids M).set q (ad i, ee))) (h3 : va_S A s.heap H1 locs1) : zB D cI cG ad ids A s (zset M i j x) H1 locs1 := by
  subst he
  rw [zW_set hD hq] at h1 h2
  exact ⟨h1, h2, h3⟩
theorem zS_getI {o index j ci : Nat} {fl : List (Option zAV)} {C : String} {T : u_T} {N : Nat} (hd : decode Y.2.1 pc = .ok (.getfield index, 3)) (hlay : zlay o = .inl (ci, fl)) (hj : fl[j]? = some none) (hc : vwCl[ci]? = some (C, T, N)) (hjN : j < N) (hT : (T j).1 = C) (hin : ∀ w ∈ u_ws C T N, w ∈ zU) (hlink : Cond.fieldLink Y.1.cls index C (T j).2.1 (T j).2.2.1 ∈ zU) (k : zS Y (pc + 3) ls (zI (M o j) :: st) M r) : zS Y pc ls (zO o :: st) M r := by
  intro l D cI cG ad ids A p e s m args below meth c R cells slots Q H locs Ls C B F hR hk
  obtain ⟨q, -, hq⟩ := zW_at (cI := cI) (cG := cG) (ad := ad) M (F.hd : o ∈ ids)
  rw [zE_obj hlay] at hq
  refine va_get (v := .int (M o j)) C.1 C.2.1 C.2.2.2.2.1 hin C.2.2.2.1 C.2.2.2.2.2.2.1 B.1 q hq hc j hjN (C.2.2.2.2.1 _ hlink) (fun _ h => hT ▸ h) (by simp [List.getElem?_mapIdx, hj, zfv]) hd (k l D cI cG ad ids A p e s m args below meth c R cells slots Q H locs Ls C B (F.tl.push trivial) hR hk)
theorem zS_getR {o index j ci : Nat} {fl : List (Option zAV)} {C : String} {T : u_T} {N : Nat} {v : zAV} (hd : decode Y.2.1 pc = .ok (.getfield index, 3)) (hlay : zlay o = .inl (ci, fl)) (hj : fl[j]? = some (some v)) (hc : vwCl[ci]? = some (C, T, N)) (hjN : j < N) (hT : (T j).1 = C) (hin : ∀ w ∈ u_ws C T N, w ∈ zU) (hlink : Cond.fieldLink Y.1.cls index C (T j).2.1 (T j).2.2.1 ∈ zU) (k : zS Y (pc + 3) ls (v :: st) M r) : zS Y pc ls (zO o :: st) M r := by
  intro l D cI cG ad ids A p e s m args below meth c R cells slots Q H locs Ls C B F hR hk
  have ho : o ∈ ids := F.hd
  obtain ⟨q, -, hq⟩ := zW_at (cI := cI) (cG := cG) (ad := ad) M ho
  rw [zE_obj hlay] at hq
  have hv : zok ids v := by
    have h1 := C.2.2.2.2.2.2.2.1 o ho
    rw [hlay] at h1
    exact h1 v (List.mem_of_getElem? hj)
  refine va_get (v := zcv ad v) C.1 C.2.1 C.2.2.2.2.1 hin C.2.2.2.1 C.2.2.2.2.2.2.1 B.1 q hq hc j hjN (C.2.2.2.2.1 _ hlink) (fun _ h => hT ▸ h) (by simp [List.getElem?_mapIdx, hj, zfv]) hd (k l D cI cG ad ids A p e s m args below meth c R cells slots Q H locs Ls C B (F.tl.push hv) hR hk)
theorem zS_putI {o index j ci : Nat} {fl : List (Option zAV)} {C : String} {T : u_T} {N : Nat} {x : Int32} (ty0 : Nat → FieldType) (hty : ∀ k, k < N → parseFieldDescriptor (T k).2.2.1 = some (ty0 k)) (hnm : ∀ a, a < N → ∀ b, b < N → a ≠ b → (T a).2.1 ≠ (T b).2.1) (hd : decode Y.2.1 pc = .ok (.putfield index, 3)) (hlay : zlay o = .inl (ci, fl)) (hj : fl[j]? = some none) (hc : vwCl[ci]? = some (C, T, N)) (hjN : j < N) (hT : (T j).1 = C) (hfin : (T j).2.2.2 = false) (hpd : parseFieldDescriptor (T j).2.2.1 = some .int) (hin : ∀ w ∈ u_ws C T N, w ∈ zU) (hlink : Cond.fieldLink Y.1.cls index C (T j).2.1 (T j).2.2.1 ∈ zU) (k : zS Y (pc + 3) ls st (zset M o j x) r) : zS Y pc ls (zI x :: zO o :: st) M r := by
  intro l D cI cG ad ids A p e s m args below meth c R cells slots Q H locs Ls C B F hR hk
  obtain ⟨q, hi, hq⟩ := zW_at (cI := cI) (cG := cG) (ad := ad) M (F.tl.hd : o ∈ ids)
  rw [zE_obj hlay] at hq
  have hjl : j < fl.length := (List.getElem?_eq_some_iff.mp hj).1
  refine va_put (ty := .int) (v := .int x) C.1 C.2.1 C.2.2.2.2.1 hin ty0 hty hnm C.2.2.2.1 C.2.2.2.2.2.2.1 B.1 B.2.1 B.2.2 q hq hc j hjN (C.2.2.2.2.1 _ hlink) (fun _ h => hT ▸ h) hfin hpd rfl rfl (by simpa using hjl) hd (fun H1 locs1 h1 h2 h3 => k l D cI cG ad ids A p e s m args below meth c R cells slots Q H1 locs1 Ls C (zB.put B.2.1 hi ?_ h1 h2 h3) F.tl.tl hR hk)
  rw [zE_obj hlay]
  congr 2
  apply List.ext_getElem?
  intro a
  by_cases ha : a = j
  · subst ha
    rw [List.getElem?_set_self (by simpa using hjl)]
    simp [List.getElem?_mapIdx, hj, zfv, zset]
  · rw [List.getElem?_set_ne (Ne.symm ha)]
    simp only [List.getElem?_mapIdx]
    cases fl[a]? with
    | none => rfl
    | some f => cases f <;> simp [zfv, zset, ha]
theorem zS_iald {o n : Nat} {i : Int32} (hb : ¬ (i < 0 ∨ n ≤ i.toNatClampNeg)) (hd : decode Y.2.1 pc = .ok (.iaload, 1)) (k : zS Y (pc + 1) ls (zI (M o i.toNatClampNeg) :: st) M r) : zS Y pc ls (zI i :: zA o n :: st) M r := by
  intro l D cI cG ad ids A p e s m args below meth c R cells slots Q H locs Ls C B F hR hk
  have ho : o ∈ ids ∧ zlay o = .inr (.inr n) := F.tl.hd
  obtain ⟨q, -, hq⟩ := zW_at (cI := cI) (cG := cG) (ad := ad) M ho.1
  rw [zE_arr ho.2] at hq
  exact va_iald C.1 C.2.1 C.2.2.2.2.2.2.1 B.1 q 0 hq rfl hb hd (k l D cI cG ad ids A p e s m args below meth c R cells slots Q H locs Ls C B (F.tl.tl.push trivial) hR hk)
theorem zS_iast {o n : Nat} {i x : Int32} (hb : ¬ (i < 0 ∨ n ≤ i.toNatClampNeg)) (hd : decode Y.2.1 pc = .ok (.iastore, 1)) (k : zS Y (pc + 1) ls st (zset M o i.toNatClampNeg x) r) : zS Y pc ls (zI x :: zI i :: zA o n :: st) M r := by
  intro l D cI cG ad ids A p e s m args below meth c R cells slots Q H locs Ls C B F hR hk
  have ho : o ∈ ids ∧ zlay o = .inr (.inr n) := F.tl.tl.hd
  obtain ⟨q, hi, hq⟩ := zW_at (cI := cI) (cG := cG) (ad := ad) M ho.1
  rw [zE_arr ho.2] at hq
  refine va_iast C.1 C.2.1 C.2.2.2.2.2.2.1 B.1 B.2.1 B.2.2 q 0 hq rfl hb hd (fun H1 locs1 h1 h2 h3 => k l D cI cG ad ids A p e s m args below meth c R cells slots Q H1 locs1 Ls C (zB.put B.2.1 hi ?_ h1 h2 h3) F.tl.tl.tl hR hk)
  rw [zE_arr ho.2, zset_row]
theorem zS_aald {o base cnt len : Nat} {i : Int32} (hlay : zlay o = .inr (.inl (base, cnt, len))) (hb : ¬ (i < 0 ∨ cnt ≤ i.toNatClampNeg)) (hd : decode Y.2.1 pc = .ok (.aaload, 1)) (k : zS Y (pc + 1) ls (zA (base + i.toNatClampNeg) len :: st) M r) : zS Y pc ls (zI i :: zO o :: st) M r := by
  intro l D cI cG ad ids A p e s m args below meth c R cells slots Q H locs Ls C B F hR hk
  have ho : o ∈ ids := F.tl.hd
  obtain ⟨q, -, hq⟩ := zW_at (cI := cI) (cG := cG) (ad := ad) M ho
  rw [zE_grid hlay] at hq
  have hlt : i.toNatClampNeg < cnt := Nat.not_le.mp fun q => hb (Or.inr q)
  have hv : zok ids (zA (base + i.toNatClampNeg) len) := by
    have h1 := C.2.2.2.2.2.2.2.1 o ho
    rw [hlay] at h1
    exact h1 _ hlt
  have hv2 : va_rf (if i.toNatClampNeg < cnt then some (ad (base + i.toNatClampNeg)) else none) = .ref (ad (base + i.toNatClampNeg)) := by rw [if_pos hlt]; rfl
  exact W.aald (v := .ref (ad (base + i.toNatClampNeg))) (ty := .array .int) C.1 C.2.1 (B.1 q _ hq) ((C.2.2.2.2.2.2.1.2 1 _ rfl).1 cnt (fun j => va_rf (if j < cnt then some (ad (base + j)) else none))) rfl (fun q => by cases q) (by show ¬ (i < 0 ∨ (arrV _ _ _).slots.size ≤ _); rw [arrV_size]; exact hb) (by show (arrV _ _ _).slots[_]? = _; rw [arrV_read _ _ hlt]; exact congrArg some hv2) rfl rfl hd (k l D cI cG ad ids A p e s m args below meth c R cells slots Q H locs Ls C B (F.tl.tl.push hv) hR hk)
theorem zS_alen {o n : Nat} (hd : decode Y.2.1 pc = .ok (.arraylength, 1)) (k : zS Y (pc + 1) ls (zI (Int32.ofNat n) :: st) M r) : zS Y pc ls (zA o n :: st) M r := by
  intro l D cI cG ad ids A p e s m args below meth c R cells slots Q H locs Ls C B F hR hk
  have ho : o ∈ ids ∧ zlay o = .inr (.inr n) := F.hd
  obtain ⟨q, -, hq⟩ := zW_at (cI := cI) (cG := cG) (ad := ad) M ho.1
  rw [zE_arr ho.2] at hq
  exact va_alen C.1 C.2.1 C.2.2.2.2.2.2.1 B.1 q 0 hq rfl rfl hd (k l D cI cG ad ids A p e s m args below meth c R cells slots Q H locs Ls C B (F.tl.push trivial) hR hk)
/-! ends -/
theorem zS_ireturn {v : Int32} {ty : FieldType} (hd : decode Y.2.1 pc = .ok (.ireturn, 1)) (hret : Y.2.2.2.1 = some ty) (hn : narrow ty (.int v) = .int v) : zS Y pc ls [zI v] M (some v, M) := by
  intro l D cI cG ad ids A p e s m args below meth c R cells slots Q H locs Ls C B F hR hk
  exact hk H locs Ls pc B ⟨hd, fun t ht => by cases hret.symm.trans ht; exact hn⟩
theorem zS_return (hd : decode Y.2.1 pc = .ok (.return_, 1)) : zS Y pc ls [] M (none, M) := by
  intro l D cI cG ad ids A p e s m args below meth c R cells slots Q H locs Ls C B F hR hk
  exact hk H locs Ls pc B hd
end ZR2
/-! calls -/
def zroom (n : Nat) : Room := { frames := n, cells := 0, slots := 0, locals := 33 * n }
def zws (Y : zY) : List Cond := .code Y.1 Y.2.1 Y.2.2.1 Y.2.2.2.1 :: zU
def zPre (D : va_G) (cI cG : ClassId) (ad : Nat → Nat) (ids : List Nat) (sz : Nat) (M : zM) (U : State) : Prop :=
  U.heap.size = sz ∧ va_P D vwCl (zW cI cG ad ids M) U.heap ∧ va_K D vwCl [(cI, .int), (cG, .array .int)] U ∧ va_D (fun _ => True) (zW cI cG ad ids M) ∧ ∀ w ∈ zNW, va_Nw w U
def zYok (Y : zY) : Prop := plainName Y.1.cls = true ∧ Cond.code Y.1 Y.2.1 Y.2.2.1 Y.2.2.2.1 ∈ zU ∧ Cond.initialized Y.1.cls ∈ zU ∧ (Y.1.cls ≠ "java/lang/invoke/MethodHandle" ∧ Y.1.cls ≠ "java/lang/invoke/VarHandle") ∧ Y.2.2.1 ≤ 14
theorem zNW_warm {s U : State} (hW : s.WarmedH U.vm) (h : ∀ w ∈ zNW, va_Nw w s) : ∀ w ∈ zNW, va_Nw w U := by
  intro w hw
  have h1 := h w hw
  simp only [zNW, List.mem_cons, List.not_mem_nil, or_false] at hw
  rcases hw with rfl | rfl | rfl | rfl | rfl | rfl <;> exact va_Nw.warmM hW h1
theorem zNW_same {s U : State} (e : s.vm = U.vm) (h : ∀ w ∈ zNW, va_Nw w s) : ∀ w ∈ zNW, va_Nw w U := by
  intro w hw
  have h1 := h w hw
  simp only [zNW, List.mem_cons, List.not_mem_nil, or_false] at hw
  rcases hw with rfl | rfl | rfl | rfl | rfl | rfl <;> exact va_Nw.same rfl e h1
theorem zblind {D : va_G} {cI cG : ClassId} {ad : Nat → Nat} {ids : List Nat} {sz : Nat} {M : zM} {av : List Value} : FrameBlind (va_Pc av (zPre D cI cG ad ids sz M)) := by
  intro a U g mk q
  obtain ⟨q0, q1, qP, qK, qD, qN⟩ := q
  exact ⟨q0, q1, qP, va_K.moved (u := U) (U := U.calling g mk a) (Vm.Alike.refl U.vm) qK, qD, zNW_same (s := U) (U := U.calling g mk a) rfl qN⟩
theorem zargs_mem : ∀ (vs : List Value) (k : Nat), (∀ v ∈ vs, v.category = 1) → ∀ (j : Nat) (w : Value), vs[j]? = some w → (k + j, w) ∈ lv_args k vs
  | [], k, _, j, w, h => by simp at h
  | v :: vs, k, hc, j, w, h => by
    have h1 : v.category = 1 := hc v List.mem_cons_self
    have h2 : (if v.category = 2 then k + 2 else k + 1) = k + 1 := by rw [h1]; rfl
    rw [lv_args, h2]
    cases j with
    | zero =>
      simp at h
      subst h
      exact List.mem_cons_self
    | succ j =>
      rw [show k + (j + 1) = k + 1 + j by omega]
      exact List.mem_cons_of_mem _ (zargs_mem vs (k + 1) (fun v hv => hc v (List.mem_cons_of_mem _ hv)) j w (by simpa using h))
theorem zsl_len : ∀ (vs : List Value), (∀ v ∈ vs, v.category = 1) → (lg_sl vs).length = vs.length
  | [], _ => rfl
  | v :: vs, hc => by
    have h1 : v.category = 1 := hc v List.mem_cons_self
    have h2 := zsl_len vs (fun v hv => hc v (List.mem_cons_of_mem _ hv))
    unfold lg_sl at h2 ⊢
    simp [List.flatMap_cons, h1, h2]
section ZM
variable {Y : zY} {as : List zAV} {ls0 : List (Option zAV)} {M M1 : zM} {l : Launch} {D : va_G} {cI cG : ClassId} {ad : Nat → Nat} {ids : List Nat} {sz : Nat}
theorem zentry {Ls : Array Slot} {n : Nat} (hl : lv_has Ls n (lv_args 0 (as.map (zcv ad)))) (hl0 : zle ls0 (as.map some)) (hcat : ∀ v ∈ as, ∀ x, v ≠ zL x) (hok : ∀ v ∈ as, zok ids v) : zF ad ids n Ls ls0 [] := by
  refine ⟨⟨hl.1, hl.2.1, fun q hq => ?_⟩, fun v hv => ?_, fun v hv => by cases hv⟩
  · obtain ⟨j, w, hj, rfl⟩ := (zlv_mem ad _ 0 q).mp hq
    have h1 := zle_at hl0 j w hj
    rw [List.getElem?_map] at h1
    obtain ⟨w', h2, h3⟩ := Option.map_eq_some_iff.mp h1
    cases h3
    apply hl.2.2
    exact zargs_mem _ 0 (fun v hv => by
      obtain ⟨u, hu, rfl⟩ := List.mem_map.mp hv
      exact zcat1 (hcat u hu)) j _ (by rw [List.getElem?_map, h2]; rfl)
  · obtain ⟨j, hj⟩ := List.getElem?_of_mem hv
    have h1 := zle_at hl0 j v hj
    rw [List.getElem?_map] at h1
    obtain ⟨w', h2, h3⟩ := Option.map_eq_some_iff.mp h1
    cases h3
    exact hok _ (List.mem_of_getElem? h2)
theorem zMetI {v : Int32} {ty : FieldType} (hY : zYok Y) (hret : Y.2.2.2.1 = some ty) (hS : zS Y 0 ls0 [] M (some v, M1)) (hl0 : zle ls0 (as.map some)) (hcat : ∀ v ∈ as, ∀ x, v ≠ zL x) (hsz : as.length ≤ Y.2.2.1) (hok : ∀ v ∈ as, zok ids v) (hcl : zcl ids) :
    Met l Y.1 (zws Y) (zroom Y.2.2.2.2) (va_Pc (as.map (zcv ad)) (zPre D cI cG ad ids sz M)) (va_Qi (fun (r : Int32) (_ : Unit) => r = v) (fun _ t => va_P D vwCl (zW cI cG ad ids M1) t.heap) (va_A (zW cI cG ad ids M) sz)) 0 0 (va_A (zW cI cG ad ids M) sz) := by
  refine Met.ofW (cc := Y.2.1) (maxL := Y.2.2.1) (ret := Y.2.2.2.1) hY.1 rfl ?_
  intro p e s m args below meth c s₁ B hml hv
  obtain ⟨rfl, hsz0, hP, hK, hD0, hN⟩ := hv
  have hts := atoms_spec (ws := zws Y) B.pre
  have hown : s.vm.findClass Y.1.cls = some m.cls := findClass_of_methodNamed B.named
  have hlocks := B.notSynchronized
  subst hsz0
  have hcat' : ∀ v ∈ as.map (zcv ad), v.category = 1 := fun v hv => by
    obtain ⟨u, hu, rfl⟩ := List.mem_map.mp hv
    exact zcat1 (hcat u hu)
  have hl := lv_entry (as.map (zcv ad)) (n := Y.2.2.1) (by rw [zsl_len _ hcat', List.length_map]; exact hsz)
  rw [lg_entry_eq]
  generalize (lg_sl (as.map (zcv ad)) ++ List.replicate (Y.2.2.1 - (lg_sl (as.map (zcv ad))).length) Slot.unset).toArray = Ls at hl ⊢
  refine hS l D cI cG ad ids (va_A (zW cI cG ad ids M) s.heap.size) p e s m _ below meth c _ 0 0 _ s.heap [] Ls ⟨B.exec, B.bytes, hml, hown, fun w hw => hts w (List.mem_cons_of_mem _ hw), hN, hK, hcl, fun q h => Or.inr h⟩ ⟨hP, hD0.self, va_S.rf⟩ (zentry hl hl0 hcat hok) ⟨Nat.le_refl _, Nat.le_refl _, Nat.zero_le _, Nat.zero_le _⟩ ?_
  intro H' locs' Ls' pc' hB' he
  exact W.zret (ty := ty) B.exec B.bytes (by rw [B.returns, hret]) (he.2 ty hret) (fun t ht hW => ⟨⟨v, (), rfl, rfl, by show va_P D vwCl (zW cI cG ad ids M1) t.heap; rw [ht]; exact hB'.1⟩, hB'.2.2.F ht⟩) hB'.2.2.2.2 he.1
theorem zMetV (hY : zYok Y) (hret : Y.2.2.2.1 = none) (hS : zS Y 0 ls0 [] M (none, M1)) (hl0 : zle ls0 (as.map some)) (hcat : ∀ v ∈ as, ∀ x, v ≠ zL x) (hsz : as.length ≤ Y.2.2.1) (hok : ∀ v ∈ as, zok ids v) (hcl : zcl ids) :
    Met l Y.1 (zws Y) (zroom Y.2.2.2.2) (va_Pc (as.map (zcv ad)) (zPre D cI cG ad ids sz M)) (va_Qv (fun (_ : Unit) => True) (fun _ t => va_P D vwCl (zW cI cG ad ids M1) t.heap) (va_A (zW cI cG ad ids M) sz)) 0 0 (va_A (zW cI cG ad ids M) sz) := by
  refine Met.ofW (cc := Y.2.1) (maxL := Y.2.2.1) (ret := Y.2.2.2.1) hY.1 rfl ?_
  intro p e s m args below meth c s₁ B hml hv
  obtain ⟨rfl, hsz0, hP, hK, hD0, hN⟩ := hv
  have hts := atoms_spec (ws := zws Y) B.pre
  have hown : s.vm.findClass Y.1.cls = some m.cls := findClass_of_methodNamed B.named
  have hlocks := B.notSynchronized
  subst hsz0
  have hcat' : ∀ v ∈ as.map (zcv ad), v.category = 1 := fun v hv => by
    obtain ⟨u, hu, rfl⟩ := List.mem_map.mp hv
    exact zcat1 (hcat u hu)
  have hl := lv_entry (as.map (zcv ad)) (n := Y.2.2.1) (by rw [zsl_len _ hcat', List.length_map]; exact hsz)
  rw [lg_entry_eq]
  generalize (lg_sl (as.map (zcv ad)) ++ List.replicate (Y.2.2.1 - (lg_sl (as.map (zcv ad))).length) Slot.unset).toArray = Ls at hl ⊢
  refine hS l D cI cG ad ids (va_A (zW cI cG ad ids M) s.heap.size) p e s m _ below meth c _ 0 0 _ s.heap [] Ls ⟨B.exec, B.bytes, hml, hown, fun w hw => hts w (List.mem_cons_of_mem _ hw), hN, hK, hcl, fun q h => Or.inr h⟩ ⟨hP, hD0.self, va_S.rf⟩ (zentry hl hl0 hcat hok) ⟨Nat.le_refl _, Nat.le_refl _, Nat.zero_le _, Nat.zero_le _⟩ ?_
  intro H' locs' Ls' pc' hB' he
  exact W.vret B.exec B.bytes (by rw [B.returns, hret]) (fun t ht hW => ⟨⟨(), rfl, trivial, by show va_P D vwCl (zW cI cG ad ids M1) t.heap; rw [ht]; exact hB'.1⟩, hB'.2.2.F ht⟩) hB'.2.2.2.2 he
end ZM
def zsum : List zAV → Nat
  | [] => 0
  | .inl _ :: r => 1 + zsum r
  | .inr (.inl _) :: r => 2 + zsum r
  | .inr (.inr _) :: r => 1 + zsum r
theorem zsum_eq (ad : Nat → Nat) : ∀ st : List zAV, ((st.map (zcv ad)).map fun v => v.category).sum = zsum st
  | [] => rfl
  | .inl _ :: r => by rw [List.map_cons, List.map_cons, List.sum_cons, zsum_eq ad r]; rfl
  | .inr (.inl _) :: r => by rw [List.map_cons, List.map_cons, List.sum_cons, zsum_eq ad r]; rfl
  | .inr (.inr (.inl _)) :: r => by rw [List.map_cons, List.map_cons, List.sum_cons, zsum_eq ad r]; rfl
  | .inr (.inr (.inr _)) :: r => by rw [List.map_cons, List.map_cons, List.sum_cons, zsum_eq ad r]; rfl
theorem zgood {Y : zY} (hY : zYok Y) : GoodIn zU (zws Y) := by
  intro w hw
  rcases List.mem_cons.mp hw with rfl | h
  · exact ⟨hY.2.1, good_of_word (List.mem_filter.mp hY.2.1).2⟩
  · exact ⟨h, good_of_word (List.mem_filter.mp h).2⟩
/-- nothing of the world's addresses hangs on what it holds -/
theorem zD_mem {A : Nat → Prop} {cI cG : ClassId} {ad : Nat → Nat} {ids : List Nat} {M M1 : zM} (h : va_D A (zW cI cG ad ids M)) : va_D A (zW cI cG ad ids M1) := by
  have key : ∀ (k : Nat) (q : Nat × va_E), (zW cI cG ad ids M1)[k]? = some q → ∃ e, (zW cI cG ad ids M)[k]? = some (q.1, e) := by
    intro k q hk
    simp only [zW, List.getElem?_map] at hk ⊢
    cases hi : ids[k]? with
    | none => rw [hi] at hk; cases hk
    | some i => rw [hi] at hk; cases hk; exact ⟨_, rfl⟩
  refine ⟨fun i j x y hi hj hxy => ?_, fun k q hk => ?_⟩
  · obtain ⟨e1, h1⟩ := key i x hi
    obtain ⟨e2, h2⟩ := key j y hj
    exact h.1 i j _ _ h1 h2 hxy
  · obtain ⟨e1, h1⟩ := key k q hk
    exact h.2 k (q.1, e1) h1
theorem zfree {A : Nat → Prop} {cI cG : ClassId} {ad : Nat → Nat} {ids : List Nat} {M : zM} {H0 H : Heap} {locs : List Loc} (hD : va_D A (zW cI cG ad ids M)) (hS : va_S A H0 H locs) (hA : ∀ q, H0.size ≤ q → A q) : ∀ q, va_A (zW cI cG ad ids M) H.size q → A q := by
  intro q h
  rcases h with ⟨k, e, h⟩ | h
  · exact hD.2 k _ h
  · exact hA q (Nat.le_trans hS.1 h)
section ZCALL
variable {Y Y' : zY} {pc index : Nat} {ls ls0 : List (Option zAV)} {stk st as : List zAV} {M M1 : zM} {r : Option Int32 × zM}
theorem zS_callV {v : Int32} {ty : FieldType} {o ci N : Nat} {fl : List (Option zAV)} {T : u_T} (hd : decode Y.2.1 pc = .ok (.invokevirtual index, 3)) (hY : zYok Y') (hret : Y'.2.2.2.1 = some ty) (hst : stk = as.reverse ++ zO o :: st) (hlay : zlay o = .inl (ci, fl)) (hc : vwCl[ci]? = some (Y'.1.cls, T, N)) (hin : Cond.instanceMethod Y'.1 ∈ zU) (hsel : Cond.selects Y'.1.cls Y'.1 Y'.1 ∈ zU) (hlink : Cond.methodLink Y.1.cls index Y'.1 ∈ zU) (hn : (parseMethodDescriptor Y'.1.desc).map (fun d => d.parameters.length) = some as.length) (hlv : Y'.2.2.2.2 < Y.2.2.2.2) (hs8 : zsum st ≤ 8) (hcat0 : zno as = true) (hsz : (zO o :: as).length ≤ Y'.2.2.1) (hl0 : zle ls0 ((zO o :: as).map some)) (hcal : zS Y' 0 ls0 [] M (some v, M1)) (k : zS Y (pc + 3) ls (zI v :: st) M1 r) : zS Y pc ls stk M r := by
  subst hst
  have hcat := zno_spec hcat0
  intro l D cI cG ad ids A p e s m args below meth c R cells slots Q H locs Ls C B F hR hk
  have hok : ∀ v ∈ (zO o :: as), zok ids v := fun v hv => F.2.2 v (by rcases List.mem_cons.mp hv with rfl | h <;> simp_all)
  have hcat2 : ∀ v ∈ (zO o :: as), ∀ x, v ≠ zL x := fun v hv x => (List.mem_cons.mp hv).elim (fun e => by subst e; simp) (fun h => hcat v h x)
  have hM := zMetI (l := l) (D := D) (cI := cI) (cG := cG) (ad := ad) (ids := ids) (sz := H.size) (as := (zO o :: as)) hY hret hcal hl0 hcat2 hsz hok C.2.2.2.2.2.2.2.1
  have hFst : ∀ v ∈ st, zok ids v := fun v hv => F.2.2 v (by simp_all)
  have hR2 : (zroom Y'.2.2.2.2).frames + 1 ≤ R.frames ∧ 8 + (Y'.2.2.1 + 11) + (zroom Y'.2.2.2.2).locals ≤ R.locals := by
    have h5 := hY.2.2.2.2
    obtain ⟨h1, h2, -, -⟩ := hR
    simp only [zroom]
    omega
  have hFc := zfree (M := M) B.2.1 B.2.2 C.2.2.2.2.2.2.2.2
  obtain ⟨q, -, hq⟩ := zW_at (cI := cI) (cG := cG) (ad := ad) M (F.2.2 (zO o) (by simp) : o ∈ ids)
  rw [zE_obj hlay] at hq
  refine va_calli (va_runV (b := ad o) (As := as.map (zcv ad)) (rest := st.map (zcv ad)) ⟨C.1, C.2.1, C.2.2.1, C.2.2.2.1, C.2.2.2.2.1⟩ hM ⟨callB_of as.length C.2.2.2.2.1 (zgood hY) rfl rfl rfl (C.2.2.2.2.1 _ hY.2.2.1) (C.2.2.2.2.1 _ hlink) ⟨hY.2.2.2.1.1, hY.2.2.2.1.2, hn⟩ hR2, C.2.2.2.2.1 _ hin, C.2.2.2.2.1 _ hsel⟩ ⟨zblind, va_recv C.2.2.2.2.2.2.1 B.1 hc hq, fun U hU hW => ⟨rfl, by rw [hU], by rw [hU]; exact B.1, va_K.moved hW.alike C.2.2.2.2.2.2.1, B.2.1.weaken (fun _ _ _ _ => trivial), zNW_warm hW C.2.2.2.2.2.1⟩⟩ rfl (List.length_map _) F.1.1 (by simp [zcv]) (lv_room (by rw [zsum_eq]; exact hs8)) hd ⟨hR.2.2.1, hR.2.2.2⟩) B.2.2 (fun q _ h => hFc q h) hFc (fun r1 u t H1 locs1 ht hvm hw hB hz1 hk1 hS1 => ?_)
  subst hw
  rw [ht] at hB
  exact k l D cI cG ad ids A p e s m args below meth c R cells slots Q H1 locs1 Ls C ⟨hB, zD_mem B.2.1, hS1⟩ ⟨F.1, F.2.1, fun w hw => (List.mem_cons.mp hw).elim (fun e => by subst e; trivial) (hFst w)⟩ hR hk
theorem zS_callVv {o ci N : Nat} {fl : List (Option zAV)} {T : u_T} (hd : decode Y.2.1 pc = .ok (.invokevirtual index, 3)) (hY : zYok Y') (hret : Y'.2.2.2.1 = none) (hst : stk = as.reverse ++ zO o :: st) (hlay : zlay o = .inl (ci, fl)) (hc : vwCl[ci]? = some (Y'.1.cls, T, N)) (hin : Cond.instanceMethod Y'.1 ∈ zU) (hsel : Cond.selects Y'.1.cls Y'.1 Y'.1 ∈ zU) (hlink : Cond.methodLink Y.1.cls index Y'.1 ∈ zU) (hn : (parseMethodDescriptor Y'.1.desc).map (fun d => d.parameters.length) = some as.length) (hlv : Y'.2.2.2.2 < Y.2.2.2.2) (hs8 : zsum st ≤ 8) (hcat0 : zno as = true) (hsz : (zO o :: as).length ≤ Y'.2.2.1) (hl0 : zle ls0 ((zO o :: as).map some)) (hcal : zS Y' 0 ls0 [] M (none, M1)) (k : zS Y (pc + 3) ls (st) M1 r) : zS Y pc ls stk M r := by
  subst hst
  have hcat := zno_spec hcat0
  intro l D cI cG ad ids A p e s m args below meth c R cells slots Q H locs Ls C B F hR hk
  have hok : ∀ v ∈ (zO o :: as), zok ids v := fun v hv => F.2.2 v (by rcases List.mem_cons.mp hv with rfl | h <;> simp_all)
  have hcat2 : ∀ v ∈ (zO o :: as), ∀ x, v ≠ zL x := fun v hv x => (List.mem_cons.mp hv).elim (fun e => by subst e; simp) (fun h => hcat v h x)
  have hM := zMetV (l := l) (D := D) (cI := cI) (cG := cG) (ad := ad) (ids := ids) (sz := H.size) (as := (zO o :: as)) hY hret hcal hl0 hcat2 hsz hok C.2.2.2.2.2.2.2.1
  have hFst : ∀ v ∈ st, zok ids v := fun v hv => F.2.2 v (by simp_all)
  have hR2 : (zroom Y'.2.2.2.2).frames + 1 ≤ R.frames ∧ 8 + (Y'.2.2.1 + 11) + (zroom Y'.2.2.2.2).locals ≤ R.locals := by
    have h5 := hY.2.2.2.2
    obtain ⟨h1, h2, -, -⟩ := hR
    simp only [zroom]
    omega
  have hFc := zfree (M := M) B.2.1 B.2.2 C.2.2.2.2.2.2.2.2
  obtain ⟨q, -, hq⟩ := zW_at (cI := cI) (cG := cG) (ad := ad) M (F.2.2 (zO o) (by simp) : o ∈ ids)
  rw [zE_obj hlay] at hq
  refine va_callv (va_runV (b := ad o) (As := as.map (zcv ad)) (rest := st.map (zcv ad)) ⟨C.1, C.2.1, C.2.2.1, C.2.2.2.1, C.2.2.2.2.1⟩ hM ⟨callB_of as.length C.2.2.2.2.1 (zgood hY) rfl rfl rfl (C.2.2.2.2.1 _ hY.2.2.1) (C.2.2.2.2.1 _ hlink) ⟨hY.2.2.2.1.1, hY.2.2.2.1.2, hn⟩ hR2, C.2.2.2.2.1 _ hin, C.2.2.2.2.1 _ hsel⟩ ⟨zblind, va_recv C.2.2.2.2.2.2.1 B.1 hc hq, fun U hU hW => ⟨rfl, by rw [hU], by rw [hU]; exact B.1, va_K.moved hW.alike C.2.2.2.2.2.2.1, B.2.1.weaken (fun _ _ _ _ => trivial), zNW_warm hW C.2.2.2.2.2.1⟩⟩ rfl (List.length_map _) F.1.1 (by simp [zcv]) (lv_room (by rw [zsum_eq]; exact hs8)) hd ⟨hR.2.2.1, hR.2.2.2⟩) B.2.2 (fun q _ h => hFc q h) hFc (fun u t H1 locs1 ht hvm hw hB hz1 hk1 hS1 => ?_)
  rw [ht] at hB
  exact k l D cI cG ad ids A p e s m args below meth c R cells slots Q H1 locs1 Ls C ⟨hB, zD_mem B.2.1, hS1⟩ ⟨F.1, F.2.1, hFst⟩ hR hk
theorem zS_callS {v : Int32} {ty : FieldType} (hd : decode Y.2.1 pc = .ok (.invokestatic index, 3)) (hY : zYok Y') (hret : Y'.2.2.2.1 = some ty) (hst : stk = as.reverse ++ st) (hstat : Cond.static Y'.1 ∈ zU) (hlink : Cond.methodLink Y.1.cls index Y'.1 ∈ zU) (hn : (parseMethodDescriptor Y'.1.desc).map (fun d => d.parameters.length) = some as.length) (hlv : Y'.2.2.2.2 < Y.2.2.2.2) (hs8 : zsum st ≤ 8) (hcat0 : zno as = true) (hsz : as.length ≤ Y'.2.2.1) (hl0 : zle ls0 (as.map some)) (hcal : zS Y' 0 ls0 [] M (some v, M1)) (k : zS Y (pc + 3) ls (zI v :: st) M1 r) : zS Y pc ls stk M r := by
  subst hst
  have hcat := zno_spec hcat0
  intro l D cI cG ad ids A p e s m args below meth c R cells slots Q H locs Ls C B F hR hk
  have hok : ∀ v ∈ as, zok ids v := fun v hv => F.2.2 v (by simp_all)
  have hcat2 : ∀ v ∈ as, ∀ x, v ≠ zL x := hcat
  have hM := zMetI (l := l) (D := D) (cI := cI) (cG := cG) (ad := ad) (ids := ids) (sz := H.size) (as := as) hY hret hcal hl0 hcat2 hsz hok C.2.2.2.2.2.2.2.1
  have hFst : ∀ v ∈ st, zok ids v := fun v hv => F.2.2 v (by simp_all)
  have hR2 : (zroom Y'.2.2.2.2).frames + 1 ≤ R.frames ∧ 8 + (Y'.2.2.1 + 11) + (zroom Y'.2.2.2.2).locals ≤ R.locals := by
    have h5 := hY.2.2.2.2
    obtain ⟨h1, h2, -, -⟩ := hR
    simp only [zroom]
    omega
  have hFc := zfree (M := M) B.2.1 B.2.2 C.2.2.2.2.2.2.2.2
  refine va_calli (va_runS (As := as.map (zcv ad)) (rest := st.map (zcv ad)) ⟨C.1, C.2.1, C.2.2.1, C.2.2.2.1, C.2.2.2.2.1⟩ hM ⟨callB_of as.length C.2.2.2.2.1 (zgood hY) rfl rfl rfl (C.2.2.2.2.1 _ hY.2.2.1) (C.2.2.2.2.1 _ hlink) ⟨hY.2.2.2.1.1, hY.2.2.2.1.2, hn⟩ hR2, C.2.2.2.2.1 _ hstat⟩ ⟨zblind, fun U hU hW => ⟨rfl, by rw [hU], by rw [hU]; exact B.1, va_K.moved hW.alike C.2.2.2.2.2.2.1, B.2.1.weaken (fun _ _ _ _ => trivial), zNW_warm hW C.2.2.2.2.2.1⟩⟩ rfl (List.length_map _) F.1.1 (by simp [zcv]) (lv_room (by rw [zsum_eq]; exact hs8)) hd ⟨hR.2.2.1, hR.2.2.2⟩) B.2.2 (fun q _ h => hFc q h) hFc (fun r1 u t H1 locs1 ht hvm hw hB hz1 hk1 hS1 => ?_)
  subst hw
  rw [ht] at hB
  exact k l D cI cG ad ids A p e s m args below meth c R cells slots Q H1 locs1 Ls C ⟨hB, zD_mem B.2.1, hS1⟩ ⟨F.1, F.2.1, fun w hw => (List.mem_cons.mp hw).elim (fun e => by subst e; trivial) (hFst w)⟩ hR hk
theorem zS_callSv (hd : decode Y.2.1 pc = .ok (.invokestatic index, 3)) (hY : zYok Y') (hret : Y'.2.2.2.1 = none) (hst : stk = as.reverse ++ st) (hstat : Cond.static Y'.1 ∈ zU) (hlink : Cond.methodLink Y.1.cls index Y'.1 ∈ zU) (hn : (parseMethodDescriptor Y'.1.desc).map (fun d => d.parameters.length) = some as.length) (hlv : Y'.2.2.2.2 < Y.2.2.2.2) (hs8 : zsum st ≤ 8) (hcat0 : zno as = true) (hsz : as.length ≤ Y'.2.2.1) (hl0 : zle ls0 (as.map some)) (hcal : zS Y' 0 ls0 [] M (none, M1)) (k : zS Y (pc + 3) ls (st) M1 r) : zS Y pc ls stk M r := by
  subst hst
  have hcat := zno_spec hcat0
  intro l D cI cG ad ids A p e s m args below meth c R cells slots Q H locs Ls C B F hR hk
  have hok : ∀ v ∈ as, zok ids v := fun v hv => F.2.2 v (by simp_all)
  have hcat2 : ∀ v ∈ as, ∀ x, v ≠ zL x := hcat
  have hM := zMetV (l := l) (D := D) (cI := cI) (cG := cG) (ad := ad) (ids := ids) (sz := H.size) (as := as) hY hret hcal hl0 hcat2 hsz hok C.2.2.2.2.2.2.2.1
  have hFst : ∀ v ∈ st, zok ids v := fun v hv => F.2.2 v (by simp_all)
  have hR2 : (zroom Y'.2.2.2.2).frames + 1 ≤ R.frames ∧ 8 + (Y'.2.2.1 + 11) + (zroom Y'.2.2.2.2).locals ≤ R.locals := by
    have h5 := hY.2.2.2.2
    obtain ⟨h1, h2, -, -⟩ := hR
    simp only [zroom]
    omega
  have hFc := zfree (M := M) B.2.1 B.2.2 C.2.2.2.2.2.2.2.2
  refine va_callv (va_runS (As := as.map (zcv ad)) (rest := st.map (zcv ad)) ⟨C.1, C.2.1, C.2.2.1, C.2.2.2.1, C.2.2.2.2.1⟩ hM ⟨callB_of as.length C.2.2.2.2.1 (zgood hY) rfl rfl rfl (C.2.2.2.2.1 _ hY.2.2.1) (C.2.2.2.2.1 _ hlink) ⟨hY.2.2.2.1.1, hY.2.2.2.1.2, hn⟩ hR2, C.2.2.2.2.1 _ hstat⟩ ⟨zblind, fun U hU hW => ⟨rfl, by rw [hU], by rw [hU]; exact B.1, va_K.moved hW.alike C.2.2.2.2.2.2.1, B.2.1.weaken (fun _ _ _ _ => trivial), zNW_warm hW C.2.2.2.2.2.1⟩⟩ rfl (List.length_map _) F.1.1 (by simp [zcv]) (lv_room (by rw [zsum_eq]; exact hs8)) hd ⟨hR.2.2.1, hR.2.2.2⟩) B.2.2 (fun q _ h => hFc q h) hFc (fun u t H1 locs1 ht hvm hw hB hz1 hk1 hS1 => ?_)
  rw [ht] at hB
  exact k l D cI cG ad ids A p e s m args below meth c R cells slots Q H1 locs1 Ls C ⟨hB, zD_mem B.2.1, hS1⟩ ⟨F.1, F.2.1, hFst⟩ hR hk
theorem zS_callN {v : Int32} {ty : FieldType} {host : String} (hd : decode Y.2.1 pc = .ok (.invokestatic index, 3)) (hY : zYok Y') (hret : Y'.2.2.2.1 = some ty) (hst : stk = as.reverse ++ st) (hstat : Cond.static Y'.1 ∈ zU) (hlink : Cond.methodLinkNest Y.1.cls index Y'.1 host ∈ zNW) (hn : (parseMethodDescriptor Y'.1.desc).map (fun d => d.parameters.length) = some as.length) (hlv : Y'.2.2.2.2 < Y.2.2.2.2) (hs8 : zsum st ≤ 8) (hcat0 : zno as = true) (hsz : as.length ≤ Y'.2.2.1) (hl0 : zle ls0 (as.map some)) (hcal : zS Y' 0 ls0 [] M (some v, M1)) (k : zS Y (pc + 3) ls (zI v :: st) M1 r) : zS Y pc ls stk M r := by
  subst hst
  have hcat := zno_spec hcat0
  intro l D cI cG ad ids A p e s m args below meth c R cells slots Q H locs Ls C B F hR hk
  have hok : ∀ v ∈ as, zok ids v := fun v hv => F.2.2 v (by simp_all)
  have hcat2 : ∀ v ∈ as, ∀ x, v ≠ zL x := hcat
  have hM := zMetI (l := l) (D := D) (cI := cI) (cG := cG) (ad := ad) (ids := ids) (sz := H.size) (as := as) hY hret hcal hl0 hcat2 hsz hok C.2.2.2.2.2.2.2.1
  have hFst : ∀ v ∈ st, zok ids v := fun v hv => F.2.2 v (by simp_all)
  have hR2 : (zroom Y'.2.2.2.2).frames + 1 ≤ R.frames ∧ 8 + (Y'.2.2.1 + 11) + (zroom Y'.2.2.2.2).locals ≤ R.locals := by
    have h5 := hY.2.2.2.2
    obtain ⟨h1, h2, -, -⟩ := hR
    simp only [zroom]
    omega
  have hFc := zfree (M := M) B.2.1 B.2.2 C.2.2.2.2.2.2.2.2
  refine va_calli (va_runSN (As := as.map (zcv ad)) (rest := st.map (zcv ad)) ⟨C.1, C.2.1, C.2.2.1, C.2.2.2.1, C.2.2.2.2.1⟩ hM ⟨va_cnB as.length C.2.2.2.2.1 (zgood hY) rfl rfl rfl (C.2.2.2.2.2.1 _ hlink) (C.2.2.2.2.1 _ hY.2.2.1) ⟨hY.2.2.2.1.1, hY.2.2.2.1.2, hn⟩ hR2, C.2.2.2.2.1 _ hstat, trivial⟩ ⟨zblind, fun U hU hW => ⟨rfl, by rw [hU], by rw [hU]; exact B.1, va_K.moved hW.alike C.2.2.2.2.2.2.1, B.2.1.weaken (fun _ _ _ _ => trivial), zNW_warm hW C.2.2.2.2.2.1⟩⟩ rfl (List.length_map _) F.1.1 (by simp [zcv]) (lv_room (by rw [zsum_eq]; exact hs8)) hd ⟨hR.2.2.1, hR.2.2.2⟩) B.2.2 (fun q _ h => hFc q h) hFc (fun r1 u t H1 locs1 ht hvm hw hB hz1 hk1 hS1 => ?_)
  subst hw
  rw [ht] at hB
  exact k l D cI cG ad ids A p e s m args below meth c R cells slots Q H1 locs1 Ls C ⟨hB, zD_mem B.2.1, hS1⟩ ⟨F.1, F.2.1, fun w hw => (List.mem_cons.mp hw).elim (fun e => by subst e; trivial) (hFst w)⟩ hR hk
end ZCALL
section ZMATH
variable {Y : zY} {pc index : Nat} {ls : List (Option zAV)} {st : List zAV} {M : zM} {r : Option Int32 × zM}
theorem zS_min {x y : Int32} (hd : decode Y.2.1 pc = .ok (.invokestatic index, 3)) (hlink : Cond.methodLink Y.1.cls index Lib.Math.min.name ∈ zU) (h1 : Cond.static Lib.Math.min.name ∈ zU) (h2 : Cond.initialized "java/lang/Math" ∈ zU) (h3 : Cond.code Lib.Math.min.name Lib.Math.min.code 2 (some .int) ∈ zU) (hlv : 1 ≤ Y.2.2.2.2) (hs8 : zsum st ≤ 8) (k : zS Y (pc + 3) ls (zI (if y < x then y else x) :: st) M r) : zS Y pc ls (zI y :: zI x :: st) M r := by
  intro l D cI cG ad ids A p e s m args below meth c R cells slots Q H locs Ls C B F hR hk
  exact va_mmin C.1 C.2.1 (C.2.2.1.trans F.1.1.symm) C.2.2.2.1 (C.2.2.2.2.1 _ hlink) (C.2.2.2.2.1 _ h1) (C.2.2.2.2.1 _ h2) (C.2.2.2.2.1 _ h3) (Nat.le_trans hlv hR.1) (by rw [zsum_eq]; have := hR.2.1; omega) hR.2.2.1 hR.2.2.2 hd (k l D cI cG ad ids A p e s m args below meth c R cells slots Q H locs Ls C B (F.tl.tl.push trivial) hR hk)
theorem zS_max {x y : Int32} (hd : decode Y.2.1 pc = .ok (.invokestatic index, 3)) (hlink : Cond.methodLink Y.1.cls index Lib.Math.max.name ∈ zU) (h1 : Cond.static Lib.Math.max.name ∈ zU) (h2 : Cond.initialized "java/lang/Math" ∈ zU) (h3 : Cond.code Lib.Math.max.name Lib.Math.max.code 2 (some .int) ∈ zU) (hlv : 1 ≤ Y.2.2.2.2) (hs8 : zsum st ≤ 8) (k : zS Y (pc + 3) ls (zI (if x < y then y else x) :: st) M r) : zS Y pc ls (zI y :: zI x :: st) M r := by
  intro l D cI cG ad ids A p e s m args below meth c R cells slots Q H locs Ls C B F hR hk
  exact va_mmax C.1 C.2.1 (C.2.2.1.trans F.1.1.symm) C.2.2.2.1 (C.2.2.2.2.1 _ hlink) (C.2.2.2.2.1 _ h1) (C.2.2.2.2.1 _ h2) (C.2.2.2.2.1 _ h3) (Nat.le_trans hlv hR.1) (by rw [zsum_eq]; have := hR.2.1; omega) hR.2.2.1 hR.2.2.2 hd (k l D cI cG ad ids A p e s m args below meth c R cells slots Q H locs Ls C B (F.tl.tl.push trivial) hR hk)
theorem zS_abs {x : Int32} (hd : decode Y.2.1 pc = .ok (.invokestatic index, 3)) (hlink : Cond.methodLink Y.1.cls index Lib.Math.abs.name ∈ zU) (h1 : Cond.static Lib.Math.abs.name ∈ zU) (h2 : Cond.initialized "java/lang/Math" ∈ zU) (h3 : Cond.code Lib.Math.abs.name Lib.Math.abs.code 1 (some .int) ∈ zU) (hlv : 1 ≤ Y.2.2.2.2) (hs8 : zsum st ≤ 8) (k : zS Y (pc + 3) ls (zI (if 0 ≤ x then x else 0 - x) :: st) M r) : zS Y pc ls (zI x :: st) M r := by
  intro l D cI cG ad ids A p e s m args below meth c R cells slots Q H locs Ls C B F hR hk
  exact va_mabs C.1 C.2.1 (C.2.2.1.trans F.1.1.symm) C.2.2.2.1 (C.2.2.2.2.1 _ hlink) (C.2.2.2.2.1 _ h1) (C.2.2.2.2.1 _ h2) (C.2.2.2.2.1 _ h3) (Nat.le_trans hlv hR.1) (by rw [zsum_eq]; have := hR.2.1; omega) hR.2.2.1 hR.2.2.2 hd (k l D cI cG ad ids A p e s m args below meth c R cells slots Q H locs Ls C B (F.tl.push trivial) hR hk)
def zrow (M : zM) (i : Nat) (f : Nat → Int32) : zM := fun a => if a = i then f else M a
theorem zW_row {cI cG : ClassId} {ad : Nat → Nat} {ids : List Nat} {A : Nat → Prop} {q i : Nat} {f : Nat → Int32} (hD : va_D A (zW cI cG ad ids M)) (hq : ids[q]? = some i) : (zW cI cG ad ids M).set q (ad i, zE cI cG ad (zrow M i f) i) = zW cI cG ad ids (zrow M i f) := by
  apply List.ext_getElem?
  intro k
  have hl : q < (zW cI cG ad ids M).length := by
    have := (List.getElem?_eq_some_iff.mp hq).1
    simpa [zW] using this
  by_cases hk : k = q
  · subst hk
    rw [List.getElem?_set_self hl]
    simp [zW, hq]
  · rw [List.getElem?_set_ne (Ne.symm hk)]
    simp only [zW, List.getElem?_map]
    cases hi : ids[k]? with
    | none => rfl
    | some i' =>
      have hne : i' ≠ i := by
        intro h
        subst h
        exact hk (hD.1 k q (ad i', zE cI cG ad M i') (ad i', zE cI cG ad M i') (by simp [zW, hi]) (by simp [zW, hq]) rfl)
      simp only [Option.map_some]
      rw [zE_congr (M1 := zrow M i f) (M2 := M) (by simp [zrow, hne])]
theorem zS_acopy {a b n0 n1 : Nat} {sp dp n : Int32} (h1 : ¬ sp < 0) (h2 : ¬ dp < 0) (h3 : ¬ n < 0) (h4 : sp.toNatClampNeg + n.toNatClampNeg ≤ n0) (h5 : dp.toNatClampNeg + n.toNatClampNeg ≤ n1) (hd : decode Y.2.1 pc = .ok (.invokestatic index, 3)) (hlink : Cond.methodLink Y.1.cls index arraycopyName ∈ zU) (w1 : Cond.native arraycopyName ∈ zU) (w2 : Cond.static arraycopyName ∈ zU) (w3 : Cond.initialized "java/lang/System" ∈ zU) (hlv : 1 ≤ Y.2.2.2.2) (hs8 : zsum st ≤ 8) (k : zS Y (pc + 3) ls st (zrow M b (va_cpy (M a) (M b) sp.toNatClampNeg dp.toNatClampNeg n.toNatClampNeg)) r) : zS Y pc ls (zI n :: zI dp :: zA b n1 :: zI sp :: zA a n0 :: st) M r := by
  intro l D cI cG ad ids A p e s m args below meth c R cells slots Q H locs Ls C B F hR hk
  have hb : b ∈ ids ∧ zlay b = .inr (.inr n1) := F.tl.tl.hd
  have ha : a ∈ ids ∧ zlay a = .inr (.inr n0) := F.tl.tl.tl.tl.hd
  obtain ⟨q, hi, hq⟩ := zW_at (cI := cI) (cG := cG) (ad := ad) M hb.1
  obtain ⟨q', hi', hq'⟩ := zW_at (cI := cI) (cG := cG) (ad := ad) M ha.1
  rw [zE_arr hb.2] at hq
  rw [zE_arr ha.2] at hq'
  refine va_copyi C.1 C.2.1 (C.2.2.1.trans F.1.1.symm) C.2.2.2.1 (C.2.2.2.2.1 _ hlink) (C.2.2.2.2.1 _ w1) (C.2.2.2.2.1 _ w2) (C.2.2.2.2.1 _ w3) C.2.2.2.2.2.2.1 B.1 B.2.1 B.2.2 q' q 0 0 hq' hq rfl rfl rfl h1 h2 h3 h4 h5 (fun _ _ => rfl) (Nat.le_trans hlv hR.1) (by rw [zsum_eq, show nativeFrameWords "java/lang/System" "arraycopy" 5 = 7 from by decide]; have := hR.2.1; omega) hd (fun H1 locs1 g1 g2 g3 => k l D cI cG ad ids A p e s m args below meth c R cells slots Q H1 locs1 Ls C ?_ F.tl.tl.tl.tl.tl hR hk)
  have he : (.inl (cI, n1, .inl (va_cpy (M a) (M b) sp.toNatClampNeg dp.toNatClampNeg n.toNatClampNeg)) : va_E) = zE cI cG ad (zrow M b (va_cpy (M a) (M b) sp.toNatClampNeg dp.toNatClampNeg n.toNatClampNeg)) b := by
    rw [zE_arr hb.2]
    simp [zrow]
  rw [he, zW_row B.2.1 hi] at g1 g2
  exact ⟨g1, g2, g3⟩
end ZMATH
