/-! ===== the pure machine: memory M (row or object, place) over a fixed layout; zS: 'from here the method returns r' ===== -/
def zcv (ad : Nat → Nat) : zAV → Value
  | .inl x => .int x
  | .inr (.inl x) => .long x
  | .inr (.inr (.inl q)) => .ref (ad q.1)
  | .inr (.inr (.inr i)) => .ref (ad i)
def zfv (ad : Nat → Nat) (M : zM) (i j : Nat) : Option zAV → Value
  | none => .int (M i j)
  | some v => zcv ad v
def zEk (cI cG : ClassId) (ad : Nat → Nat) (M : zM) (i : Nat) : zK → va_E
  | .inl o => .inr (o.1, o.2.mapIdx (fun j f => zfv ad M i j f))
  | .inr (.inl g) => .inl (cG, g.2.1, .inr (.inr (.inr (.inr (fun k => if k < g.2.1 then some (ad (g.1 + k)) else none)))))
  | .inr (.inr n) => .inl (cI, n, .inl (M i))
def zE (cI cG : ClassId) (ad : Nat → Nat) (M : zM) (i : Nat) : va_E := zEk cI cG ad M i (zlay i)
def zW (cI cG : ClassId) (ad : Nat → Nat) (ids : List Nat) (M : zM) : va_W := ids.map (fun i => (ad i, zE cI cG ad M i))
def zset (M : zM) (i j : Nat) (x : Int32) : zM := fun a b => if a = i ∧ b = j then x else M a b
def zok (ids : List Nat) : zAV → Prop
  | .inl _ => True
  | .inr (.inl _) => True
  | .inr (.inr (.inl q)) => q.1 ∈ ids ∧ zlay q.1 = .inr (.inr q.2)
  | .inr (.inr (.inr i)) => i ∈ ids
def zclk (ids : List Nat) : zK → Prop
  | .inl o => ∀ v, some v ∈ o.2 → zok ids v
  | .inr (.inl g) => ∀ k, k < g.2.1 → zok ids (zA (g.1 + k) g.2.2)
  | .inr (.inr _) => True
def zcl (ids : List Nat) : Prop := ∀ i ∈ ids, zclk ids (zlay i)
/-- a method: name, bytes, locals, what it returns, how deep its calls go -/
abbrev zY : Type := MethodName × ByteArray × Nat × Option FieldType × Nat
def zlv (ad : Nat → Nat) : Nat → List (Option zAV) → List (Nat × Value)
  | _, [] => []
  | i, none :: r => zlv ad (i + 1) r
  | i, some v :: r => (i, zcv ad v) :: zlv ad (i + 1) r
theorem zlv_mem (ad : Nat → Nat) : ∀ (ls : List (Option zAV)) (k : Nat) (q : Nat × Value), q ∈ zlv ad k ls ↔ ∃ j v, ls[j]? = some (some v) ∧ q = (k + j, zcv ad v)
  | [], k, q => by simp [zlv]
  | none :: r, k, q => by
    rw [zlv, zlv_mem ad r (k + 1) q]
    constructor
    · rintro ⟨j, v, h, rfl⟩
      exact ⟨j + 1, v, by simpa using h, by rw [show k + (j + 1) = k + 1 + j by omega]⟩
    · rintro ⟨j, v, h, rfl⟩
      cases j with
      | zero => simp at h
      | succ j => exact ⟨j, v, by simpa using h, by rw [show k + (j + 1) = k + 1 + j by omega]⟩
  | some w :: r, k, q => by
    rw [zlv, List.mem_cons, zlv_mem ad r (k + 1) q]
    constructor
    · rintro (rfl | ⟨j, v, h, rfl⟩)
      · exact ⟨0, w, by simp, rfl⟩
      · exact ⟨j + 1, v, by simpa using h, by rw [show k + (j + 1) = k + 1 + j by omega]⟩
    · rintro ⟨j, v, h, rfl⟩
      cases j with
      | zero =>
        simp at h
        subst h
        exact Or.inl rfl
      | succ j => exact Or.inr ⟨j, v, by simpa using h, by rw [show k + (j + 1) = k + 1 + j by omega]⟩
theorem zlv_at {ad : Nat → Nat} {ls : List (Option zAV)} {Ls : Array Slot} {n i : Nat} {v : zAV} (h : lv_has Ls n (zlv ad 0 ls)) (hi : ls[i]? = some (some v)) : Ls[i]? = some (.val (zcv ad v)) :=
  h.2.2 (i, zcv ad v) ((zlv_mem ad ls 0 _).mpr ⟨i, v, hi, by rw [Nat.zero_add]⟩)
def zC (Y : zY) (D : va_G) (cI cG : ClassId) (ids : List Nat) (A : Nat → Prop) (p : Program) (s : State) (m : MethodId) (args : Array Value) (c : Code) : Prop :=
  p.tables.exec = Jvm.exec ∧ c.code = Y.2.1 ∧ c.maxLocals = Y.2.2.1 ∧ s.vm.findClass Y.1.cls = some m.cls ∧ (∀ w ∈ zU, w.before args s = true) ∧ (∀ w ∈ zNW, va_Nw w s) ∧ va_K D vwCl [(cI, .int), (cG, .array .int)] s ∧ zcl ids ∧ ∀ q, s.heap.size ≤ q → A q
def zB (D : va_G) (cI cG : ClassId) (ad : Nat → Nat) (ids : List Nat) (A : Nat → Prop) (s : State) (M : zM) (H : Heap) (locs : List Loc) : Prop :=
  va_P D vwCl (zW cI cG ad ids M) H ∧ va_D A (zW cI cG ad ids M) ∧ va_S A s.heap H locs
def zF (ad : Nat → Nat) (ids : List Nat) (n : Nat) (Ls : Array Slot) (ls : List (Option zAV)) (st : List zAV) : Prop :=
  lv_has Ls n (zlv ad 0 ls) ∧ (∀ v, some v ∈ ls → zok ids v) ∧ ∀ v ∈ st, zok ids v
/-- which return instruction hands v back -/
def zend (Y : zY) (pc : Nat) : Option Int32 → Prop
  | none => decode Y.2.1 pc = .ok (.return_, 1)
  | some v => decode Y.2.1 pc = .ok (.ireturn, 1) ∧ ∀ ty, Y.2.2.2.1 = some ty → narrow ty (.int v) = .int v
def zS (Y : zY) (pc : Nat) (ls : List (Option zAV)) (st : List zAV) (M : zM) (r : Option Int32 × zM) : Prop :=
  ∀ (l : Launch) (D : va_G) (cI cG : ClassId) (ad : Nat → Nat) (ids : List Nat) (A : Nat → Prop) (p : Program) (e : Env) (s : State) (m : MethodId) (args : Array Value) (below : List Frame) (meth : Method) (c : Code) (R : Room) (cells slots : Nat) (Q : State → Prop) (H : Heap) (locs : List Loc) (Ls : Array Slot),
    zC Y D cI cG ids A p s m args c → zB D cI cG ad ids A s M H locs → zF ad ids Y.2.2.1 Ls ls st →
    (Y.2.2.2.2 ≤ R.frames ∧ 33 * Y.2.2.2.2 ≤ R.locals ∧ cells ≤ R.cells ∧ slots ≤ R.slots) →
    (∀ (H' : Heap) (locs' : List Loc) (Ls' : Array Slot) (pc' : Nat), zB D cI cG ad ids A s r.2 H' locs' → zend Y pc' r.1 → W p l e R s m args below meth c H' locs' cells slots Q (F0 m pc' Ls' (r.1.toList.map Value.int))) →
    W p l e R s m args below meth c H locs cells slots Q (F0 m pc Ls (st.map (zcv ad)))
section ZR
variable {Y : zY} {pc : Nat} {ls : List (Option zAV)} {st : List zAV} {M : zM} {r : Option Int32 × zM}
theorem zF.tl {ad : Nat → Nat} {ids : List Nat} {n : Nat} {Ls : Array Slot} {v : zAV} (h : zF ad ids n Ls ls (v :: st)) : zF ad ids n Ls ls st := ⟨h.1, h.2.1, fun w hw => h.2.2 w (List.mem_cons_of_mem _ hw)⟩
theorem zF.hd {ad : Nat → Nat} {ids : List Nat} {n : Nat} {Ls : Array Slot} {v : zAV} (h : zF ad ids n Ls ls (v :: st)) : zok ids v := h.2.2 v List.mem_cons_self
theorem zF.push {ad : Nat → Nat} {ids : List Nat} {n : Nat} {Ls : Array Slot} {v : zAV} (h : zF ad ids n Ls ls st) (hv : zok ids v) : zF ad ids n Ls ls (v :: st) := ⟨h.1, h.2.1, fun w hw => (List.mem_cons.mp hw).elim (fun e => e ▸ hv) (h.2.2 w)⟩
theorem zF.at {ad : Nat → Nat} {ids : List Nat} {n : Nat} {Ls : Array Slot} {v : zAV} {i : Nat} (h : zF ad ids n Ls ls st) (hi : ls[i]? = some (some v)) : zok ids v := h.2.1 v (List.mem_of_getElem? hi)
theorem zF.set {ad : Nat → Nat} {ids : List Nat} {n : Nat} {Ls Ls' : Array Slot} {v : zAV} {i : Nat} {lv' : List (Nat × Value)} (h : zF ad ids n Ls ls st) (hv : zok ids v) (hlv : lv' = (i, zcv ad v) :: (zlv ad 0 ls).filter (fun q => !(q.1 == i) && !(q.1 + 1 == i && q.2.category == 2))) (hpre : ∀ x, i ≠ 0 → ls[i - 1]? ≠ some (some (zL x))) (h' : lv_has Ls' n lv') : zF ad ids n Ls' (ls.set i (some v)) st := by
  refine ⟨⟨h'.1, h'.2.1, fun q hq => ?_⟩, fun w hw => ?_, h.2.2⟩
  · obtain ⟨j, w, hj, rfl⟩ := (zlv_mem ad _ 0 q).mp hq
    apply h'.2.2
    rw [hlv]
    by_cases hji : j = i
    · subst hji
      have hl : j < ls.length := by
        have := (List.getElem?_eq_some_iff.mp hj).1
        simpa using this
      rw [List.getElem?_set_self hl] at hj
      cases hj
      simp
    · rw [List.getElem?_set_ne (Ne.symm hji)] at hj
      refine List.mem_cons_of_mem _ (List.mem_filter.mpr ⟨(zlv_mem ad ls 0 _).mpr ⟨j, w, hj, rfl⟩, ?_⟩)
      simp only [Nat.zero_add, Bool.and_eq_true, Bool.not_eq_true', beq_eq_false_iff_ne, ne_eq, Bool.and_eq_false_iff]
      refine ⟨hji, ?_⟩
      by_cases h1 : j + 1 = i
      · right
        intro hc
        have hc2 : (zcv ad w).category = 2 := by simpa using hc
        subst h1
        match w, hj, hc2 with
        | .inl _, _, hc2 => cases hc2
        | .inr (.inl x), hj, _ => exact hpre x (by omega) (by simpa using hj)
        | .inr (.inr (.inl _)), _, hc2 => cases hc2
        | .inr (.inr (.inr _)), _, hc2 => cases hc2
      · left
        exact h1
  · rcases List.mem_or_eq_of_mem_set hw with h1 | h1
    · exact h.2.1 w h1
    · cases h1
      exact hv
/-- no long stands just ahead of the place; no long among these -/
def zpre (ls : List (Option zAV)) : Nat → Bool
  | 0 => true
  | j + 1 => match ls[j]? with
    | some (some (.inr (.inl _))) => false
    | _ => true
theorem zpre_spec {i : Nat} (h : zpre ls i = true) : ∀ x, i ≠ 0 → ls[i - 1]? ≠ some (some (zL x)) := by
  intro x hi hc
  cases i with
  | zero => exact hi rfl
  | succ j =>
    rw [Nat.add_sub_cancel] at hc
    rw [zpre, hc] at h
    cases h
def zno : List zAV → Bool
  | [] => true
  | .inl _ :: r => zno r
  | .inr (.inl _) :: _ => false
  | .inr (.inr _) :: r => zno r
theorem zno_spec : ∀ {as : List zAV}, zno as = true → ∀ v ∈ as, ∀ x, v ≠ zL x
  | [], _, v, hv, _ => by cases hv
  | .inl _ :: r, h, v, hv, x => (List.mem_cons.mp hv).elim (fun e => by subst e; simp) (fun h2 => zno_spec (as := r) h v h2 x)
  | .inr (.inl _) :: r, h, v, hv, x => by cases h
  | .inr (.inr (.inl _)) :: r, h, v, hv, x => (List.mem_cons.mp hv).elim (fun e => by subst e; simp) (fun h2 => zno_spec (as := r) h v h2 x)
  | .inr (.inr (.inr _)) :: r, h, v, hv, x => (List.mem_cons.mp hv).elim (fun e => by subst e; simp) (fun h2 => zno_spec (as := r) h v h2 x)
/-- fewer locals are known -/
def zle : List (Option zAV) → List (Option zAV) → Prop
  | [], _ => True
  | none :: r, [] => zle r []
  | none :: r, _ :: s => zle r s
  | some v :: r, some w :: s => v = w ∧ zle r s
  | some _ :: _, _ => False
theorem zle_at : ∀ {ls' ls : List (Option zAV)}, zle ls' ls → ∀ (j : Nat) (v : zAV), ls'[j]? = some (some v) → ls[j]? = some (some v)
  | [], _, _, j, v, h => by simp at h
  | none :: r, [], hl, j, v, h => by
    cases j with
    | zero => simp at h
    | succ j =>
      have := zle_at (ls' := r) (ls := []) hl j v (by simpa using h)
      simp at this
  | none :: r, _ :: s, hl, j, v, h => by
    cases j with
    | zero => simp at h
    | succ j => simpa using zle_at (ls' := r) (ls := s) hl j v (by simpa using h)
  | some a :: r, some w :: s, hl, j, v, h => by
    cases j with
    | zero =>
      simp at h ⊢
      rw [← h, hl.1]
    | succ j => simpa using zle_at (ls' := r) (ls := s) hl.2 j v (by simpa using h)
  | some a :: r, [], hl, j, v, h => hl.elim
  | some a :: r, none :: s, hl, j, v, h => hl.elim
theorem zS_wk (ls' : List (Option zAV)) (hl : zle ls' ls) (k : zS Y pc ls' st M r) : zS Y pc ls st M r := by
  intro l D cI cG ad ids A p e s m args below meth c R cells slots Q H locs Ls C B F hR hk
  refine k l D cI cG ad ids A p e s m args below meth c R cells slots Q H locs Ls C B ⟨⟨F.1.1, F.1.2.1, fun q hq => ?_⟩, fun v hv => ?_, F.2.2⟩ hR hk
  · obtain ⟨j, w, hj, rfl⟩ := (zlv_mem ad _ 0 q).mp hq
    rw [Nat.zero_add]
    exact zlv_at F.1 (zle_at hl j w hj)
  · obtain ⟨j, hj⟩ := List.getElem?_of_mem hv
    exact F.2.1 v (List.mem_of_getElem? (zle_at hl j v hj))
/-! constants, locals, stack -/
theorem zS_iconst {n : Int} {v : Int32} (hd : decode Y.2.1 pc = .ok (.iconst n, 1)) (hv : Int32.ofInt n = v) (k : zS Y (pc + 1) ls (zI v :: st) M r) : zS Y pc ls st M r := by
  intro l D cI cG ad ids A p e s m args below meth c R cells slots Q H locs Ls C B F hR hk
  exact lv_iconst C.1 C.2.1 hd hv (k l D cI cG ad ids A p e s m args below meth c R cells slots Q H locs Ls C B (F.push trivial) hR hk)
theorem zS_bipush {n : Int} {v : Int32} (hd : decode Y.2.1 pc = .ok (.bipush n, 2)) (hv : (Int8.ofInt n).toInt32 = v) (k : zS Y (pc + 2) ls (zI v :: st) M r) : zS Y pc ls st M r := by
  intro l D cI cG ad ids A p e s m args below meth c R cells slots Q H locs Ls C B F hR hk
  exact lv_bipush C.1 C.2.1 hd hv (k l D cI cG ad ids A p e s m args below meth c R cells slots Q H locs Ls C B (F.push trivial) hR hk)
theorem zS_sipush {n : Int} {v : Int32} (hd : decode Y.2.1 pc = .ok (.sipush n, 3)) (hv : (Int16.ofInt n).toInt32 = v) (k : zS Y (pc + 3) ls (zI v :: st) M r) : zS Y pc ls st M r := by
  intro l D cI cG ad ids A p e s m args below meth c R cells slots Q H locs Ls C B F hR hk
  exact lv_sipush C.1 C.2.1 hd hv (k l D cI cG ad ids A p e s m args below meth c R cells slots Q H locs Ls C B (F.push trivial) hR hk)
theorem zS_ldc {v : Int32} {index : Nat} (hd : decode Y.2.1 pc = .ok (.ldc index, 2)) (hw : Cond.constant Y.1.cls index v ∈ zU) (k : zS Y (pc + 2) ls (zI v :: st) M r) : zS Y pc ls st M r := by
  intro l D cI cG ad ids A p e s m args below meth c R cells slots Q H locs Ls C B F hR hk
  exact lv_ldc C.1 C.2.1 C.2.2.2.1 (C.2.2.2.2.1 _ hw) hd (k l D cI cG ad ids A p e s m args below meth c R cells slots Q H locs Ls C B (F.push trivial) hR hk)
theorem zS_ldcw {v : Int32} {index : Nat} (hd : decode Y.2.1 pc = .ok (.ldc_w index, 3)) (hw : Cond.constant Y.1.cls index v ∈ zU) (k : zS Y (pc + 3) ls (zI v :: st) M r) : zS Y pc ls st M r := by
  intro l D cI cG ad ids A p e s m args below meth c R cells slots Q H locs Ls C B F hR hk
  exact lv_ldcw C.1 C.2.1 C.2.2.2.1 (C.2.2.2.2.1 _ hw) hd (k l D cI cG ad ids A p e s m args below meth c R cells slots Q H locs Ls C B (F.push trivial) hR hk)
theorem zS_ldc2 {v : Int64} {index : Nat} (hd : decode Y.2.1 pc = .ok (.ldc2_w index, 3)) (hw : Cond.constantLong Y.1.cls index v ∈ zU) (k : zS Y (pc + 3) ls (zL v :: st) M r) : zS Y pc ls st M r := by
  intro l D cI cG ad ids A p e s m args below meth c R cells slots Q H locs Ls C B F hR hk
  exact lv_ldc2 C.1 C.2.1 C.2.2.2.1 (C.2.2.2.2.1 _ hw) hd (k l D cI cG ad ids A p e s m args below meth c R cells slots Q H locs Ls C B (F.push trivial) hR hk)
theorem zS_lconst {n : Fin 2} {v : Int64} (hd : decode Y.2.1 pc = .ok (.lconst n, 1)) (hv : Int64.ofNat (n : Nat) = v) (k : zS Y (pc + 1) ls (zL v :: st) M r) : zS Y pc ls st M r := by
  intro l D cI cG ad ids A p e s m args below meth c R cells slots Q H locs Ls C B F hR hk
  exact lv_lconst C.1 C.2.1 hd hv (k l D cI cG ad ids A p e s m args below meth c R cells slots Q H locs Ls C B (F.push trivial) hR hk)
theorem zS_iload_n {j : Fin 4} {i : Nat} {x : Int32} (hd : decode Y.2.1 pc = .ok (.iload_n j, 1)) (hi : (j : Nat) = i) (hl : ls[i]? = some (some (zI x))) (k : zS Y (pc + 1) ls (zI x :: st) M r) : zS Y pc ls st M r := by
  intro l D cI cG ad ids A p e s m args below meth c R cells slots Q H locs Ls C B F hR hk
  exact lv_iload_n C.1 C.2.1 hd hi (zlv_at F.1 hl) (k l D cI cG ad ids A p e s m args below meth c R cells slots Q H locs Ls C B (F.push trivial) hR hk)
theorem zS_iload {i : Nat} {x : Int32} (hd : decode Y.2.1 pc = .ok (.iload i, 2)) (hl : ls[i]? = some (some (zI x))) (k : zS Y (pc + 2) ls (zI x :: st) M r) : zS Y pc ls st M r := by
  intro l D cI cG ad ids A p e s m args below meth c R cells slots Q H locs Ls C B F hR hk
  exact lv_iload C.1 C.2.1 hd (zlv_at F.1 hl) (k l D cI cG ad ids A p e s m args below meth c R cells slots Q H locs Ls C B (F.push trivial) hR hk)
theorem zS_lload_n {j : Fin 4} {i : Nat} {x : Int64} (hd : decode Y.2.1 pc = .ok (.lload_n j, 1)) (hi : (j : Nat) = i) (hl : ls[i]? = some (some (zL x))) (k : zS Y (pc + 1) ls (zL x :: st) M r) : zS Y pc ls st M r := by
  intro l D cI cG ad ids A p e s m args below meth c R cells slots Q H locs Ls C B F hR hk
  exact lv_lload_n C.1 C.2.1 hd hi (zlv_at F.1 hl) (k l D cI cG ad ids A p e s m args below meth c R cells slots Q H locs Ls C B (F.push trivial) hR hk)
theorem zS_aload_nO {j : Fin 4} {i o : Nat} (hd : decode Y.2.1 pc = .ok (.aload_n j, 1)) (hi : (j : Nat) = i) (hl : ls[i]? = some (some (zO o))) (k : zS Y (pc + 1) ls (zO o :: st) M r) : zS Y pc ls st M r := by
  intro l D cI cG ad ids A p e s m args below meth c R cells slots Q H locs Ls C B F hR hk
  exact lv_aload_n C.1 C.2.1 hd hi (zlv_at F.1 hl) (k l D cI cG ad ids A p e s m args below meth c R cells slots Q H locs Ls C B (F.push (F.at hl)) hR hk)
theorem zS_aload_nA {j : Fin 4} {i o n : Nat} (hd : decode Y.2.1 pc = .ok (.aload_n j, 1)) (hi : (j : Nat) = i) (hl : ls[i]? = some (some (zA o n))) (k : zS Y (pc + 1) ls (zA o n :: st) M r) : zS Y pc ls st M r := by
  intro l D cI cG ad ids A p e s m args below meth c R cells slots Q H locs Ls C B F hR hk
  exact lv_aload_n C.1 C.2.1 hd hi (zlv_at F.1 hl) (k l D cI cG ad ids A p e s m args below meth c R cells slots Q H locs Ls C B (F.push (F.at hl)) hR hk)
theorem zS_istore_n {j : Fin 4} {i : Nat} {x : Int32} {ls' : List (Option zAV)} (hd : decode Y.2.1 pc = .ok (.istore_n j, 1)) (hi : (j : Nat) = i) (hn : i < Y.2.2.1) (hp0 : zpre ls i = true) (hl : ls.set i (some (zI x)) = ls') (k : zS Y (pc + 1) ls' st M r) : zS Y pc ls (zI x :: st) M r := by
  have hpre := zpre_spec hp0
  subst hl
  intro l D cI cG ad ids A p e s m args below meth c R cells slots Q H locs Ls C B F hR hk
  exact lv_istore_n C.1 C.2.1 hd hi F.1 hn rfl (fun Ls' h' => k l D cI cG ad ids A p e s m args below meth c R cells slots Q H locs Ls' C B (F.tl.set trivial rfl hpre h') hR hk)
theorem zS_istore {i : Nat} {x : Int32} {ls' : List (Option zAV)} (hd : decode Y.2.1 pc = .ok (.istore i, 2)) (hn : i < Y.2.2.1) (hp0 : zpre ls i = true) (hl : ls.set i (some (zI x)) = ls') (k : zS Y (pc + 2) ls' st M r) : zS Y pc ls (zI x :: st) M r := by
  have hpre := zpre_spec hp0
  subst hl
  intro l D cI cG ad ids A p e s m args below meth c R cells slots Q H locs Ls C B F hR hk
  exact lv_istore C.1 C.2.1 hd F.1 hn rfl (fun Ls' h' => k l D cI cG ad ids A p e s m args below meth c R cells slots Q H locs Ls' C B (F.tl.set trivial rfl hpre h') hR hk)
theorem zS_iinc {i : Nat} {n : Int} {x v : Int32} {ls' : List (Option zAV)} (hd : decode Y.2.1 pc = .ok (.iinc i n, 3)) (hx : ls[i]? = some (some (zI x))) (hv : x + Int32.ofInt n = v) (hn : i < Y.2.2.1) (hp0 : zpre ls i = true) (hl : ls.set i (some (zI v)) = ls') (k : zS Y (pc + 3) ls' st M r) : zS Y pc ls st M r := by
  have hpre := zpre_spec hp0
  subst hl
  intro l D cI cG ad ids A p e s m args below meth c R cells slots Q H locs Ls C B F hR hk
  obtain ⟨kk, hkk⟩ := List.getElem?_of_mem ((zlv_mem ad ls 0 (i, .int x)).mpr ⟨i, zI x, hx, by rw [Nat.zero_add]; rfl⟩)
  exact lv_iinc C.1 C.2.1 hd F.1 hkk hv hn rfl (fun Ls' h' => k l D cI cG ad ids A p e s m args below meth c R cells slots Q H locs Ls' C B (F.set (v := zI v) trivial rfl hpre h') hR hk)
theorem zS_lstore_n {j : Fin 4} {i : Nat} {x : Int64} {ls' : List (Option zAV)} (hd : decode Y.2.1 pc = .ok (.lstore_n j, 1)) (hi : (j : Nat) = i) (hn : i + 1 < Y.2.2.1) (hp0 : zpre ls i = true) (hl : (ls.set i (some (zL x))).set (i + 1) none = ls') (k : zS Y (pc + 1) ls' st M r) : zS Y pc ls (zL x :: st) M r := by
  have hpre := zpre_spec hp0
  subst hl
  intro l D cI cG ad ids A p e s m args below meth c R cells slots Q H locs Ls C B F hR hk
  refine lv_lstore_n C.1 C.2.1 hd hi F.1 hn rfl (fun Ls' h' => k l D cI cG ad ids A p e s m args below meth c R cells slots Q H locs Ls' C B ⟨⟨h'.1, h'.2.1, fun q hq => ?_⟩, fun w hw => ?_, F.tl.2.2⟩ hR hk)
  · obtain ⟨j', w, hj, rfl⟩ := (zlv_mem ad _ 0 q).mp hq
    apply h'.2.2
    by_cases h1 : j' = i + 1
    · subst h1
      by_cases hl : i + 1 < ls.length
      · rw [List.getElem?_set_self (by simpa using hl)] at hj
        simp at hj
      · rw [List.getElem?_eq_none (by simp; omega)] at hj
        cases hj
    · rw [List.getElem?_set_ne (Ne.symm h1)] at hj
      by_cases hji : j' = i
      · subst hji
        have hl : j' < ls.length := by
          have := (List.getElem?_eq_some_iff.mp hj).1
          simpa using this
        rw [List.getElem?_set_self hl] at hj
        cases hj
        simp [zcv]
      · rw [List.getElem?_set_ne (Ne.symm hji)] at hj
        refine List.mem_cons_of_mem _ (List.mem_filter.mpr ⟨(zlv_mem ad ls 0 _).mpr ⟨j', w, hj, rfl⟩, ?_⟩)
        simp only [Nat.zero_add, Bool.and_eq_true, Bool.not_eq_true', beq_eq_false_iff_ne, ne_eq, Bool.and_eq_false_iff]
        refine ⟨hji, h1, ?_⟩
        by_cases h2 : j' + 1 = i
        · right
          intro hc
          have hc2 : (zcv ad w).category = 2 := by simpa using hc
          subst h2
          match w, hj, hc2 with
          | .inl _, _, hc2 => cases hc2
          | .inr (.inl x), hj, _ => exact hpre x (by omega) (by simpa using hj)
          | .inr (.inr (.inl _)), _, hc2 => cases hc2
          | .inr (.inr (.inr _)), _, hc2 => cases hc2
        · left
          exact h2
  · rcases List.mem_or_eq_of_mem_set hw with h1 | h1
    · rcases List.mem_or_eq_of_mem_set h1 with h2 | h2
      · exact F.2.1 w h2
      · cases h2
        trivial
    · cases h1
theorem zS_dup {v : zAV} (hd : decode Y.2.1 pc = .ok (.dup, 1)) (hv0 : zno [v] = true) (k : zS Y (pc + 1) ls (v :: v :: st) M r) : zS Y pc ls (v :: st) M r := by
  have hv : ∀ x, v ≠ zL x := zno_spec hv0 v List.mem_cons_self
  intro l D cI cG ad ids A p e s m args below meth c R cells slots Q H locs Ls C B F hR hk
  refine lv_dup C.1 C.2.1 hd ?_ (k l D cI cG ad ids A p e s m args below meth c R cells slots Q H locs Ls C B (F.push F.hd) hR hk)
  match v, hv with
  | .inl _, _ => rfl
  | .inr (.inl x), hv => exact absurd rfl (hv x)
  | .inr (.inr (.inl _)), _ => rfl
  | .inr (.inr (.inr _)), _ => rfl
theorem zcat1 {ad : Nat → Nat} {v : zAV} (hv : ∀ x, v ≠ zL x) : (zcv ad v).category = 1 := by
  match v, hv with
  | .inl _, _ => rfl
  | .inr (.inl x), hv => exact absurd rfl (hv x)
  | .inr (.inr (.inl _)), _ => rfl
  | .inr (.inr (.inr _)), _ => rfl
theorem zS_dup2 {v w : zAV} (hd : decode Y.2.1 pc = .ok (.dup2, 1)) (hv0 : zno [v, w] = true) (k : zS Y (pc + 1) ls (v :: w :: v :: w :: st) M r) : zS Y pc ls (v :: w :: st) M r := by
  have hv : ∀ x, v ≠ zL x := zno_spec hv0 v List.mem_cons_self
  have hw : ∀ x, w ≠ zL x := zno_spec hv0 w (List.mem_cons_of_mem _ List.mem_cons_self)
  intro l D cI cG ad ids A p e s m args below meth c R cells slots Q H locs Ls C B F hR hk
  exact lv_dup2_11 C.1 C.2.1 hd (zcat1 hv) (zcat1 hw) (k l D cI cG ad ids A p e s m args below meth c R cells slots Q H locs Ls C B ((F.push F.tl.hd).push F.hd) hR hk)
theorem zS_pop {v : zAV} (hd : decode Y.2.1 pc = .ok (.pop, 1)) (hv0 : zno [v] = true) (k : zS Y (pc + 1) ls st M r) : zS Y pc ls (v :: st) M r := by
  have hv : ∀ x, v ≠ zL x := zno_spec hv0 v List.mem_cons_self
  intro l D cI cG ad ids A p e s m args below meth c R cells slots Q H locs Ls C B F hR hk
  exact lv_pop C.1 C.2.1 hd (zcat1 hv) (k l D cI cG ad ids A p e s m args below meth c R cells slots Q H locs Ls C B F.tl hR hk)
theorem zS_goto {off : Int} {tgt : Nat} (hd : decode Y.2.1 pc = .ok (.goto off, 3)) (ht : (pc : Int) + off = (tgt : Int)) (k : zS Y tgt ls st M r) : zS Y pc ls st M r := by
  intro l D cI cG ad ids A p e s m args below meth c R cells slots Q H locs Ls C B F hR hk
  exact lv_goto C.1 C.2.1 hd ht (k l D cI cG ad ids A p e s m args below meth c R cells slots Q H locs Ls C B F hR hk)
end ZR
