/-! THE CLAIM OUT OF ONE WALK OF THE LAW'S BODY. Your part is whole_start (and what it stands on); all else here is the same for every law, but numbers. -/
def R_law : String := "PiperHouseLaw"
def lw_P (b : Addr) (xs : List Int32) (args : Array Value) (s : State) : Prop := args = #[.ref b] ∧ s.IntsAt b xs ∧ xs.length ≤ 3072 ∧ (Jvm.Cond.and given_1 narrow_1).before args s = true
def lw_Q (_ : Array Value) (s : State) (o : Outcome) (t : State) : Prop := o = .returned (some (.int 1)) ∧ Framed s o t [] 600000 7302249
def lw_Z (below : List Frame) (a : Array Value) (s : State) : State → Prop := fun t => ∃ o, t.status = .running ∧ Ended t below o ∧ lw_Q a s o t
/-- the law's own end, with 1 on the stack, nothing written that was there before, its room as the claim has it -/
theorem lw_ret {p : Program} {l : Launch} {e : Env} {s : State} {m : MethodId} {below : List Frame} {meth : Method} {c : Code} {b : Nat} (hx : p.tables.exec = Jvm.exec) (hb : c.code = code) (hr : meth.sig.returnType = ret) (hlocks : meth.locks = false) {pc : Nat} {H : Heap} {ls : Array Slot} (hdg : decode code pc = .ok (.ireturn, 1)) : W p l e room_1 s m #[Value.ref b] below meth c H [] 600000 7302249 (lw_Z below #[Value.ref b] s) (F0 m pc ls [.int 1]) := by
  intro T hT X
  obtain ⟨fs, hret, hrun, hended, hW, hframe⟩ := X.leave (v := some (.int 1)) (hlocks := hlocks) (fun h => by rw [hr] at h; cases h)
  have hmeth' : T.vm.method? m = some meth := X.method'
  refine ⟨T.setFrames fs, ?_, .returned (some (.int 1)), hrun, hended, rfl, ⟨_, rfl⟩, hW, hframe⟩
  jvm_step X.here [X.here.top, hx, hb, hdg, hmeth', hr, ret, narrow_b1]
  (try refine ⟨rfl, ?_⟩); (try refine ⟨rfl, ?_⟩)
  first | (intro acts; rw [hret _ acts rfl rfl rfl]) | rw [hret _ _ rfl rfl rfl]
  exact Steps.refl _
/-- what holds at the law's entry: the machine, the code, the tables' words (any of lw_tbl by 'hts w (by decide +kernel)'), the script of L ints xs at the cell b, what the Statement gives of the start (any of its parts by flat_of_before) -/
def lw_At (p : Program) (s : State) (m : MethodId) (meth : Method) (c : Code) (b L : Nat) (xs : Nat → Int32) : Prop :=
  p.tables.exec = Jvm.exec ∧ c.code = code ∧ meth.sig.returnType = ret ∧ c.maxLocals = 4 ∧ s.vm.findClass R_law = some m.cls ∧ (∀ w ∈ lw_tbl, w.before #[Value.ref b] s = true) ∧ va_X b L xs s s.heap ∧ b < s.heap.size ∧ meth.locks = false ∧ (Jvm.Cond.and given_1 narrow_1).before #[Value.ref b] s = true
def LA : List Nat := 9 :: ((((((((((((((((((((((((LH ++ [75]) ++ [76]) ++ [77]) ++ [78]) ++ [79]) ++ [80]) ++ [81]) ++ [82]) ++ [83]) ++ [84]) ++ [85]) ++ [86]) ++ [87]) ++ [88]) ++ [89]) ++ [90]) ++ [91]) ++ [92]) ++ [93]) ++ [94]) ++ [95]) ++ [96]) ++ [97]) ++ [98])
/-- what stays through the law's walk -/
def zLc (p : Program) (s : State) (m : MethodId) (c : Code) (b L : Nat) (xs : Nat → Int32) (D : va_G) (cI cG : ClassId) (A : Nat → Prop) : Prop :=
  p.tables.exec = Jvm.exec ∧ c.code = code ∧ c.maxLocals = 4 ∧ s.vm.findClass R_law = some m.cls ∧ (∀ w ∈ zU, w.before #[Value.ref b] s = true) ∧ (∀ w ∈ zNW, va_Nw w s) ∧ va_K D vwCl [(cI, .int), (cG, .array .int)] s ∧ zcl LA ∧ (∀ q, s.heap.size ≤ q → A q) ∧ va_X b L xs s s.heap ∧ b < s.heap.size ∧ ¬ A b
theorem zle_rf : ∀ l : List (Option zAV), zle l l
  | [] => trivial
  | none :: r => zle_rf r
  | some v :: r => ⟨rfl, zle_rf r⟩
section LWR
variable {p : Program} {l : Launch} {e : Env} {s : State} {m : MethodId} {below : List Frame} {meth : Method} {c : Code} {b L : Nat} {xs : Nat → Int32} {D : va_G} {cI cG : ClassId} {ad : Nat → Nat} {A : Nat → Prop} {M M1 : zM} {H : Heap} {locs : List Loc} {cells slots : Nat} {Q : State → Prop} {ls : Array Slot} {rest : List Value} {pc i : Nat}
theorem lw_ld (k : Nat) {n : Int} (Cx : zLc p s m c b L xs D cI cG A) (hL : L ≤ 3072) (hi : i + 5 < L) (hk : k ≤ 5) (hn : Int32.ofInt n = nI k) (hS : va_S A s.heap H locs) (hl : lv_has ls 4 [(0, .ref b), (1, .ref (ad 0)), (2, .ref (ad 9)), (3, .int (nI i))]) (d0 : decode code pc = .ok (.aload_n 0, 1)) (d1 : decode code (pc + 1) = .ok (.iload_n 3, 1)) (d2 : decode code (pc + 2) = .ok (.iconst n, 1)) (d3 : decode code (pc + 3) = .ok (.iadd, 1)) (d4 : decode code (pc + 4) = .ok (.iaload, 1))
    (kk : W p l e room_1 s m #[Value.ref b] below meth c H locs cells slots Q (F0 m (pc + 5) ls (.int (xs (i + k)) :: rest))) : W p l e room_1 s m #[Value.ref b] below meth c H locs cells slots Q (F0 m pc ls rest) := by
  obtain ⟨hx, hb, hml, hown, hts, hN, hK, hcl, hA, hX, hbl, hbA⟩ := Cx
  refine lv_aload_n hx hb d0 rfl (lv_at hl 0 rfl) ?_
  refine lv_iload_n hx hb d1 rfl (lv_at hl 3 rfl) ?_
  refine lv_iconst hx hb d2 hn ?_
  refine lv_iadd hx hb d3 ?_
  rw [nI_add]
  refine va_sld hx hb hX hbl hbA hS ?_ d4 ?_
  · show ¬ _
    rw [zix (by omega) (by omega)]
    exact id
  · rw [zcl' (by omega)]
    exact kk
theorem lw_call {Y' : zY} {o ci N index : Nat} {fl : List (Option zAV)} {T : u_T} {as : List zAV} {v : Int32} {ty : FieldType} (Cx : zLc p s m c b L xs D cI cG A) (hok : zYok Y') (hret : Y'.2.2.2.1 = some ty) (hlay : zlay o = .inl (ci, fl)) (hc : vwCl[ci]? = some (Y'.1.cls, T, N)) (ho : o ∈ LA) (hin : Cond.instanceMethod Y'.1 ∈ zU) (hsel : Cond.selects Y'.1.cls Y'.1 Y'.1 ∈ zU) (hlink : Cond.methodLink R_law index Y'.1 ∈ zU) (hn : (parseMethodDescriptor Y'.1.desc).map (fun d => d.parameters.length) = some as.length) (has : ∀ v ∈ as, ∃ x, v = zI x) (hsz : (zO o :: as).length ≤ Y'.2.2.1) (hcal : zS Y' 0 ((zO o :: as).map some) [] M (some v, M1)) (B : zB D cI cG ad LA A s M H locs)
    (hR : Y'.2.2.2.2 + 1 ≤ 9 ∧ 8 + (Y'.2.2.1 + 11) + 33 * Y'.2.2.2.2 ≤ 330) (hcs : cells ≤ 600000 ∧ slots ≤ 7302249) (hl : ls.size = 4) (h8 : (rest.map fun v => v.category).sum ≤ 8) (hd : decode code pc = .ok (.invokevirtual index, 3))
    (kk : ∀ (H1 : Heap) (locs1 : List Loc), zB D cI cG ad LA A s M1 H1 locs1 → W p l e room_1 s m #[Value.ref b] below meth c H1 locs1 cells slots Q (F0 m (pc + 3) ls (.int v :: rest))) : W p l e room_1 s m #[Value.ref b] below meth c H locs cells slots Q (F0 m pc ls ((as.map (zcv ad)).reverse ++ .ref (ad o) :: rest)) := by
  obtain ⟨hx, hb, hml, hown, hts, hN, hK, hcl, hA, hX, hbl, hbA⟩ := Cx
  have hok2 : ∀ v ∈ (zO o :: as), zok LA v := fun v hv => (List.mem_cons.mp hv).elim (fun e => by subst e; exact ho) (fun h => by obtain ⟨x, rfl⟩ := has v h; trivial)
  have hcat2 : ∀ v ∈ (zO o :: as), ∀ x, v ≠ zL x := fun v hv x => (List.mem_cons.mp hv).elim (fun e => by subst e; simp) (fun h => by obtain ⟨y, rfl⟩ := has v h; simp)
  have hM := zMetI (l := l) (D := D) (cI := cI) (cG := cG) (ad := ad) (ids := LA) (sz := H.size) (as := (zO o :: as)) hok hret hcal (zle_rf _) hcat2 hsz hok2 hcl
  have hR2 : (zroom Y'.2.2.2.2).frames + 1 ≤ room_1.frames ∧ 8 + (Y'.2.2.1 + 11) + (zroom Y'.2.2.2.2).locals ≤ room_1.locals := hR
  have hFc := zfree (M := M) B.2.1 B.2.2 hA
  obtain ⟨q, -, hq⟩ := zW_at (cI := cI) (cG := cG) (ad := ad) M ho
  rw [zE_obj hlay] at hq
  refine va_calli (va_runV (b := ad o) (As := as.map (zcv ad)) (rest := rest) ⟨hx, hb, hml, hown, hts⟩ hM ⟨callB_of as.length hts (zgood hok) rfl rfl rfl (hts _ hok.2.2.1) (hts _ hlink) ⟨hok.2.2.2.1.1, hok.2.2.2.1.2, hn⟩ hR2, hts _ hin, hts _ hsel⟩ ⟨zblind, va_recv hK B.1 hc hq, fun U hU hW => ⟨rfl, by rw [hU], by rw [hU]; exact B.1, va_K.moved hW.alike hK, B.2.1.weaken (fun _ _ _ _ => trivial), zNW_warm hW hN⟩⟩ rfl (List.length_map _) hl rfl (lv_room h8) hd hcs) B.2.2 (fun q _ h => hFc q h) hFc (fun r1 u t H1 locs1 ht hvm hw hB hz1 hk1 hS1 => ?_)
  subst hw
  rw [ht] at hB
  exact kk H1 locs1 ⟨hB, zD_mem B.2.1, hS1⟩
end LWR
