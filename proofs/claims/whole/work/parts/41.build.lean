/-! ===== objects made: a world that grows by a row, by rows of rows, by an object ===== -/
def adU (ad : Nat → Nat) (i q : Nat) : Nat → Nat := fun j => if j = i then q else ad j
def adG (ad : Nat → Nat) (g b N q : Nat) (r : Nat → Nat) : Nat → Nat := fun j => if j = g then q else if b ≤ j ∧ j < b + N then r (j - b) else ad j
def zrows (M : zM) (b N : Nat) : zM := fun a => if b ≤ a ∧ a < b + N then fun _ => 0 else M a
theorem zcv_agree {ids : List Nat} {ad ad' : Nat → Nat} (h : ∀ j ∈ ids, ad' j = ad j) : ∀ v, zok ids v → zcv ad' v = zcv ad v
  | .inl x, _ => rfl
  | .inr (.inl x), _ => rfl
  | .inr (.inr (.inl q)), hz => by
    show Value.ref (ad' q.1) = Value.ref (ad q.1)
    rw [h _ hz.1]
  | .inr (.inr (.inr i)), hz => by
    show Value.ref (ad' i) = Value.ref (ad i)
    rw [h _ hz]
theorem zE_agree {cI cG : ClassId} {ids : List Nat} {ad ad' : Nat → Nat} {M : zM} {i : Nat} (h : ∀ j ∈ ids, ad' j = ad j) (hz : zclk ids (zlay i)) : zE cI cG ad' M i = zE cI cG ad M i := by
  unfold zE
  generalize hk : zlay i = k at hz
  match k, hz with
  | .inl o, hz =>
    simp only [zEk]
    congr 2
    apply List.ext_getElem?
    intro j
    simp only [List.getElem?_mapIdx]
    cases hf : o.2[j]? with
    | none => rfl
    | some f =>
      cases f with
      | none => rfl
      | some v =>
        simp only [Option.map_some, zfv]
        rw [zcv_agree h v (hz v (List.mem_of_getElem? hf))]
  | .inr (.inl g), hz =>
    simp only [zEk]
    congr 7
    funext k
    by_cases hk2 : k < g.2.1
    · have h1 : g.1 + k ∈ ids := (hz k hk2).1
      rw [if_pos hk2, if_pos hk2, h _ h1]
    · rw [if_neg hk2, if_neg hk2]
  | .inr (.inr n), _ => rfl
theorem zW_agree {cI cG : ClassId} {ids : List Nat} {ad ad' : Nat → Nat} {M M' : zM} (h : ∀ j ∈ ids, ad' j = ad j) (hM : ∀ j ∈ ids, M' j = M j) (hcl : zcl ids) : zW cI cG ad' ids M' = zW cI cG ad ids M := by
  unfold zW
  apply List.map_congr_left
  intro i hi
  rw [h i hi, zE_agree h (hcl i hi), zE_congr (hM i hi)]
theorem zok_mono {ids ids' : List Nat} (h : ∀ x ∈ ids, x ∈ ids') : ∀ v, zok ids v → zok ids' v
  | .inl _, _ => trivial
  | .inr (.inl _), _ => trivial
  | .inr (.inr (.inl _)), hz => ⟨h _ hz.1, hz.2⟩
  | .inr (.inr (.inr _)), hz => h _ hz
theorem zclk_mono {ids ids' : List Nat} (h : ∀ x ∈ ids, x ∈ ids') : ∀ k, zclk ids k → zclk ids' k
  | .inl _, hz => fun v hv => zok_mono h v (hz v hv)
  | .inr (.inl _), hz => fun k hk => zok_mono h _ (hz k hk)
  | .inr (.inr _), _ => trivial
theorem zcl_arr {ids : List Nat} {i n : Nat} (hcl : zcl ids) (hlay : zlay i = .inr (.inr n)) : zcl (ids ++ [i]) := by
  intro j hj
  rcases List.mem_append.mp hj with h | h
  · exact zclk_mono (fun x hx => List.mem_append_left _ hx) _ (hcl j h)
  · rw [List.mem_singleton.mp h, hlay]
    trivial
theorem zcl_grid {ids : List Nat} {g b N K : Nat} (hcl : zcl ids) (hg : zlay g = .inr (.inl (b, N, K))) (hr : ∀ k, k < N → zlay (b + k) = .inr (.inr K)) : zcl (ids ++ g :: List.range' b N) := by
  intro j hj
  rcases List.mem_append.mp hj with h | h
  · exact zclk_mono (fun x hx => List.mem_append_left _ hx) _ (hcl j h)
  · rcases List.mem_cons.mp h with rfl | h
    · rw [hg]
      intro k hk
      exact ⟨List.mem_append_right _ (List.mem_cons_of_mem _ (List.mem_range'_1.mpr ⟨Nat.le_add_right _ _, Nat.add_lt_add_left hk _⟩)), hr k hk⟩
    · have h2 := List.mem_range'_1.mp h
      have h3 := hr (j - b) (by omega)
      rw [show b + (j - b) = j by omega] at h3
      rw [h3]
      trivial
theorem zcl_own {ids : List Nat} {o : Nat} (hcl : zcl ids) (hz : zclk (o :: ids) (zlay o)) : zcl (o :: ids) := by
  intro j hj
  rcases List.mem_cons.mp hj with rfl | h
  · exact hz
  · exact zclk_mono (fun x hx => List.mem_cons_of_mem _ hx) _ (hcl j h)
theorem zW_own {cI cG : ClassId} {ids : List Nat} {ad : Nat → Nat} {M : zM} {o h0 : Nat} {e : va_E} (hcl : zcl ids) (ho : o ∉ ids) (he : zE cI cG (adU ad o h0) M o = e) : (h0, e) :: zW cI cG ad ids M = zW cI cG (adU ad o h0) (o :: ids) M := by
  have h : zW cI cG (adU ad o h0) ids M = zW cI cG ad ids M := zW_agree (fun j hj => by
    have : j ≠ o := fun q => ho (q ▸ hj)
    rw [adU, if_neg this]) (fun _ _ => rfl) hcl
  rw [← h, ← he]
  show _ = (adU ad o h0 o, zE cI cG (adU ad o h0) M o) :: zW cI cG (adU ad o h0) ids M
  rw [show adU ad o h0 o = h0 from if_pos rfl]
theorem zW_snoc {cI cG : ClassId} {ids : List Nat} {ad : Nat → Nat} {M : zM} {i n q : Nat} {f : Nat → Int32} (hcl : zcl ids) (hi : i ∉ ids) (hlay : zlay i = .inr (.inr n)) : zW cI cG ad ids M ++ [(q, .inl (cI, n, .inl f))] = zW cI cG (adU ad i q) (ids ++ [i]) (zrow M i f) := by
  have hne : ∀ j ∈ ids, j ≠ i := fun j hj e => hi (e ▸ hj)
  have h : zW cI cG (adU ad i q) ids (zrow M i f) = zW cI cG ad ids M := zW_agree (fun j hj => by rw [adU, if_neg (hne j hj)]) (fun j hj => by rw [zrow, if_neg (hne j hj)]) hcl
  rw [← h]
  show _ = (ids ++ [i]).map _
  rw [List.map_append]
  show zW cI cG (adU ad i q) ids (zrow M i f) ++ _ = zW cI cG (adU ad i q) ids (zrow M i f) ++ [(adU ad i q i, zE cI cG (adU ad i q) (zrow M i f) i)]
  rw [zE_arr hlay, show adU ad i q i = q from if_pos rfl, show zrow M i f i = f from if_pos rfl]
theorem zW_grid {cI cG : ClassId} {ids : List Nat} {ad : Nat → Nat} {M : zM} {g b N K q : Nat} {r : Nat → Nat} (hcl : zcl ids) (hi : g ∉ ids) (hb : ∀ k, k < N → b + k ∉ ids) (hgb : g < b) (hg : zlay g = .inr (.inl (b, N, K))) (hr : ∀ k, k < N → zlay (b + k) = .inr (.inr K)) : (zW cI cG ad ids M ++ [(q, .inl (cG, N, .inr (.inr (.inr (.inr (fun k => if k < N then some (r k) else none))))))]) ++ (List.range N).map (fun k => (r k, .inl (cI, K, .inl (fun _ => 0)))) = zW cI cG (adG ad g b N q r) (ids ++ g :: List.range' b N) (zrows M b N) := by
  have hne : ∀ j ∈ ids, j ≠ g ∧ ¬ (b ≤ j ∧ j < b + N) := fun j hj => ⟨fun e => hi (e ▸ hj), fun e => hb (j - b) (by omega) (by rw [show b + (j - b) = j by omega]; exact hj)⟩
  have h : zW cI cG (adG ad g b N q r) ids (zrows M b N) = zW cI cG ad ids M := zW_agree (fun j hj => by rw [adG, if_neg (hne j hj).1, if_neg (hne j hj).2]) (fun j hj => by rw [zrows, if_neg (hne j hj).2]) hcl
  have hgg : adG ad g b N q r g = q := if_pos rfl
  have hgr : ∀ k, k < N → adG ad g b N q r (b + k) = r k := fun k hk => by rw [adG, if_neg (by omega), if_pos (by omega), show b + k - b = k by omega]
  rw [← h]
  show _ = (ids ++ g :: List.range' b N).map _
  rw [List.map_append, List.map_cons, hgg, zE_grid hg, List.append_assoc]
  show zW cI cG (adG ad g b N q r) ids (zrows M b N) ++ _ = zW cI cG (adG ad g b N q r) ids (zrows M b N) ++ _
  congr 1
  rw [List.singleton_append]
  congr 1
  · have hf : (fun k => if k < N then some (r k) else none) = (fun k => if k < N then some (adG ad g b N q r (b + k)) else none) := by
      funext k
      by_cases hk : k < N
      · rw [if_pos hk, if_pos hk, hgr k hk]
      · rw [if_neg hk, if_neg hk]
    show (q, (.inl (cG, N, .inr (.inr (.inr (.inr (fun k => if k < N then some (r k) else none))))) : va_E)) = (q, .inl (cG, N, .inr (.inr (.inr (.inr (fun k => if k < N then some (adG ad g b N q r (b + k)) else none))))))
    rw [hf]
  · rw [List.range'_eq_map_range, List.map_map]
    apply List.map_congr_left
    intro k hk
    have hk' := List.mem_range.mp hk
    show _ = (adG ad g b N q r (b + k), zE cI cG (adG ad g b N q r) (zrows M b N) (b + k))
    rw [hgr k hk', zE_arr (hr k hk'), zrows, if_pos (by omega)]
/-- behind a call: the rest stays beside what the callee leaves -/
theorem zjoin {A0 : Nat → Prop} {D : va_G} {cl : List vw_C} {r wc w1 : va_W} {H H1 : Heap} (hP : va_P D cl (r ++ wc) H) (hD : va_D A0 (r ++ wc)) (hk : ∀ q : Nat, q < H.size → ¬ va_A wc H.size q → H1[q]? = H[q]?) (hF : ∀ q, va_A wc H.size q → A0 q) (hP1 : va_P D cl w1 H1) (hD1 : va_D (va_A wc H.size) w1) : va_P D cl (r ++ w1) H1 ∧ va_D A0 (r ++ w1) := by
  have hr : ∀ (k : Nat) (x : Nat × va_E), r[k]? = some x → x.1 < H.size ∧ ¬ va_A wc H.size x.1 := by
    intro k x hx
    have hl := (List.getElem?_eq_some_iff.mp hx).1
    have hx2 : (r ++ wc)[k]? = some x := by rw [List.getElem?_append_left hl]; exact hx
    have hlt := (hP k x hx2).lt
    refine ⟨hlt, ?_⟩
    rintro (⟨j, e, hj⟩ | hj)
    · have hj2 : (r ++ wc)[r.length + j]? = some (x.1, e) := by rw [List.getElem?_append_right (by omega), show r.length + j - r.length = j by omega]; exact hj
      have := hD.1 k (r.length + j) x (x.1, e) hx2 hj2 rfl
      omega
    · omega
  have hPr : va_P D cl r H1 := fun k x hx => by
    have hl := (List.getElem?_eq_some_iff.mp hx).1
    exact (hP k x (by rw [List.getElem?_append_left hl]; exact hx)).kept (hk x.1 (hr k x hx).1 (hr k x hx).2)
  have hDr : va_D A0 r := ⟨fun i j x y hi hj e => hD.1 i j x y (by rw [List.getElem?_append_left (List.getElem?_eq_some_iff.mp hi).1]; exact hi) (by rw [List.getElem?_append_left (List.getElem?_eq_some_iff.mp hj).1]; exact hj) e, fun k x hx => hD.2 k x (by rw [List.getElem?_append_left (List.getElem?_eq_some_iff.mp hx).1]; exact hx)⟩
  exact ⟨hPr.app hP1, hDr.app (hD1.weaken (fun _ q _ h => hF q.1 h)) (fun i j x y hx hy e => (hr i x hx).2 (by rw [e]; exact hD1.2 j y hy))⟩
section ZN
variable {p : Program} {l : Launch} {e : Env} {R : Room} {s : State} {m : MethodId} {args : Array Value} {below : List Frame} {meth : Method} {c : Code} {H : Heap} {locs : List Loc} {cells slots : Nat} {Q : State → Prop}
variable {cc : ByteArray} {pc : Nat} {ls : Array Slot} {rest : List Value} {D : va_G} {A : Nat → Prop} {H0 : Heap} {cI cG : ClassId} {ad : Nat → Nat} {ids : List Nat} {M : zM} {x : Nat × va_E}
theorem zn_arr (hexec : p.tables.exec = Jvm.exec) (hb : c.code = cc) (harr : (Cond.arrayClass .int).before args s = true) (hK : va_K D vwCl [(cI, .int), (cG, .array .int)] s) (hP : va_P D vwCl (x :: zW cI cG ad ids M) H) (hD : va_D A (x :: zW cI cG ad ids M)) (hS : va_S A H0 H locs) (hA : ∀ q, H0.size ≤ q → A q) (hcl : zcl ids) (i n : Nat) (hi : i ∉ ids) (hlay : zlay i = .inr (.inr n)) {k : Int32} (hn : ¬ k < 0) (hN : k.toNatClampNeg = n) (hby : n * 4 ≤ 536870912) (hcells : cells + 1 ≤ R.cells) (hslots : slots + n ≤ R.slots) (hdg : decode cc pc = .ok (.newarray .int, 2))
    (kk : ∀ (q : Nat) (H1 : Heap), va_P D vwCl (x :: zW cI cG (adU ad i q) (ids ++ [i]) (zrow M i (fun _ => 0))) H1 → va_D A (x :: zW cI cG (adU ad i q) (ids ++ [i]) (zrow M i (fun _ => 0))) → va_S A H0 H1 locs → zcl (ids ++ [i]) →
      W p l e R s m args below meth c H1 locs (cells + 1) (slots + n) Q (F0 m (pc + 2) ls (.ref q :: rest))) : W p l e R s m args below meth c H locs cells slots Q (F0 m pc ls (.int k :: rest)) := by
  refine va_newa (atype := .int) (ty := .int) (a0 := (n, .inl (fun _ => 0))) hexec hb harr rfl hK hP hD hS hA (fun cA => vp_cell_i cA n (fun _ => 0)) hn hN hby hcells hslots hdg (fun q cA H1 hK1 hP1 hD1 hS1 => ?_)
  have e1 : s.vm.findClass ("[" ++ FieldType.int.toString) = some cA := (hK1.2 2 (cA, .int) rfl).2
  have e2 : s.vm.findClass ("[" ++ FieldType.int.toString) = some cI := (hK.2 0 (cI, .int) rfl).2
  have ec : cA = cI := Option.some.inj (e1.symm.trans e2)
  subst ec
  rw [List.cons_append, zW_snoc hcl hi hlay] at hP1 hD1
  exact kk q H1 hP1 hD1 hS1 (zcl_arr hcl hlay)
theorem zn_grid (hexec : p.tables.exec = Jvm.exec) (hb : c.code = cc) {own : String} {index : Nat} (hown : s.vm.findClass own = some m.cls) (hclink : (Cond.classLink own index ("[" ++ (FieldType.array .int).toString)).before args s = true) (hover : va_AOA .int s) (harr : (Cond.arrayClass .int).before args s = true) (hK : va_K D vwCl [(cI, .int), (cG, .array .int)] s) (hP : va_P D vwCl (x :: zW cI cG ad ids M) H) (hD : va_D A (x :: zW cI cG ad ids M)) (hS : va_S A H0 H locs) (hA : ∀ q, H0.size ≤ q → A q) (hcl : zcl ids) (g b N K : Nat) (hi : g ∉ ids) (hbi : ∀ k, k < N → b + k ∉ ids) (hgb : g < b) (hlay : zlay g = .inr (.inl (b, N, K))) (hr : ∀ k, k < N → zlay (b + k) = .inr (.inr K)) {n k : Int32} (hn : ¬ n < 0) (hk : ¬ k < 0) (hN : n.toNatClampNeg = N) (hM : k.toNatClampNeg = K) (hb1 : N * 4 ≤ 536870912) (hb2 : K * 4 ≤ 536870912) (hcells : cells + (1 + N) ≤ R.cells) (hslots : slots + (N + N * K) ≤ R.slots) (hdg : decode cc pc = .ok (.multianewarray index 2, 4))
    (kk : ∀ (q : Nat) (r : Nat → Nat) (H1 : Heap), va_P D vwCl (x :: zW cI cG (adG ad g b N q r) (ids ++ g :: List.range' b N) (zrows M b N)) H1 → va_D A (x :: zW cI cG (adG ad g b N q r) (ids ++ g :: List.range' b N) (zrows M b N)) → va_S A H0 H1 locs → zcl (ids ++ g :: List.range' b N) →
      W p l e R s m args below meth c H1 locs (cells + 1 + N) (slots + N + N * K) Q (F0 m (pc + 4) ls (.ref q :: rest))) : W p l e R s m args below meth c H locs cells slots Q (F0 m pc ls (.int k :: .int n :: rest)) := by
  have e2 : s.vm.findClass (FieldType.array .int).toString = some cI := (hK.2 0 (cI, .int) rfl).2
  have hP' : va_P D vwCl ((x :: zW cI cG ad ids M) ++ va_pl [] (fun _ => .inl (cI, 0, .inl (fun _ => 0)))) H := by rw [show va_pl [] (fun _ => (.inl (cI, 0, .inl (fun _ => 0)) : va_E)) = [] from rfl, List.append_nil]; exact hP
  have hD' : va_D A ((x :: zW cI cG ad ids M) ++ va_pl [] (fun _ => .inl (cI, 0, .inl (fun _ => 0)))) := by rw [show va_pl [] (fun _ => (.inl (cI, 0, .inl (fun _ => 0)) : va_E)) = [] from rfl, List.append_nil]; exact hD
  refine va_mna (z := (K, .inl (fun _ => 0))) hexec hb hown hclink hover harr e2 hK hP' hD' hS hA hn hk hN hM hb1 hb2 (by omega) (by decide) (by decide) hcells hslots (fun cc9 => ?_) hdg (fun q r cA H1 h1 h2 hK1 hP1 hD1 hS1 => ?_)
  · rw [vp_cell_i]
    exact arrV_new cc9 K (.int 0)
  · have e3 : s.vm.findClass ("[" ++ (FieldType.array .int).toString) = some cA := (hK1.2 2 (cA, .array .int) rfl).2
    have e4 : s.vm.findClass ("[" ++ (FieldType.array .int).toString) = some cG := (hK.2 1 (cG, .array .int) rfl).2
    have ec : cA = cG := Option.some.inj (e3.symm.trans e4)
    subst ec
    have hw : va_pl ([] ++ (List.range N).map r) (vr_up (fun _ => (.inl (cI, 0, .inl (fun _ => 0)) : va_E)) ((List.range N).map r) (.inl (cI, K, .inl (fun _ => 0)))) = (List.range N).map (fun k => (r k, .inl (cI, K, .inl (fun _ => 0)))) := by
      rw [List.nil_append, va_pl, List.map_map]
      apply List.map_congr_left
      intro k hk
      show (r k, vr_up _ _ _ (r k)) = _
      rw [vr_up_in (List.mem_map.mpr ⟨k, hk, rfl⟩)]
    rw [hw, List.cons_append, List.cons_append, zW_grid hcl hi hbi hgb hlay hr] at hP1 hD1
    exact kk q r H1 hP1 hD1 hS1 (zcl_grid hcl hlay hr)
end ZN
