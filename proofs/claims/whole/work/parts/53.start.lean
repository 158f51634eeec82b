theorem zNW_in : ∀ w ∈ zNW, w ∈ lw_tbl := by decide +kernel
theorem zlF {q0 : Nat} {D : va_G} {cI cG : ClassId} {sz : Nat} : FrameBlind (va_Pc [.ref q0] (fun U => zCPre D cI cG [(q0, (.inr (8, [.null, .null, .null, .null, .null, .null, .null, .null]) : va_E))] sz U ∧ va_Nw (.methodLinkNest RX8 64 yX0_init "PiperHouse") U)) := by
  intro a U g mk q
  obtain ⟨h0, hc, hd⟩ := q
  exact ⟨h0, (zCblind (av := [.ref q0]) a U g mk ⟨h0, hc⟩).2, va_Nw.same rfl (u := U) (U := U.calling g mk a) rfl hd⟩
theorem lw_known {s : State} {b : Nat} (hts : ∀ w ∈ zU, w.before #[Value.ref b] s = true) (hAO0 : (Cond.arrayOver (.array .int)).before #[Value.ref b] s = true) : ∃ (D : va_G) (cI cG : ClassId), va_K D vwCl [(cI, .int), (cG, .array .int)] s := by
  obtain ⟨c0, iS0, hKn0⟩ := u_known (C := RX0) (T := TX0) (N := 1) (n := 1) hts uin_0 (hts (.instantiable RX0 1) (zU_in (by decide +kernel) (by decide +kernel)))
  obtain ⟨c1, iS1, hKn1⟩ := u_known (C := RX1) (T := TX1) (N := 3) (n := 3) hts uin_1 (hts (.instantiable RX1 3) (zU_in (by decide +kernel) (by decide +kernel)))
  obtain ⟨c2, iS2, hKn2⟩ := u_known (C := RX2) (T := TX2) (N := 5) (n := 5) hts uin_2 (hts (.instantiable RX2 5) (zU_in (by decide +kernel) (by decide +kernel)))
  obtain ⟨c3, iS3, hKn3⟩ := u_known (C := RX3) (T := TX3) (N := 7) (n := 7) hts uin_3 (hts (.instantiable RX3 7) (zU_in (by decide +kernel) (by decide +kernel)))
  obtain ⟨c4, iS4, hKn4⟩ := u_known (C := RX4) (T := TX4) (N := 2) (n := 2) hts uin_4 (hts (.instantiable RX4 2) (zU_in (by decide +kernel) (by decide +kernel)))
  obtain ⟨c5, iS5, hKn5⟩ := u_known (C := RX5) (T := TX5) (N := 11) (n := 11) hts uin_5 (hts (.instantiable RX5 11) (zU_in (by decide +kernel) (by decide +kernel)))
  obtain ⟨c6, iS6, hKn6⟩ := u_known (C := RX6) (T := TX6) (N := 8) (n := 8) hts uin_6 (hts (.instantiable RX6 8) (zU_in (by decide +kernel) (by decide +kernel)))
  obtain ⟨c7, iS7, hKn7⟩ := u_known (C := RX7) (T := TX7) (N := 5) (n := 5) hts uin_7 (hts (.instantiable RX7 5) (zU_in (by decide +kernel) (by decide +kernel)))
  obtain ⟨c8, iS8, hKn8⟩ := u_known (C := RX8) (T := TX8) (N := 8) (n := 8) hts uin_8 (hts (.instantiable RX8 8) (zU_in (by decide +kernel) (by decide +kernel)))
  obtain ⟨c9, iS9, hKn9⟩ := u_known (C := RX9) (T := TX9) (N := 34) (n := 34) hts uin_9 (hts (.instantiable RX9 34) (zU_in (by decide +kernel) (by decide +kernel)))
  obtain ⟨dC, dI, hKc⟩ : ∃ (dC : Nat → ClassId) (dI : Nat → Nat → Nat), ∀ (k : Nat) (q : vw_C), vwCl[k]? = some q → u_Kn s q.1 q.2.1 q.2.2 (dC k) (dI k) := by
    refine ⟨fun k => if k = 0 then c0 else if k = 1 then c1 else if k = 2 then c2 else if k = 3 then c3 else if k = 4 then c4 else if k = 5 then c5 else if k = 6 then c6 else if k = 7 then c7 else if k = 8 then c8 else c9, fun k => if k = 0 then iS0 else if k = 1 then iS1 else if k = 2 then iS2 else if k = 3 then iS3 else if k = 4 then iS4 else if k = 5 then iS5 else if k = 6 then iS6 else if k = 7 then iS7 else if k = 8 then iS8 else iS9, ?_⟩
    intro k q hq
    match k, hq with
    | 0, hq => cases hq; exact hKn0
    | 1, hq => cases hq; exact hKn1
    | 2, hq => cases hq; exact hKn2
    | 3, hq => cases hq; exact hKn3
    | 4, hq => cases hq; exact hKn4
    | 5, hq => cases hq; exact hKn5
    | 6, hq => cases hq; exact hKn6
    | 7, hq => cases hq; exact hKn7
    | 8, hq => cases hq; exact hKn8
    | 9, hq => cases hq; exact hKn9
    | k + 10, hq => simp [vwCl] at hq
  obtain ⟨cI, kI, compI, hI1, hI2, hI3⟩ := Cond.arrayClass_spec (hts _ zwA)
  obtain ⟨compG, cG, kG, hG0, hG1, hG2, hG3⟩ := Cond.arrayOver_specA hAO0
  refine ⟨(dC, dI), cI, cG, hKc, fun k q h => ?_⟩
  match k, h with
  | 0, h => cases h; exact ⟨fun n z => ⟨(fun q hq => by cases hq), kI, hI2, compI, hI3⟩, hI1⟩
  | 1, h => cases h; exact ⟨fun n z => ⟨(fun q hq => by cases hq), kG, hG1, compG, hG2⟩, hG3⟩
  | k + 2, h => simp at h
set_option maxHeartbeats 1000000 in
set_option maxRecDepth 100000 in
theorem lw_new1 {p : Program} {l : Launch} {e : Env} {s : State} {m : MethodId} {below : List Frame} {meth : Method} {c : Code} {b : Nat} {Q : State → Prop} {D : va_G} {cI cG : ClassId} {ls : Array Slot} (hx : p.tables.exec = Jvm.exec) (hb : c.code = code) (hml : c.maxLocals = 4) (hown : s.vm.findClass R_law = some m.cls) (hts : ∀ w ∈ zU, w.before #[Value.ref b] s = true) (hN : ∀ w ∈ zNW, va_Nw w s) (hAO : va_AOA .int s) (hK : va_K D vwCl [(cI, .int), (cG, .array .int)] s) (hl : lv_has ls 4 [(0, .ref b)]) (kk : ∀ (q0 : Nat) (H : Heap), va_P D vwCl [(q0, (.inr (8, [.null, .null, .null, .null, .null, .null, .null, .null]) : va_E))] H → va_D (fun q : Nat => s.heap.size ≤ q) [(q0, (.inr (8, [.null, .null, .null, .null, .null, .null, .null, .null]) : va_E))] → va_S (fun q : Nat => s.heap.size ≤ q) s.heap H [] → W p l e room_1 s m #[Value.ref b] below meth c H [] 1 8 Q (F0 m 4 ls [.ref q0, .ref q0])) : W p l e room_1 s m #[Value.ref b] below meth c s.heap [] 0 0 Q (F0 m 0 ls []) := by
  have hS : va_S (fun q : Nat => s.heap.size ≤ q) s.heap s.heap [] := va_S.rf
  have hP : va_P D vwCl [] s.heap := fun k q h => by simp at h
  have hD : va_D (fun q : Nat => s.heap.size ≤ q) [] := ⟨fun i j p q h => by simp at h, fun k q h => by simp at h⟩
  have h1 : 0 + 1 ≤ room_1.cells := by decide
  have h2 : 0 + 8 ≤ room_1.slots := by decide
  refine va_new (ci := 8) (fs := [.null, .null, .null, .null, .null, .null, .null, .null]) (C := RX8) (T := TX8) (N := 8) hx hb hts uin_8 tyX8 tyX8_ok hown (hts (.classLink R_law 7 RX8) (zU_in (by decide +kernel) (by decide +kernel))) (hts (.instantiable RX8 8) (zU_in (by decide +kernel) (by decide +kernel))) (hts (.initialized RX8) (zU_in (by decide +kernel) (by decide +kernel))) hK hP hD hS (fun _ h => h) rfl (fun j hj => by rcases (show j = 0 ∨ j = 1 ∨ j = 2 ∨ j = 3 ∨ j = 4 ∨ j = 5 ∨ j = 6 ∨ j = 7 by omega) with rfl | rfl | rfl | rfl | rfl | rfl | rfl | rfl <;> rfl) h1 h2 dl_0 (fun q0 H hP hD hS => ?_)
  exact lv_dup hx hb dl_3 rfl (kk q0 H hP hD hS)
set_option maxHeartbeats 1000000 in
set_option maxRecDepth 100000 in
theorem lw_call1 {p : Program} {l : Launch} {e : Env} {s : State} {m : MethodId} {below : List Frame} {meth : Method} {c : Code} {b : Nat} {Q : State → Prop} {D : va_G} {cI cG : ClassId} {ls : Array Slot} {H : Heap} {q0 : Nat} (hx : p.tables.exec = Jvm.exec) (hb : c.code = code) (hml : c.maxLocals = 4) (hown : s.vm.findClass R_law = some m.cls) (hts : ∀ w ∈ zU, w.before #[Value.ref b] s = true) (hN : ∀ w ∈ zNW, va_Nw w s) (hAO : va_AOA .int s) (hK : va_K D vwCl [(cI, .int), (cG, .array .int)] s) (hDN : va_Nw (.methodLinkNest RX8 64 yX0_init "PiperHouse") s) (hl : ls.size = 4) (hP : va_P D vwCl [(q0, (.inr (8, [.null, .null, .null, .null, .null, .null, .null, .null]) : va_E))] H) (hD : va_D (fun q : Nat => s.heap.size ≤ q) [(q0, (.inr (8, [.null, .null, .null, .null, .null, .null, .null, .null]) : va_E))]) (hS : va_S (fun q : Nat => s.heap.size ≤ q) s.heap H []) (kk : ∀ (ad : Nat → Nat) (H1 : Heap) (locs1 : List Loc), ad 0 = q0 → zcl LH → va_P D vwCl (zW cI cG ad LH zM0) H1 → va_D (fun q : Nat => s.heap.size ≤ q) (zW cI cG ad LH zM0) → va_S (fun q : Nat => s.heap.size ≤ q) s.heap H1 locs1 → W p l e room_1 s m #[Value.ref b] below meth c H1 locs1 74 759 Q (F0 m 7 ls [.ref q0])) : W p l e room_1 s m #[Value.ref b] below meth c H [] 1 8 Q (F0 m 4 ls [.ref q0, .ref q0]) := by
  have hFc : ∀ q', va_A [(q0, (.inr (8, [.null, .null, .null, .null, .null, .null, .null, .null]) : va_E))] H.size q' → (fun q : Nat => s.heap.size ≤ q) q' := fun q' h => by
    rcases h with ⟨k, e9, h⟩ | h
    · exact hD.2 k _ h
    · exact Nat.le_trans hS.1 h
  have hR : (zcroom 6 73 751).frames + 1 ≤ room_1.frames ∧ 8 + (1 + 11) + (zcroom 6 73 751).locals ≤ room_1.locals := by decide
  have hf : 1 + 73 ≤ room_1.cells ∧ 8 + 751 ≤ room_1.slots := by decide
  refine va_callv (va_runI (b := q0) (As := []) (rest := [.ref q0]) ⟨hx, hb, hml, hown, hts⟩ (i_X8 l D cI cG H.size q0) (cwI (bytes := cX8_init) (maxL := 1) (ws' := zU) 0 hts (zgood okY_X8_init) rfl rfl rfl (hts _ okY_X8_init.2.2.1) (hts (.methodLink R_law 9 yX8_init) (zU_in (by decide +kernel) (by decide +kernel))) (hts (.instanceMethod yX8_init) (zU_in (by decide +kernel) (by decide +kernel))) rfl (by decide +kernel) hR) ⟨zlF, fun U hU hW => ⟨rfl, ⟨by rw [hU], by rw [hU]; exact hP, va_K.moved hW.alike hK, hD.weaken (fun _ _ _ _ => trivial), zNW_warm hW hN, zAO_al hW.alike hAO⟩, va_Nw.warmM hW hDN⟩⟩ rfl rfl hl rfl (lv_room (Nat.le_of_ble_eq_true rfl)) dl_4 hf) hS (fun q _ h => hFc q h) hFc (fun ad t H1 locs1 ht hvm hw hB hz1 hk1 hS1 => ?_)
  obtain ⟨g0, hcl⟩ := hw
  obtain ⟨hP1, hD1⟩ := hB
  rw [ht] at hP1
  obtain ⟨hP2, hD2⟩ := zjoin (r := []) (wc := [(q0, (.inr (8, [.null, .null, .null, .null, .null, .null, .null, .null]) : va_E))]) hP hD hk1 hFc hP1 hD1
  exact kk ad H1 locs1 g0 hcl hP2 hD2 hS1
set_option maxHeartbeats 1000000 in
set_option maxRecDepth 100000 in
theorem lw_new2 {p : Program} {l : Launch} {e : Env} {s : State} {m : MethodId} {below : List Frame} {meth : Method} {c : Code} {b : Nat} {Q : State → Prop} {D : va_G} {cI cG : ClassId} {ls : Array Slot} {H : Heap} {locs : List Loc} {ad : Nat → Nat} (hx : p.tables.exec = Jvm.exec) (hb : c.code = code) (hml : c.maxLocals = 4) (hown : s.vm.findClass R_law = some m.cls) (hts : ∀ w ∈ zU, w.before #[Value.ref b] s = true) (hN : ∀ w ∈ zNW, va_Nw w s) (hAO : va_AOA .int s) (hK : va_K D vwCl [(cI, .int), (cG, .array .int)] s) (hcl : zcl LH) (hP : va_P D vwCl (zW cI cG ad LH zM0) H) (hD : va_D (fun q : Nat => s.heap.size ≤ q) (zW cI cG ad LH zM0)) (hS : va_S (fun q : Nat => s.heap.size ≤ q) s.heap H locs) (kk : ∀ (q9 : Nat) (H : Heap), va_P D vwCl ((q9, (.inr (9, [.null, .null, .null, .null, .int 0, .int 0, .null, .null, .null, .null, .null, .int 0, .null, .null, .null, .null, .int 0, .null, .int 0, .int 0, .int 0, .null, .null, .null, .null, .null, .null, .null, .null, .null, .int 0, .int 0, .int 0, .null]) : va_E)) :: zW cI cG ad LH zM0) H → va_D (fun q : Nat => s.heap.size ≤ q) ((q9, (.inr (9, [.null, .null, .null, .null, .int 0, .int 0, .null, .null, .null, .null, .null, .int 0, .null, .null, .null, .null, .int 0, .null, .int 0, .int 0, .int 0, .null, .null, .null, .null, .null, .null, .null, .null, .null, .int 0, .int 0, .int 0, .null]) : va_E)) :: zW cI cG ad LH zM0) → va_S (fun q : Nat => s.heap.size ≤ q) s.heap H locs → W p l e room_1 s m #[Value.ref b] below meth c H locs 75 793 Q (F0 m 12 ls [.ref q9, .ref q9])) : W p l e room_1 s m #[Value.ref b] below meth c H locs 74 759 Q (F0 m 8 ls []) := by
  have h1 : 74 + 1 ≤ room_1.cells := by decide
  have h2 : 759 + 34 ≤ room_1.slots := by decide
  refine va_new (ci := 9) (fs := [.null, .null, .null, .null, .int 0, .int 0, .null, .null, .null, .null, .null, .int 0, .null, .null, .null, .null, .int 0, .null, .int 0, .int 0, .int 0, .null, .null, .null, .null, .null, .null, .null, .null, .null, .int 0, .int 0, .int 0, .null]) (C := RX9) (T := TX9) (N := 34) hx hb hts uin_9 tyX9 tyX9_ok hown (hts (.classLink R_law 10 RX9) (zU_in (by decide +kernel) (by decide +kernel))) (hts (.instantiable RX9 34) (zU_in (by decide +kernel) (by decide +kernel))) (hts (.initialized RX9) (zU_in (by decide +kernel) (by decide +kernel))) hK hP hD hS (fun _ h => h) rfl (fun j hj => by rcases (show j = 0 ∨ j = 1 ∨ j = 2 ∨ j = 3 ∨ j = 4 ∨ j = 5 ∨ j = 6 ∨ j = 7 ∨ j = 8 ∨ j = 9 ∨ j = 10 ∨ j = 11 ∨ j = 12 ∨ j = 13 ∨ j = 14 ∨ j = 15 ∨ j = 16 ∨ j = 17 ∨ j = 18 ∨ j = 19 ∨ j = 20 ∨ j = 21 ∨ j = 22 ∨ j = 23 ∨ j = 24 ∨ j = 25 ∨ j = 26 ∨ j = 27 ∨ j = 28 ∨ j = 29 ∨ j = 30 ∨ j = 31 ∨ j = 32 ∨ j = 33 by omega) with rfl | rfl | rfl | rfl | rfl | rfl | rfl | rfl | rfl | rfl | rfl | rfl | rfl | rfl | rfl | rfl | rfl | rfl | rfl | rfl | rfl | rfl | rfl | rfl | rfl | rfl | rfl | rfl | rfl | rfl | rfl | rfl | rfl | rfl <;> rfl) h1 h2 dl_8 (fun q9 H2 hP hD hS => ?_)
  have hP := va_P.swap (a := []) (b := zW cI cG ad LH zM0) (c := [(q9, (.inr (9, [.null, .null, .null, .null, .int 0, .int 0, .null, .null, .null, .null, .null, .int 0, .null, .null, .null, .null, .int 0, .null, .int 0, .int 0, .int 0, .null, .null, .null, .null, .null, .null, .null, .null, .null, .int 0, .int 0, .int 0, .null]) : va_E))]) hP
  have hD := va_D.swap (a := []) (b := zW cI cG ad LH zM0) (c := [(q9, (.inr (9, [.null, .null, .null, .null, .int 0, .int 0, .null, .null, .null, .null, .null, .int 0, .null, .null, .null, .null, .int 0, .null, .int 0, .int 0, .int 0, .null, .null, .null, .null, .null, .null, .null, .null, .null, .int 0, .int 0, .int 0, .null]) : va_E))]) hD
  exact lv_dup hx hb dl_11 rfl (kk q9 H2 hP hD hS)
set_option maxHeartbeats 1000000 in
set_option maxRecDepth 100000 in
theorem lw_call2 {p : Program} {l : Launch} {e : Env} {s : State} {m : MethodId} {below : List Frame} {meth : Method} {c : Code} {b : Nat} {Q : State → Prop} {D : va_G} {cI cG : ClassId} {ls : Array Slot} {H : Heap} {locs : List Loc} {q9 : Nat} {ad : Nat → Nat} (hx : p.tables.exec = Jvm.exec) (hb : c.code = code) (hml : c.maxLocals = 4) (hown : s.vm.findClass R_law = some m.cls) (hts : ∀ w ∈ zU, w.before #[Value.ref b] s = true) (hN : ∀ w ∈ zNW, va_Nw w s) (hAO : va_AOA .int s) (hK : va_K D vwCl [(cI, .int), (cG, .array .int)] s) (hl : ls.size = 4) (hcl : zcl LH) (hP : va_P D vwCl ((q9, (.inr (9, [.null, .null, .null, .null, .int 0, .int 0, .null, .null, .null, .null, .null, .int 0, .null, .null, .null, .null, .int 0, .null, .int 0, .int 0, .int 0, .null, .null, .null, .null, .null, .null, .null, .null, .null, .int 0, .int 0, .int 0, .null]) : va_E)) :: zW cI cG ad LH zM0) H) (hD : va_D (fun q : Nat => s.heap.size ≤ q) ((q9, (.inr (9, [.null, .null, .null, .null, .int 0, .int 0, .null, .null, .null, .null, .null, .int 0, .null, .null, .null, .null, .int 0, .null, .int 0, .int 0, .int 0, .null, .null, .null, .null, .null, .null, .null, .null, .null, .int 0, .int 0, .int 0, .null]) : va_E)) :: zW cI cG ad LH zM0)) (hS : va_S (fun q : Nat => s.heap.size ≤ q) s.heap H locs) (kk : ∀ (ad2 : Nat → Nat) (H1 : Heap) (locs1 : List Loc), (∀ i ∈ LH, ad2 i = ad i) → ad2 9 = q9 → zcl LA → va_P D vwCl (zW cI cG ad2 LA zM0) H1 → va_D (fun q : Nat => s.heap.size ≤ q) (zW cI cG ad2 LA zM0) → va_S (fun q : Nat => s.heap.size ≤ q) s.heap H1 locs1 → W p l e room_1 s m #[Value.ref b] below meth c H1 locs1 99 2848 Q (F0 m 15 ls [.ref q9])) : W p l e room_1 s m #[Value.ref b] below meth c H locs 75 793 Q (F0 m 12 ls [.ref q9, .ref q9]) := by
  have hR : 3 + 1 ≤ room_1.frames ∧ 8 + (Y_X9_init.2.2.1 + 11) + 33 * 3 ≤ room_1.locals := by decide
  have hf : 75 + 24 ≤ room_1.cells ∧ 793 + 2055 ≤ room_1.slots := by decide
  exact zn_call (r := []) (rest := [.ref q9]) i_X9 okY_X9_init ⟨hx, hb, hml, hown, hts⟩ rfl rfl (zU_in (by decide +kernel) (by decide +kernel)) (zU_in (by decide +kernel) (by decide +kernel)) (by decide +kernel) hts hK hN hAO hP hD hS (fun _ h => h) hcl (by decide) (by decide) (by decide) hR hf hl (Nat.le_of_ble_eq_true rfl) dl_12 (fun ad2 H3 locs3 hag e9 hcl hP hD hS => kk ad2 H3 locs3 hag e9 hcl hP hD hS)
theorem lw_facts {s : State} {b : Nat} (hts0 : ∀ w ∈ lw_tbl, w.before #[Value.ref b] s = true) : (∀ w ∈ zU, w.before #[Value.ref b] s = true) ∧ (∀ w ∈ zNW, va_Nw w s) ∧ va_Nw (.methodLinkNest RX8 64 yX0_init "PiperHouse") s ∧ va_AOA .int s ∧ (Cond.arrayOver (.array .int)).before #[Value.ref b] s = true := by
  have hAO0 := hts0 (.arrayOver (.array .int)) (by decide +kernel)
  refine ⟨fun w hw => hts0 w (List.mem_filter.mp hw).1, ?_, va_Nw.of rfl (hts0 (.methodLinkNest RX8 64 yX0_init "PiperHouse") (by decide +kernel)), ?_, hAO0⟩
  · intro w hw
    have h1 := hts0 w (zNW_in w hw)
    simp only [zNW, List.mem_cons, List.not_mem_nil, or_false] at hw
    rcases hw with rfl | rfl | rfl | rfl | rfl | rfl <;> exact va_Nw.of rfl h1
  · show (Cond.arrayOver (.array .int)).before #[] s = true
    simp only [Cond.before, Cond.holds, Cond.value] at hAO0 ⊢
    exact hAO0
set_option maxHeartbeats 1000000 in
set_option maxRecDepth 100000 in
theorem lw_begin {p : Program} {l : Launch} {e : Env} {s : State} {m : MethodId} {below : List Frame} {meth : Method} {c : Code} {b : Nat} {D : va_G} {cI cG : ClassId} {ls : Array Slot} {L : Nat} {xs : Nat → Int32} (hx : p.tables.exec = Jvm.exec) (hb : c.code = code) (hml : c.maxLocals = 4) (hown : s.vm.findClass R_law = some m.cls) (hts : ∀ w ∈ zU, w.before #[Value.ref b] s = true) (hN : ∀ w ∈ zNW, va_Nw w s) (hAO : va_AOA .int s) (hK : va_K D vwCl [(cI, .int), (cG, .array .int)] s) (hDN : va_Nw (.methodLinkNest RX8 64 yX0_init "PiperHouse") s) (hL : L ≤ 3072) (hr : meth.sig.returnType = ret) (hlocks : meth.locks = false) (hX : va_X b L xs s s.heap) (hbl : b < s.heap.size) (hl : lv_has ls 4 [(0, .ref b)]) : W p l e room_1 s m #[Value.ref b] below meth c s.heap [] 0 0 (lw_Z below #[Value.ref b] s) (F0 m 0 ls []) := by
  have hbA : ¬ (fun q : Nat => s.heap.size ≤ q) b := Nat.not_le.mpr hbl
  refine lw_new1 hx hb hml hown hts hN hAO hK hl (fun q0 H hP hD hS => ?_)
  refine lw_call1 hx hb hml hown hts hN hAO hK hDN hl.1 hP hD hS (fun ad H locs g0 hcl hP hD hS => ?_)
  refine lv_astore_n (lv' := [(1, .ref q0), (0, .ref b)]) hx hb dl_7 rfl hl (by decide) rfl (fun ls hl => ?_)
  refine lw_new2 hx hb hml hown hts hN hAO hK hcl hP hD hS (fun q9 H hP hD hS => ?_)
  refine lw_call2 hx hb hml hown hts hN hAO hK hl.1 hcl hP hD hS (fun ad2 H locs hag e9 hcl hP hD hS => ?_)
  have e0 : ad2 0 = q0 := (hag 0 (by decide)).trans g0
  refine lv_astore_n (lv' := [(2, .ref q9), (1, .ref q0), (0, .ref b)]) hx hb dl_15 rfl hl (by decide) rfl (fun ls hl => ?_)
  refine lv_iconst (v := 0) hx hb dl_16 (by decide) ?_
  refine lv_istore_n (lv' := [(3, .int 0), (2, .ref q9), (1, .ref q0), (0, .ref b)]) hx hb dl_17 rfl hl (by decide) rfl (fun ls hl => ?_)
  have Cx : zLc p s m c b L xs D cI cG (fun q => s.heap.size ≤ q) := ⟨hx, hb, hml, hown, hts, hN, hK, hcl, fun _ h => h, hX, hbl, hbA⟩
  have hl2 : lv_has ls 4 [(0, .ref b), (1, .ref (ad2 0)), (2, .ref (ad2 9)), (3, .int (nI 0))] := by
    rw [e0, e9]
    exact lv_sub hl [3, 2, 1, 0] rfl
  exact lw_loop (ad := ad2) (cells := 99) (slots := 2848) Cx hL hr hlocks (by decide) (L + 1) 0 zM0 H locs ls (by omega) (by omega) zM0_ok ⟨hP, hD, hS⟩ hl2
set_option maxHeartbeats 1000000 in
set_option maxRecDepth 100000 in
theorem whole_start {p : Program} {e : Env} {s : State} {m : MethodId} {below : List Frame} {meth : Method} {c : Code} (l : Launch) {b L : Nat} {xs : Nat → Int32} (hL : L ≤ 3072) (C0 : lw_At p s m meth c b L xs) : W p l e room_1 s m #[Value.ref b] below meth c s.heap [] 0 0 (lw_Z below #[Value.ref b] s) (entryFrame m ([Value.ref b] : List Value).toArray 4) := by
  obtain ⟨hx, hb, hr, hml, hown, hts0, hX, hbl, hlocks, hgv⟩ := C0
  obtain ⟨hts, hN, hDN, hAO, hAO0⟩ := lw_facts hts0
  obtain ⟨D, cI, cG, hK⟩ := lw_known hts hAO0
  have hl := lv_entry ([.ref b]) (n := 4) (Nat.le_of_ble_eq_true rfl)
  rw [lg_entry_eq]
  generalize (lg_sl ([.ref b]) ++ List.replicate (4 - (lg_sl ([.ref b])).length) Slot.unset).toArray = ls at hl ⊢
  exact lw_begin hx hb hml hown hts hN hAO hK hDN hL hr hlocks hX hbl hl
