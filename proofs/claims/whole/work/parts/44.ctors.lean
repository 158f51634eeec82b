def NW_X0 : List Nat := [74]
def NW_X1 : List Nat := [44]
def NW_X2 : List Nat := [10, 11, 12, 13, 14, 15, 16, 17, 18, 19, 20, 21]
def NW_X3 : List Nat := [70, 71, 72, 73]
def NW_X4 : List Nat := [37, 38, 39, 40, 41, 42, 43]
def NW_X5 : List Nat := [45, 46, 47, 48, 49, 50, 51, 52, 53, 54, 55, 56, 57, 58, 59, 60, 61, 62, 63, 64, 65, 66, 67, 68, 69]
def NW_X6 : List Nat := [25, 26, 27, 28, 29, 30, 31, 32, 33, 34, 35, 36]
def NW_X7 : List Nat := [22, 23, 24]
def NW_X9 : List Nat := [75, 76, 77, 78, 79, 80, 81, 82, 83, 84, 85, 86, 87, 88, 89, 90, 91, 92, 93, 94, 95, 96, 97, 98]
set_option maxHeartbeats 8000000 in
set_option maxRecDepth 100000 in
theorem i_X0 : zInit Y_X0_init 8 (.inr (0, [.null]) : va_E) (fun ids => 8 :: (ids ++ [74])) [74] [] 3 1 9 := by
  intro l D cI cG ad ids sz h0 hcl ho hnw hex
  simp only [List.map_cons, List.map_nil]
  refine Met.ofW (cc := cX0_init) (maxL := 1) (ret := none) (by decide) rfl ?_
  intro p e s m args below meth c s₁ B hml hv
  obtain ⟨rfl, hsz, hP, hK, hD0, hN, hAO⟩ := hv
  have hx := B.exec
  have hb := B.bytes
  have hr := B.returns
  have hts0 := atoms_spec (ws := zws Y_X0_init) B.pre
  have hts : ∀ w ∈ zU, w.before _ s = true := fun w hw => hts0 w (List.mem_cons_of_mem _ hw)
  have hown : s.vm.findClass RX0 = some m.cls := findClass_of_methodNamed B.named
  have hlocks := B.notSynchronized
  have hin : meth.name = "<init>" := (name_of_methodNamed B.named B.method).1
  subst hsz
  have hD := hD0.self (sz := s.heap.size)
  generalize hAe : va_A ((h0, (.inr (0, [.null]) : va_E)) :: zW cI cG ad ids zM0) s.heap.size = A at hD ⊢
  have hA : ∀ q : Nat, s.heap.size ≤ q → A q := fun q h => by rw [← hAe]; exact Or.inr h
  have hS : va_S A s.heap s.heap [] := va_S.rf
  have hP : va_P D vwCl ((h0, (.inr (0, [.null]) : va_E)) :: zW cI cG ad ids zM0) s.heap := hP
  have hl := lv_entry ([.ref h0]) (n := 1) (Nat.le_of_ble_eq_true rfl)
  rw [lg_entry_eq]
  generalize (lg_sl ([.ref h0]) ++ List.replicate (1 - (lg_sl ([.ref h0])).length) Slot.unset).toArray = ls at hl ⊢
  have hl : lv_has ls 1 [(0, .ref h0)] := hl
  refine lv_aload_n hx hb dX0_init_0 rfl (lv_at hl 0 rfl) ?_
  refine W.objInit hx hb hown (hts (.methodLink RX0 3 objectInit) (zU_in (by decide +kernel) (by decide +kernel))) (hts _ zwO1) (hts _ zwO2) rfl (by rw [hml]; exact hl.1) rfl dX0_init_1 (Nat.le_of_ble_eq_true rfl) (Nat.le_of_ble_eq_true rfl) ?_
  refine W.eq (g2 := F0 m 4 ls []) rfl ?_
  refine lv_aload_n hx hb dX0_init_4 rfl (lv_at hl 0 rfl) ?_
  refine lv_bipush (v := 9) hx hb dX0_init_5 (by decide) ?_
  refine zn_arr hx hb (hts _ zwA) hK hP hD hS hA hcl 74 9 (by have h9 := hnw 74 (by decide); simp [h9]) rfl (by decide) (by decide) (by decide) (Nat.le_of_ble_eq_true rfl) (Nat.le_of_ble_eq_true rfl) dX0_init_7 (fun q74 H hP hD hS hcl => ?_)
  refine va_putF (D := D) (ci := 0) (v := .ref q74) (ty := (.array .int)) (C := RX0) (T := TX0) (N := 1) hx hb hts uin_0 tyX0 tyX0_ok nmX0 hown hK hP hD hS 0 rfl rfl 0 (by decide) (hts (.fieldLink RX0 9 RX0 "tone" "[I") (zU_in (by decide +kernel) (by decide +kernel))) (fun _ h9 => h9) rfl hin rfl (by decide +kernel) rfl rfl (Nat.le_of_ble_eq_true rfl) dX0_init_9 (fun H locs hP hD hS => ?_)
  have hP : va_P D vwCl ((h0, (.inr (0, [.ref q74]) : va_E)) :: zW cI cG _ _ _) H := hP
  have hD : va_D A ((h0, (.inr (0, [.ref q74]) : va_E)) :: zW cI cG _ _ _) := hD
  have hz : zclk (8 :: (ids ++ [74])) (zlay 8) := by
    rw [lay_8]
    intro v hv
    simp only [List.mem_cons, List.not_mem_nil, or_false, false_or, Option.some.injEq, reduceCtorEq] at hv
    rcases hv with rfl
    · exact ⟨by simp, rfl⟩
  have hcl0 := hcl
  have hcl := zcl_own hcl hz
  rw [zW_own (o := 8) hcl0 (by have h9 := ho; simp [h9]) (by rw [zE_obj lay_8]; rfl)] at hP hD
  rw [zm_X0] at hP hD
  refine W.widen (k := 1) (n := 9) (Nat.le_of_ble_eq_true rfl) (Nat.le_of_ble_eq_true rfl) ?_
  exact W.vret hx hb hr (fun t ht hW => ⟨⟨_, rfl, ⟨fun i hi => (by
      have g : ∀ j, i = j → j ∈ ids := fun j q => q ▸ hi
      have g0 : i ≠ 8 := fun q => ho (g _ q)
      have gn : ∀ j ∈ NW_X0, i ≠ j := fun j hj q => hnw j hj (g _ q)
      simp only [NW_X0, List.mem_cons, List.not_mem_nil, or_false, forall_eq_or_imp, forall_eq] at gn
      simp only [adU, adG, g0, if_false]
      simp only [gn, if_false]
      first | rfl | (repeat (rw [if_neg (by omega)]))), rfl, hcl⟩, by rw [ht]; exact hP, hD⟩, hS.F ht⟩) hS.2.2 dX0_init_12
set_option maxHeartbeats 8000000 in
set_option maxRecDepth 100000 in
theorem i_X1 : zInit Y_X1_init 5 (.inr (1, [.null, .null, .int 0]) : va_E) (fun ids => 5 :: (ids ++ [44])) [44] [4] 3 1 16 := by
  intro l D cI cG ad ids sz h0 hcl ho hnw hex
  simp only [List.map_cons, List.map_nil]
  refine Met.ofW (cc := cX1_init) (maxL := 2) (ret := none) (by decide) rfl ?_
  intro p e s m args below meth c s₁ B hml hv
  obtain ⟨rfl, hsz, hP, hK, hD0, hN, hAO⟩ := hv
  have hx := B.exec
  have hb := B.bytes
  have hr := B.returns
  have hts0 := atoms_spec (ws := zws Y_X1_init) B.pre
  have hts : ∀ w ∈ zU, w.before _ s = true := fun w hw => hts0 w (List.mem_cons_of_mem _ hw)
  have hown : s.vm.findClass RX1 = some m.cls := findClass_of_methodNamed B.named
  have hlocks := B.notSynchronized
  have hin : meth.name = "<init>" := (name_of_methodNamed B.named B.method).1
  subst hsz
  have hD := hD0.self (sz := s.heap.size)
  generalize hAe : va_A ((h0, (.inr (1, [.null, .null, .int 0]) : va_E)) :: zW cI cG ad ids zM0) s.heap.size = A at hD ⊢
  have hA : ∀ q : Nat, s.heap.size ≤ q → A q := fun q h => by rw [← hAe]; exact Or.inr h
  have hS : va_S A s.heap s.heap [] := va_S.rf
  have hP : va_P D vwCl ((h0, (.inr (1, [.null, .null, .int 0]) : va_E)) :: zW cI cG ad ids zM0) s.heap := hP
  have hl := lv_entry ([.ref h0, .ref (ad 4)]) (n := 2) (Nat.le_of_ble_eq_true rfl)
  rw [lg_entry_eq]
  generalize (lg_sl ([.ref h0, .ref (ad 4)]) ++ List.replicate (2 - (lg_sl ([.ref h0, .ref (ad 4)])).length) Slot.unset).toArray = ls at hl ⊢
  have hl : lv_has ls 2 [(0, .ref h0), (1, .ref (ad 4))] := hl
  refine lv_aload_n hx hb dX1_init_0 rfl (lv_at hl 0 rfl) ?_
  refine W.objInit hx hb hown (hts (.methodLink RX1 3 objectInit) (zU_in (by decide +kernel) (by decide +kernel))) (hts _ zwO1) (hts _ zwO2) rfl (by rw [hml]; exact hl.1) rfl dX1_init_1 (Nat.le_of_ble_eq_true rfl) (Nat.le_of_ble_eq_true rfl) ?_
  refine W.eq (g2 := F0 m 4 ls []) rfl ?_
  refine lv_aload_n hx hb dX1_init_4 rfl (lv_at hl 0 rfl) ?_
  refine lv_bipush (v := 16) hx hb dX1_init_5 (by decide) ?_
  refine zn_arr hx hb (hts _ zwA) hK hP hD hS hA hcl 44 16 (by have h9 := hnw 44 (by decide); simp [h9]) rfl (by decide) (by decide) (by decide) (Nat.le_of_ble_eq_true rfl) (Nat.le_of_ble_eq_true rfl) dX1_init_7 (fun q44 H hP hD hS hcl => ?_)
  refine va_putF (D := D) (ci := 1) (v := .ref q44) (ty := (.array .int)) (C := RX1) (T := TX1) (N := 3) hx hb hts uin_1 tyX1 tyX1_ok nmX1 hown hK hP hD hS 0 rfl rfl 1 (by decide) (hts (.fieldLink RX1 9 RX1 "note" "[I") (zU_in (by decide +kernel) (by decide +kernel))) (fun _ h9 => h9) rfl hin rfl (by decide +kernel) rfl rfl (Nat.le_of_ble_eq_true rfl) dX1_init_9 (fun H locs hP hD hS => ?_)
  have hP : va_P D vwCl ((h0, (.inr (1, [.null, .ref q44, .int 0]) : va_E)) :: zW cI cG _ _ _) H := hP
  have hD : va_D A ((h0, (.inr (1, [.null, .ref q44, .int 0]) : va_E)) :: zW cI cG _ _ _) := hD
  refine lv_aload_n hx hb dX1_init_12 rfl (lv_at hl 0 rfl) ?_
  refine lv_aload_n hx hb dX1_init_13 rfl (lv_at hl 1 rfl) ?_
  refine va_putF (D := D) (ci := 1) (v := .ref (ad 4)) (ty := (.object "PiperHouse$Rules")) (C := RX1) (T := TX1) (N := 3) hx hb hts uin_1 tyX1 tyX1_ok nmX1 hown hK hP hD hS 0 rfl rfl 0 (by decide) (hts (.fieldLink RX1 15 RX1 "rules" "LPiperHouse$Rules;") (zU_in (by decide +kernel) (by decide +kernel))) (fun _ h9 => h9) rfl hin rfl (by decide +kernel) rfl rfl (Nat.le_of_ble_eq_true rfl) dX1_init_14 (fun H locs hP hD hS => ?_)
  have hP : va_P D vwCl ((h0, (.inr (1, [.ref (ad 4), .ref q44, .int 0]) : va_E)) :: zW cI cG _ _ _) H := hP
  have hD : va_D A ((h0, (.inr (1, [.ref (ad 4), .ref q44, .int 0]) : va_E)) :: zW cI cG _ _ _) := hD
  have hz : zclk (5 :: (ids ++ [44])) (zlay 5) := by
    rw [lay_5]
    intro v hv
    simp only [List.mem_cons, List.not_mem_nil, or_false, false_or, Option.some.injEq, reduceCtorEq] at hv
    rcases hv with rfl | rfl
    · show _ ∈ _; have h9 := hex 4 (by decide); simp [h9]
    · exact ⟨by simp, rfl⟩
  have hcl0 := hcl
  have hcl := zcl_own hcl hz
  rw [zW_own (o := 5) hcl0 (by have h9 := ho; simp [h9]) (by rw [zE_obj lay_5]; rfl)] at hP hD
  rw [zm_X1] at hP hD
  refine W.widen (k := 1) (n := 16) (Nat.le_of_ble_eq_true rfl) (Nat.le_of_ble_eq_true rfl) ?_
  exact W.vret hx hb hr (fun t ht hW => ⟨⟨_, rfl, ⟨fun i hi => (by
      have g : ∀ j, i = j → j ∈ ids := fun j q => q ▸ hi
      have g0 : i ≠ 5 := fun q => ho (g _ q)
      have gn : ∀ j ∈ NW_X1, i ≠ j := fun j hj q => hnw j hj (g _ q)
      simp only [NW_X1, List.mem_cons, List.not_mem_nil, or_false, forall_eq_or_imp, forall_eq] at gn
      simp only [adU, adG, g0, if_false]
      simp only [gn, if_false]
      first | rfl | (repeat (rw [if_neg (by omega)]))), rfl, hcl⟩, by rw [ht]; exact hP, hD⟩, hS.F ht⟩) hS.2.2 dX1_init_17
set_option maxHeartbeats 8000000 in
set_option maxRecDepth 100000 in
theorem i_X2 : zInit Y_X2_init 1 (.inr (2, [.null, .null, .null, .null, .int 0]) : va_E) (fun ids => 1 :: ((((ids ++ [10]) ++ 11 :: List.range' 12 8) ++ [20]) ++ [21])) [10, 11, 12, 13, 14, 15, 16, 17, 18, 19, 20, 21] [] 3 12 64 := by
  intro l D cI cG ad ids sz h0 hcl ho hnw hex
  simp only [List.map_cons, List.map_nil]
  refine Met.ofW (cc := cX2_init) (maxL := 1) (ret := none) (by decide) rfl ?_
  intro p e s m args below meth c s₁ B hml hv
  obtain ⟨rfl, hsz, hP, hK, hD0, hN, hAO⟩ := hv
  have hx := B.exec
  have hb := B.bytes
  have hr := B.returns
  have hts0 := atoms_spec (ws := zws Y_X2_init) B.pre
  have hts : ∀ w ∈ zU, w.before _ s = true := fun w hw => hts0 w (List.mem_cons_of_mem _ hw)
  have hown : s.vm.findClass RX2 = some m.cls := findClass_of_methodNamed B.named
  have hlocks := B.notSynchronized
  have hin : meth.name = "<init>" := (name_of_methodNamed B.named B.method).1
  subst hsz
  have hD := hD0.self (sz := s.heap.size)
  generalize hAe : va_A ((h0, (.inr (2, [.null, .null, .null, .null, .int 0]) : va_E)) :: zW cI cG ad ids zM0) s.heap.size = A at hD ⊢
  have hA : ∀ q : Nat, s.heap.size ≤ q → A q := fun q h => by rw [← hAe]; exact Or.inr h
  have hS : va_S A s.heap s.heap [] := va_S.rf
  have hP : va_P D vwCl ((h0, (.inr (2, [.null, .null, .null, .null, .int 0]) : va_E)) :: zW cI cG ad ids zM0) s.heap := hP
  have hl := lv_entry ([.ref h0]) (n := 1) (Nat.le_of_ble_eq_true rfl)
  rw [lg_entry_eq]
  generalize (lg_sl ([.ref h0]) ++ List.replicate (1 - (lg_sl ([.ref h0])).length) Slot.unset).toArray = ls at hl ⊢
  have hl : lv_has ls 1 [(0, .ref h0)] := hl
  refine lv_aload_n hx hb dX2_init_0 rfl (lv_at hl 0 rfl) ?_
  refine W.objInit hx hb hown (hts (.methodLink RX2 3 objectInit) (zU_in (by decide +kernel) (by decide +kernel))) (hts _ zwO1) (hts _ zwO2) rfl (by rw [hml]; exact hl.1) rfl dX2_init_1 (Nat.le_of_ble_eq_true rfl) (Nat.le_of_ble_eq_true rfl) ?_
  refine W.eq (g2 := F0 m 4 ls []) rfl ?_
  refine lv_aload_n hx hb dX2_init_4 rfl (lv_at hl 0 rfl) ?_
  refine lv_bipush (v := 8) hx hb dX2_init_5 (by decide) ?_
  refine zn_arr hx hb (hts _ zwA) hK hP hD hS hA hcl 10 8 (by have h9 := hnw 10 (by decide); simp [h9]) rfl (by decide) (by decide) (by decide) (Nat.le_of_ble_eq_true rfl) (Nat.le_of_ble_eq_true rfl) dX2_init_7 (fun q10 H hP hD hS hcl => ?_)
  refine va_putF (D := D) (ci := 2) (v := .ref q10) (ty := (.array .int)) (C := RX2) (T := TX2) (N := 5) hx hb hts uin_2 tyX2 tyX2_ok nmX2 hown hK hP hD hS 0 rfl rfl 0 (by decide) (hts (.fieldLink RX2 9 RX2 "size" "[I") (zU_in (by decide +kernel) (by decide +kernel))) (fun _ h9 => h9) rfl hin rfl (by decide +kernel) rfl rfl (Nat.le_of_ble_eq_true rfl) dX2_init_9 (fun H locs hP hD hS => ?_)
  have hP : va_P D vwCl ((h0, (.inr (2, [.ref q10, .null, .null, .null, .int 0]) : va_E)) :: zW cI cG _ _ _) H := hP
  have hD : va_D A ((h0, (.inr (2, [.ref q10, .null, .null, .null, .int 0]) : va_E)) :: zW cI cG _ _ _) := hD
  refine lv_aload_n hx hb dX2_init_12 rfl (lv_at hl 0 rfl) ?_
  refine lv_bipush (v := 8) hx hb dX2_init_13 (by decide) ?_
  refine lv_iconst (v := 4) hx hb dX2_init_15 (by decide) ?_
  refine zn_grid (index := 15) hx hb hown (hts (.classLink RX2 15 ("[" ++ (FieldType.array .int).toString)) (zU_in (by decide +kernel) (by decide +kernel))) hAO (hts _ zwA) hK hP hD hS hA hcl 11 12 8 4 (by have h9 := hnw 11 (by decide); simp [h9]) (fun k hk => by have h9 := hnw (12 + k) (by rcases (show k = 0 ∨ k = 1 ∨ k = 2 ∨ k = 3 ∨ k = 4 ∨ k = 5 ∨ k = 6 ∨ k = 7 by omega) with rfl | rfl | rfl | rfl | rfl | rfl | rfl | rfl <;> decide); simp [h9]; try omega) (by decide) rfl (fun k hk => by rcases (show k = 0 ∨ k = 1 ∨ k = 2 ∨ k = 3 ∨ k = 4 ∨ k = 5 ∨ k = 6 ∨ k = 7 by omega) with rfl | rfl | rfl | rfl | rfl | rfl | rfl | rfl <;> rfl) (by decide) (by decide) (by decide) (by decide) (by decide) (by decide) (Nat.le_of_ble_eq_true rfl) (Nat.le_of_ble_eq_true rfl) dX2_init_16 (fun q11 r11 H hP hD hS hcl => ?_)
  refine va_putF (D := D) (ci := 2) (v := .ref q11) (ty := (.array (.array .int))) (C := RX2) (T := TX2) (N := 5) hx hb hts uin_2 tyX2 tyX2_ok nmX2 hown hK hP hD hS 0 rfl rfl 1 (by decide) (hts (.fieldLink RX2 17 RX2 "grace" "[[I") (zU_in (by decide +kernel) (by decide +kernel))) (fun _ h9 => h9) rfl hin rfl (by decide +kernel) rfl rfl (Nat.le_of_ble_eq_true rfl) dX2_init_20 (fun H locs hP hD hS => ?_)
  have hP : va_P D vwCl ((h0, (.inr (2, [.ref q10, .ref q11, .null, .null, .int 0]) : va_E)) :: zW cI cG _ _ _) H := hP
  have hD : va_D A ((h0, (.inr (2, [.ref q10, .ref q11, .null, .null, .int 0]) : va_E)) :: zW cI cG _ _ _) := hD
  refine lv_aload_n hx hb dX2_init_23 rfl (lv_at hl 0 rfl) ?_
  refine lv_bipush (v := 8) hx hb dX2_init_24 (by decide) ?_
  refine zn_arr hx hb (hts _ zwA) hK hP hD hS hA hcl 20 8 (by have h9 := hnw 20 (by decide); simp [h9]) rfl (by decide) (by decide) (by decide) (Nat.le_of_ble_eq_true rfl) (Nat.le_of_ble_eq_true rfl) dX2_init_26 (fun q20 H hP hD hS hcl => ?_)
  refine va_putF (D := D) (ci := 2) (v := .ref q20) (ty := (.array .int)) (C := RX2) (T := TX2) (N := 5) hx hb hts uin_2 tyX2 tyX2_ok nmX2 hown hK hP hD hS 0 rfl rfl 2 (by decide) (hts (.fieldLink RX2 20 RX2 "from" "[I") (zU_in (by decide +kernel) (by decide +kernel))) (fun _ h9 => h9) rfl hin rfl (by decide +kernel) rfl rfl (Nat.le_of_ble_eq_true rfl) dX2_init_28 (fun H locs hP hD hS => ?_)
  have hP : va_P D vwCl ((h0, (.inr (2, [.ref q10, .ref q11, .ref q20, .null, .int 0]) : va_E)) :: zW cI cG _ _ _) H := hP
  have hD : va_D A ((h0, (.inr (2, [.ref q10, .ref q11, .ref q20, .null, .int 0]) : va_E)) :: zW cI cG _ _ _) := hD
  refine lv_aload_n hx hb dX2_init_31 rfl (lv_at hl 0 rfl) ?_
  refine lv_bipush (v := 8) hx hb dX2_init_32 (by decide) ?_
  refine zn_arr hx hb (hts _ zwA) hK hP hD hS hA hcl 21 8 (by have h9 := hnw 21 (by decide); simp [h9]) rfl (by decide) (by decide) (by decide) (Nat.le_of_ble_eq_true rfl) (Nat.le_of_ble_eq_true rfl) dX2_init_34 (fun q21 H hP hD hS hcl => ?_)
  refine va_putF (D := D) (ci := 2) (v := .ref q21) (ty := (.array .int)) (C := RX2) (T := TX2) (N := 5) hx hb hts uin_2 tyX2 tyX2_ok nmX2 hown hK hP hD hS 0 rfl rfl 3 (by decide) (hts (.fieldLink RX2 23 RX2 "to" "[I") (zU_in (by decide +kernel) (by decide +kernel))) (fun _ h9 => h9) rfl hin rfl (by decide +kernel) rfl rfl (Nat.le_of_ble_eq_true rfl) dX2_init_36 (fun H locs hP hD hS => ?_)
  have hP : va_P D vwCl ((h0, (.inr (2, [.ref q10, .ref q11, .ref q20, .ref q21, .int 0]) : va_E)) :: zW cI cG _ _ _) H := hP
  have hD : va_D A ((h0, (.inr (2, [.ref q10, .ref q11, .ref q20, .ref q21, .int 0]) : va_E)) :: zW cI cG _ _ _) := hD
  refine lv_aload_n hx hb dX2_init_39 rfl (lv_at hl 0 rfl) ?_
  refine lv_iconst (v := 1) hx hb dX2_init_40 (by decide) ?_
  refine va_put (D := D) (ci := 2) (v := .int 1) (ty := .int) (C := RX2) (T := TX2) (N := 5) hx hb hts uin_2 tyX2 tyX2_ok nmX2 hown hK hP hD hS 0 rfl rfl 4 (by decide) (hts (.fieldLink RX2 26 RX2 "beat" "I") (zU_in (by decide +kernel) (by decide +kernel))) (fun _ h9 => h9) rfl (by decide +kernel) rfl rfl (Nat.le_of_ble_eq_true rfl) dX2_init_41 (fun H locs hP hD hS => ?_)
  have hP : va_P D vwCl ((h0, (.inr (2, [.ref q10, .ref q11, .ref q20, .ref q21, .int 1]) : va_E)) :: zW cI cG _ _ _) H := hP
  have hD : va_D A ((h0, (.inr (2, [.ref q10, .ref q11, .ref q20, .ref q21, .int 1]) : va_E)) :: zW cI cG _ _ _) := hD
  have hz : zclk (1 :: ((((ids ++ [10]) ++ 11 :: List.range' 12 8) ++ [20]) ++ [21])) (zlay 1) := by
    rw [lay_1]
    intro v hv
    simp only [List.mem_cons, List.not_mem_nil, or_false, false_or, Option.some.injEq, reduceCtorEq] at hv
    rcases hv with rfl | rfl | rfl | rfl
    · exact ⟨by simp, rfl⟩
    · show _ ∈ _; simp
    · exact ⟨by simp, rfl⟩
    · exact ⟨by simp, rfl⟩
  have hcl0 := hcl
  have hcl := zcl_own hcl hz
  rw [zW_own (o := 1) hcl0 (by have h9 := ho; simp [h9]) (by rw [zE_obj lay_1]; rfl)] at hP hD
  refine zc_X2_init _ (t_X2) l D cI cG _ _ A p e s m _ below meth c _ _ _ _ H locs ls ⟨hx, hb, hml, hown, hts, hN, hK, hcl, hA⟩ ⟨hP, hD, hS⟩ ⟨lv_sub hl [0] rfl, fun v hv => ?_, fun v hv => absurd hv List.not_mem_nil⟩ ⟨Nat.le_of_ble_eq_true rfl, Nat.le_of_ble_eq_true rfl, Nat.le_of_ble_eq_true rfl, Nat.le_of_ble_eq_true rfl⟩ ?_
  · simp only [List.mem_cons, List.not_mem_nil, or_false, Option.some.injEq, reduceCtorEq] at hv
    subst hv
    exact List.mem_cons_self
  · intro H locs ls pc hB he
    refine W.widen (k := 12) (n := 64) (Nat.le_of_ble_eq_true rfl) (Nat.le_of_ble_eq_true rfl) ?_
    exact W.vret hx hb hr (fun t ht hW => ⟨⟨_, rfl, ⟨fun i hi => (by
      have g : ∀ j, i = j → j ∈ ids := fun j q => q ▸ hi
      have g0 : i ≠ 1 := fun q => ho (g _ q)
      have gn : ∀ j ∈ NW_X2, i ≠ j := fun j hj q => hnw j hj (g _ q)
      simp only [NW_X2, List.mem_cons, List.not_mem_nil, or_false, forall_eq_or_imp, forall_eq] at gn
      simp only [adU, adG, g0, if_false]
      simp only [gn, if_false]
      first | rfl | (repeat (rw [if_neg (by omega)]))), rfl, hcl⟩, by rw [ht]; exact hB.1, hB.2.1⟩, hB.2.2.F ht⟩) hB.2.2.2.2 he
set_option maxHeartbeats 8000000 in
set_option maxRecDepth 100000 in
theorem i_X3 : zInit Y_X3_init 7 (.inr (3, [.null, .null, .null, .null, .int 0, .int 0, .int 0]) : va_E) (fun ids => 7 :: ((((ids ++ [70]) ++ [71]) ++ [72]) ++ [73])) [70, 71, 72, 73] [] 3 4 24 := by
  intro l D cI cG ad ids sz h0 hcl ho hnw hex
  simp only [List.map_cons, List.map_nil]
  refine Met.ofW (cc := cX3_init) (maxL := 1) (ret := none) (by decide) rfl ?_
  intro p e s m args below meth c s₁ B hml hv
  obtain ⟨rfl, hsz, hP, hK, hD0, hN, hAO⟩ := hv
  have hx := B.exec
  have hb := B.bytes
  have hr := B.returns
  have hts0 := atoms_spec (ws := zws Y_X3_init) B.pre
  have hts : ∀ w ∈ zU, w.before _ s = true := fun w hw => hts0 w (List.mem_cons_of_mem _ hw)
  have hown : s.vm.findClass RX3 = some m.cls := findClass_of_methodNamed B.named
  have hlocks := B.notSynchronized
  have hin : meth.name = "<init>" := (name_of_methodNamed B.named B.method).1
  subst hsz
  have hD := hD0.self (sz := s.heap.size)
  generalize hAe : va_A ((h0, (.inr (3, [.null, .null, .null, .null, .int 0, .int 0, .int 0]) : va_E)) :: zW cI cG ad ids zM0) s.heap.size = A at hD ⊢
  have hA : ∀ q : Nat, s.heap.size ≤ q → A q := fun q h => by rw [← hAe]; exact Or.inr h
  have hS : va_S A s.heap s.heap [] := va_S.rf
  have hP : va_P D vwCl ((h0, (.inr (3, [.null, .null, .null, .null, .int 0, .int 0, .int 0]) : va_E)) :: zW cI cG ad ids zM0) s.heap := hP
  have hl := lv_entry ([.ref h0]) (n := 1) (Nat.le_of_ble_eq_true rfl)
  rw [lg_entry_eq]
  generalize (lg_sl ([.ref h0]) ++ List.replicate (1 - (lg_sl ([.ref h0])).length) Slot.unset).toArray = ls at hl ⊢
  have hl : lv_has ls 1 [(0, .ref h0)] := hl
  refine lv_aload_n hx hb dX3_init_0 rfl (lv_at hl 0 rfl) ?_
  refine W.objInit hx hb hown (hts (.methodLink RX3 3 objectInit) (zU_in (by decide +kernel) (by decide +kernel))) (hts _ zwO1) (hts _ zwO2) rfl (by rw [hml]; exact hl.1) rfl dX3_init_1 (Nat.le_of_ble_eq_true rfl) (Nat.le_of_ble_eq_true rfl) ?_
  refine W.eq (g2 := F0 m 4 ls []) rfl ?_
  refine lv_aload_n hx hb dX3_init_4 rfl (lv_at hl 0 rfl) ?_
  refine lv_bipush (v := 6) hx hb dX3_init_5 (by decide) ?_
  refine zn_arr hx hb (hts _ zwA) hK hP hD hS hA hcl 70 6 (by have h9 := hnw 70 (by decide); simp [h9]) rfl (by decide) (by decide) (by decide) (Nat.le_of_ble_eq_true rfl) (Nat.le_of_ble_eq_true rfl) dX3_init_7 (fun q70 H hP hD hS hcl => ?_)
  refine va_putF (D := D) (ci := 3) (v := .ref q70) (ty := (.array .int)) (C := RX3) (T := TX3) (N := 7) hx hb hts uin_3 tyX3 tyX3_ok nmX3 hown hK hP hD hS 0 rfl rfl 0 (by decide) (hts (.fieldLink RX3 9 RX3 "reed" "[I") (zU_in (by decide +kernel) (by decide +kernel))) (fun _ h9 => h9) rfl hin rfl (by decide +kernel) rfl rfl (Nat.le_of_ble_eq_true rfl) dX3_init_9 (fun H locs hP hD hS => ?_)
  have hP : va_P D vwCl ((h0, (.inr (3, [.ref q70, .null, .null, .null, .int 0, .int 0, .int 0]) : va_E)) :: zW cI cG _ _ _) H := hP
  have hD : va_D A ((h0, (.inr (3, [.ref q70, .null, .null, .null, .int 0, .int 0, .int 0]) : va_E)) :: zW cI cG _ _ _) := hD
  refine lv_aload_n hx hb dX3_init_12 rfl (lv_at hl 0 rfl) ?_
  refine lv_bipush (v := 6) hx hb dX3_init_13 (by decide) ?_
  refine zn_arr hx hb (hts _ zwA) hK hP hD hS hA hcl 71 6 (by have h9 := hnw 71 (by decide); simp [h9]) rfl (by decide) (by decide) (by decide) (Nat.le_of_ble_eq_true rfl) (Nat.le_of_ble_eq_true rfl) dX3_init_15 (fun q71 H hP hD hS hcl => ?_)
  refine va_putF (D := D) (ci := 3) (v := .ref q71) (ty := (.array .int)) (C := RX3) (T := TX3) (N := 7) hx hb hts uin_3 tyX3 tyX3_ok nmX3 hown hK hP hD hS 0 rfl rfl 1 (by decide) (hts (.fieldLink RX3 15 RX3 "rise" "[I") (zU_in (by decide +kernel) (by decide +kernel))) (fun _ h9 => h9) rfl hin rfl (by decide +kernel) rfl rfl (Nat.le_of_ble_eq_true rfl) dX3_init_17 (fun H locs hP hD hS => ?_)
  have hP : va_P D vwCl ((h0, (.inr (3, [.ref q70, .ref q71, .null, .null, .int 0, .int 0, .int 0]) : va_E)) :: zW cI cG _ _ _) H := hP
  have hD : va_D A ((h0, (.inr (3, [.ref q70, .ref q71, .null, .null, .int 0, .int 0, .int 0]) : va_E)) :: zW cI cG _ _ _) := hD
  refine lv_aload_n hx hb dX3_init_20 rfl (lv_at hl 0 rfl) ?_
  refine lv_bipush (v := 6) hx hb dX3_init_21 (by decide) ?_
  refine zn_arr hx hb (hts _ zwA) hK hP hD hS hA hcl 72 6 (by have h9 := hnw 72 (by decide); simp [h9]) rfl (by decide) (by decide) (by decide) (Nat.le_of_ble_eq_true rfl) (Nat.le_of_ble_eq_true rfl) dX3_init_23 (fun q72 H hP hD hS hcl => ?_)
  refine va_putF (D := D) (ci := 3) (v := .ref q72) (ty := (.array .int)) (C := RX3) (T := TX3) (N := 7) hx hb hts uin_3 tyX3 tyX3_ok nmX3 hown hK hP hD hS 0 rfl rfl 2 (by decide) (hts (.fieldLink RX3 18 RX3 "warm" "[I") (zU_in (by decide +kernel) (by decide +kernel))) (fun _ h9 => h9) rfl hin rfl (by decide +kernel) rfl rfl (Nat.le_of_ble_eq_true rfl) dX3_init_25 (fun H locs hP hD hS => ?_)
  have hP : va_P D vwCl ((h0, (.inr (3, [.ref q70, .ref q71, .ref q72, .null, .int 0, .int 0, .int 0]) : va_E)) :: zW cI cG _ _ _) H := hP
  have hD : va_D A ((h0, (.inr (3, [.ref q70, .ref q71, .ref q72, .null, .int 0, .int 0, .int 0]) : va_E)) :: zW cI cG _ _ _) := hD
  refine lv_aload_n hx hb dX3_init_28 rfl (lv_at hl 0 rfl) ?_
  refine lv_bipush (v := 6) hx hb dX3_init_29 (by decide) ?_
  refine zn_arr hx hb (hts _ zwA) hK hP hD hS hA hcl 73 6 (by have h9 := hnw 73 (by decide); simp [h9]) rfl (by decide) (by decide) (by decide) (Nat.le_of_ble_eq_true rfl) (Nat.le_of_ble_eq_true rfl) dX3_init_31 (fun q73 H hP hD hS hcl => ?_)
  refine va_putF (D := D) (ci := 3) (v := .ref q73) (ty := (.array .int)) (C := RX3) (T := TX3) (N := 7) hx hb hts uin_3 tyX3 tyX3_ok nmX3 hown hK hP hD hS 0 rfl rfl 3 (by decide) (hts (.fieldLink RX3 21 RX3 "comes" "[I") (zU_in (by decide +kernel) (by decide +kernel))) (fun _ h9 => h9) rfl hin rfl (by decide +kernel) rfl rfl (Nat.le_of_ble_eq_true rfl) dX3_init_33 (fun H locs hP hD hS => ?_)
  have hP : va_P D vwCl ((h0, (.inr (3, [.ref q70, .ref q71, .ref q72, .ref q73, .int 0, .int 0, .int 0]) : va_E)) :: zW cI cG _ _ _) H := hP
  have hD : va_D A ((h0, (.inr (3, [.ref q70, .ref q71, .ref q72, .ref q73, .int 0, .int 0, .int 0]) : va_E)) :: zW cI cG _ _ _) := hD
  have hz : zclk (7 :: ((((ids ++ [70]) ++ [71]) ++ [72]) ++ [73])) (zlay 7) := by
    rw [lay_7]
    intro v hv
    simp only [List.mem_cons, List.not_mem_nil, or_false, false_or, Option.some.injEq, reduceCtorEq] at hv
    rcases hv with rfl | rfl | rfl | rfl
    · exact ⟨by simp, rfl⟩
    · exact ⟨by simp, rfl⟩
    · exact ⟨by simp, rfl⟩
    · exact ⟨by simp, rfl⟩
  have hcl0 := hcl
  have hcl := zcl_own hcl hz
  rw [zW_own (o := 7) hcl0 (by have h9 := ho; simp [h9]) (by rw [zE_obj lay_7]; rfl)] at hP hD
  refine zc_X3_init _ (t_X3) l D cI cG _ _ A p e s m _ below meth c _ _ _ _ H locs ls ⟨hx, hb, hml, hown, hts, hN, hK, hcl, hA⟩ ⟨hP, hD, hS⟩ ⟨lv_sub hl [0] rfl, fun v hv => ?_, fun v hv => absurd hv List.not_mem_nil⟩ ⟨Nat.le_of_ble_eq_true rfl, Nat.le_of_ble_eq_true rfl, Nat.le_of_ble_eq_true rfl, Nat.le_of_ble_eq_true rfl⟩ ?_
  · simp only [List.mem_cons, List.not_mem_nil, or_false, Option.some.injEq, reduceCtorEq] at hv
    subst hv
    exact List.mem_cons_self
  · intro H locs ls pc hB he
    refine W.widen (k := 4) (n := 24) (Nat.le_of_ble_eq_true rfl) (Nat.le_of_ble_eq_true rfl) ?_
    exact W.vret hx hb hr (fun t ht hW => ⟨⟨_, rfl, ⟨fun i hi => (by
      have g : ∀ j, i = j → j ∈ ids := fun j q => q ▸ hi
      have g0 : i ≠ 7 := fun q => ho (g _ q)
      have gn : ∀ j ∈ NW_X3, i ≠ j := fun j hj q => hnw j hj (g _ q)
      simp only [NW_X3, List.mem_cons, List.not_mem_nil, or_false, forall_eq_or_imp, forall_eq] at gn
      simp only [adU, adG, g0, if_false]
      simp only [gn, if_false]
      first | rfl | (repeat (rw [if_neg (by omega)]))), rfl, hcl⟩, by rw [ht]; exact hB.1, hB.2.1⟩, hB.2.2.F ht⟩) hB.2.2.2.2 he
set_option maxHeartbeats 8000000 in
set_option maxRecDepth 100000 in
theorem i_X4 : zInit Y_X4_init 4 (.inr (4, [.null, .null]) : va_E) (fun ids => 4 :: ((ids ++ [37]) ++ 38 :: List.range' 39 5)) [37, 38, 39, 40, 41, 42, 43] [] 3 7 30 := by
  intro l D cI cG ad ids sz h0 hcl ho hnw hex
  simp only [List.map_cons, List.map_nil]
  refine Met.ofW (cc := cX4_init) (maxL := 2) (ret := none) (by decide) rfl ?_
  intro p e s m args below meth c s₁ B hml hv
  obtain ⟨rfl, hsz, hP, hK, hD0, hN, hAO⟩ := hv
  have hx := B.exec
  have hb := B.bytes
  have hr := B.returns
  have hts0 := atoms_spec (ws := zws Y_X4_init) B.pre
  have hts : ∀ w ∈ zU, w.before _ s = true := fun w hw => hts0 w (List.mem_cons_of_mem _ hw)
  have hown : s.vm.findClass RX4 = some m.cls := findClass_of_methodNamed B.named
  have hlocks := B.notSynchronized
  have hin : meth.name = "<init>" := (name_of_methodNamed B.named B.method).1
  subst hsz
  have hD := hD0.self (sz := s.heap.size)
  generalize hAe : va_A ((h0, (.inr (4, [.null, .null]) : va_E)) :: zW cI cG ad ids zM0) s.heap.size = A at hD ⊢
  have hA : ∀ q : Nat, s.heap.size ≤ q → A q := fun q h => by rw [← hAe]; exact Or.inr h
  have hS : va_S A s.heap s.heap [] := va_S.rf
  have hP : va_P D vwCl ((h0, (.inr (4, [.null, .null]) : va_E)) :: zW cI cG ad ids zM0) s.heap := hP
  have hl := lv_entry ([.ref h0]) (n := 2) (Nat.le_of_ble_eq_true rfl)
  rw [lg_entry_eq]
  generalize (lg_sl ([.ref h0]) ++ List.replicate (2 - (lg_sl ([.ref h0])).length) Slot.unset).toArray = ls at hl ⊢
  have hl : lv_has ls 2 [(0, .ref h0)] := hl
  refine lv_aload_n hx hb dX4_init_0 rfl (lv_at hl 0 rfl) ?_
  refine W.objInit hx hb hown (hts (.methodLink RX4 3 objectInit) (zU_in (by decide +kernel) (by decide +kernel))) (hts _ zwO1) (hts _ zwO2) rfl (by rw [hml]; exact hl.1) rfl dX4_init_1 (Nat.le_of_ble_eq_true rfl) (Nat.le_of_ble_eq_true rfl) ?_
  refine W.eq (g2 := F0 m 4 ls []) rfl ?_
  refine lv_aload_n hx hb dX4_init_4 rfl (lv_at hl 0 rfl) ?_
  refine lv_iconst (v := 5) hx hb dX4_init_5 (by decide) ?_
  refine zn_arr hx hb (hts _ zwA) hK hP hD hS hA hcl 37 5 (by have h9 := hnw 37 (by decide); simp [h9]) rfl (by decide) (by decide) (by decide) (Nat.le_of_ble_eq_true rfl) (Nat.le_of_ble_eq_true rfl) dX4_init_6 (fun q37 H hP hD hS hcl => ?_)
  refine va_putF (D := D) (ci := 4) (v := .ref q37) (ty := (.array .int)) (C := RX4) (T := TX4) (N := 2) hx hb hts uin_4 tyX4 tyX4_ok nmX4 hown hK hP hD hS 0 rfl rfl 0 (by decide) (hts (.fieldLink RX4 9 RX4 "size" "[I") (zU_in (by decide +kernel) (by decide +kernel))) (fun _ h9 => h9) rfl hin rfl (by decide +kernel) rfl rfl (Nat.le_of_ble_eq_true rfl) dX4_init_8 (fun H locs hP hD hS => ?_)
  have hP : va_P D vwCl ((h0, (.inr (4, [.ref q37, .null]) : va_E)) :: zW cI cG _ _ _) H := hP
  have hD : va_D A ((h0, (.inr (4, [.ref q37, .null]) : va_E)) :: zW cI cG _ _ _) := hD
  refine lv_aload_n hx hb dX4_init_11 rfl (lv_at hl 0 rfl) ?_
  refine lv_iconst (v := 5) hx hb dX4_init_12 (by decide) ?_
  refine lv_iconst (v := 4) hx hb dX4_init_13 (by decide) ?_
  refine zn_grid (index := 15) hx hb hown (hts (.classLink RX4 15 ("[" ++ (FieldType.array .int).toString)) (zU_in (by decide +kernel) (by decide +kernel))) hAO (hts _ zwA) hK hP hD hS hA hcl 38 39 5 4 (by have h9 := hnw 38 (by decide); simp [h9]) (fun k hk => by have h9 := hnw (39 + k) (by rcases (show k = 0 ∨ k = 1 ∨ k = 2 ∨ k = 3 ∨ k = 4 by omega) with rfl | rfl | rfl | rfl | rfl <;> decide); simp [h9]; try omega) (by decide) rfl (fun k hk => by rcases (show k = 0 ∨ k = 1 ∨ k = 2 ∨ k = 3 ∨ k = 4 by omega) with rfl | rfl | rfl | rfl | rfl <;> rfl) (by decide) (by decide) (by decide) (by decide) (by decide) (by decide) (Nat.le_of_ble_eq_true rfl) (Nat.le_of_ble_eq_true rfl) dX4_init_14 (fun q38 r38 H hP hD hS hcl => ?_)
  refine va_putF (D := D) (ci := 4) (v := .ref q38) (ty := (.array (.array .int))) (C := RX4) (T := TX4) (N := 2) hx hb hts uin_4 tyX4 tyX4_ok nmX4 hown hK hP hD hS 0 rfl rfl 1 (by decide) (hts (.fieldLink RX4 17 RX4 "part" "[[I") (zU_in (by decide +kernel) (by decide +kernel))) (fun _ h9 => h9) rfl hin rfl (by decide +kernel) rfl rfl (Nat.le_of_ble_eq_true rfl) dX4_init_18 (fun H locs hP hD hS => ?_)
  have hP : va_P D vwCl ((h0, (.inr (4, [.ref q37, .ref q38]) : va_E)) :: zW cI cG _ _ _) H := hP
  have hD : va_D A ((h0, (.inr (4, [.ref q37, .ref q38]) : va_E)) :: zW cI cG _ _ _) := hD
  have hz : zclk (4 :: ((ids ++ [37]) ++ 38 :: List.range' 39 5)) (zlay 4) := by
    rw [lay_4]
    intro v hv
    simp only [List.mem_cons, List.not_mem_nil, or_false, false_or, Option.some.injEq, reduceCtorEq] at hv
    rcases hv with rfl | rfl
    · exact ⟨by simp, rfl⟩
    · show _ ∈ _; simp
  have hcl0 := hcl
  have hcl := zcl_own hcl hz
  rw [zW_own (o := 4) hcl0 (by have h9 := ho; simp [h9]) (by rw [zE_obj lay_4]; rfl)] at hP hD
  refine zc_X4_init _ (t_X4) l D cI cG _ _ A p e s m _ below meth c _ _ _ _ H locs ls ⟨hx, hb, hml, hown, hts, hN, hK, hcl, hA⟩ ⟨hP, hD, hS⟩ ⟨lv_sub hl [0] rfl, fun v hv => ?_, fun v hv => absurd hv List.not_mem_nil⟩ ⟨Nat.le_of_ble_eq_true rfl, Nat.le_of_ble_eq_true rfl, Nat.le_of_ble_eq_true rfl, Nat.le_of_ble_eq_true rfl⟩ ?_
  · simp only [List.mem_cons, List.not_mem_nil, or_false, Option.some.injEq, reduceCtorEq] at hv
    subst hv
    exact List.mem_cons_self
  · intro H locs ls pc hB he
    refine W.widen (k := 7) (n := 30) (Nat.le_of_ble_eq_true rfl) (Nat.le_of_ble_eq_true rfl) ?_
    exact W.vret hx hb hr (fun t ht hW => ⟨⟨_, rfl, ⟨fun i hi => (by
      have g : ∀ j, i = j → j ∈ ids := fun j q => q ▸ hi
      have g0 : i ≠ 4 := fun q => ho (g _ q)
      have gn : ∀ j ∈ NW_X4, i ≠ j := fun j hj q => hnw j hj (g _ q)
      simp only [NW_X4, List.mem_cons, List.not_mem_nil, or_false, forall_eq_or_imp, forall_eq] at gn
      simp only [adU, adG, g0, if_false]
      simp only [gn, if_false]
      first | rfl | (repeat (rw [if_neg (by omega)]))), rfl, hcl⟩, by rw [ht]; exact hB.1, hB.2.1⟩, hB.2.2.F ht⟩) hB.2.2.2.2 he
set_option maxHeartbeats 8000000 in
set_option maxRecDepth 100000 in
theorem i_X5 : zInit Y_X5_init 6 (.inr (5, [.null, .null, .null, .null, .int 0, .int 0, .int 0, .null, .null, .int 0, .null]) : va_E) (fun ids => 6 :: ((((((ids ++ [45]) ++ [46]) ++ 47 :: List.range' 48 3) ++ 51 :: List.range' 52 16) ++ [68]) ++ [69])) [45, 46, 47, 48, 49, 50, 51, 52, 53, 54, 55, 56, 57, 58, 59, 60, 61, 62, 63, 64, 65, 66, 67, 68, 69] [4] 3 25 393 := by
  intro l D cI cG ad ids sz h0 hcl ho hnw hex
  simp only [List.map_cons, List.map_nil]
  refine Met.ofW (cc := cX5_init) (maxL := 2) (ret := none) (by decide) rfl ?_
  intro p e s m args below meth c s₁ B hml hv
  obtain ⟨rfl, hsz, hP, hK, hD0, hN, hAO⟩ := hv
  have hx := B.exec
  have hb := B.bytes
  have hr := B.returns
  have hts0 := atoms_spec (ws := zws Y_X5_init) B.pre
  have hts : ∀ w ∈ zU, w.before _ s = true := fun w hw => hts0 w (List.mem_cons_of_mem _ hw)
  have hown : s.vm.findClass RX5 = some m.cls := findClass_of_methodNamed B.named
  have hlocks := B.notSynchronized
  have hin : meth.name = "<init>" := (name_of_methodNamed B.named B.method).1
  subst hsz
  have hD := hD0.self (sz := s.heap.size)
  generalize hAe : va_A ((h0, (.inr (5, [.null, .null, .null, .null, .int 0, .int 0, .int 0, .null, .null, .int 0, .null]) : va_E)) :: zW cI cG ad ids zM0) s.heap.size = A at hD ⊢
  have hA : ∀ q : Nat, s.heap.size ≤ q → A q := fun q h => by rw [← hAe]; exact Or.inr h
  have hS : va_S A s.heap s.heap [] := va_S.rf
  have hP : va_P D vwCl ((h0, (.inr (5, [.null, .null, .null, .null, .int 0, .int 0, .int 0, .null, .null, .int 0, .null]) : va_E)) :: zW cI cG ad ids zM0) s.heap := hP
  have hl := lv_entry ([.ref h0, .ref (ad 4)]) (n := 2) (Nat.le_of_ble_eq_true rfl)
  rw [lg_entry_eq]
  generalize (lg_sl ([.ref h0, .ref (ad 4)]) ++ List.replicate (2 - (lg_sl ([.ref h0, .ref (ad 4)])).length) Slot.unset).toArray = ls at hl ⊢
  have hl : lv_has ls 2 [(0, .ref h0), (1, .ref (ad 4))] := hl
  refine lv_aload_n hx hb dX5_init_0 rfl (lv_at hl 0 rfl) ?_
  refine W.objInit hx hb hown (hts (.methodLink RX5 3 objectInit) (zU_in (by decide +kernel) (by decide +kernel))) (hts _ zwO1) (hts _ zwO2) rfl (by rw [hml]; exact hl.1) rfl dX5_init_1 (Nat.le_of_ble_eq_true rfl) (Nat.le_of_ble_eq_true rfl) ?_
  refine W.eq (g2 := F0 m 4 ls []) rfl ?_
  refine lv_aload_n hx hb dX5_init_4 rfl (lv_at hl 0 rfl) ?_
  refine lv_iconst (v := 3) hx hb dX5_init_5 (by decide) ?_
  refine zn_arr hx hb (hts _ zwA) hK hP hD hS hA hcl 45 3 (by have h9 := hnw 45 (by decide); simp [h9]) rfl (by decide) (by decide) (by decide) (Nat.le_of_ble_eq_true rfl) (Nat.le_of_ble_eq_true rfl) dX5_init_6 (fun q45 H hP hD hS hcl => ?_)
  refine va_putF (D := D) (ci := 5) (v := .ref q45) (ty := (.array .int)) (C := RX5) (T := TX5) (N := 11) hx hb hts uin_5 tyX5 tyX5_ok nmX5 hown hK hP hD hS 0 rfl rfl 1 (by decide) (hts (.fieldLink RX5 9 RX5 "rule" "[I") (zU_in (by decide +kernel) (by decide +kernel))) (fun _ h9 => h9) rfl hin rfl (by decide +kernel) rfl rfl (Nat.le_of_ble_eq_true rfl) dX5_init_8 (fun H locs hP hD hS => ?_)
  have hP : va_P D vwCl ((h0, (.inr (5, [.null, .ref q45, .null, .null, .int 0, .int 0, .int 0, .null, .null, .int 0, .null]) : va_E)) :: zW cI cG _ _ _) H := hP
  have hD : va_D A ((h0, (.inr (5, [.null, .ref q45, .null, .null, .int 0, .int 0, .int 0, .null, .null, .int 0, .null]) : va_E)) :: zW cI cG _ _ _) := hD
  refine lv_aload_n hx hb dX5_init_11 rfl (lv_at hl 0 rfl) ?_
  refine lv_iconst (v := 3) hx hb dX5_init_12 (by decide) ?_
  refine zn_arr hx hb (hts _ zwA) hK hP hD hS hA hcl 46 3 (by have h9 := hnw 46 (by decide); simp [h9]) rfl (by decide) (by decide) (by decide) (Nat.le_of_ble_eq_true rfl) (Nat.le_of_ble_eq_true rfl) dX5_init_13 (fun q46 H hP hD hS hcl => ?_)
  refine va_putF (D := D) (ci := 5) (v := .ref q46) (ty := (.array .int)) (C := RX5) (T := TX5) (N := 11) hx hb hts uin_5 tyX5 tyX5_ok nmX5 hown hK hP hD hS 0 rfl rfl 2 (by decide) (hts (.fieldLink RX5 15 RX5 "cellCount" "[I") (zU_in (by decide +kernel) (by decide +kernel))) (fun _ h9 => h9) rfl hin rfl (by decide +kernel) rfl rfl (Nat.le_of_ble_eq_true rfl) dX5_init_15 (fun H locs hP hD hS => ?_)
  have hP : va_P D vwCl ((h0, (.inr (5, [.null, .ref q45, .ref q46, .null, .int 0, .int 0, .int 0, .null, .null, .int 0, .null]) : va_E)) :: zW cI cG _ _ _) H := hP
  have hD : va_D A ((h0, (.inr (5, [.null, .ref q45, .ref q46, .null, .int 0, .int 0, .int 0, .null, .null, .int 0, .null]) : va_E)) :: zW cI cG _ _ _) := hD
  refine lv_aload_n hx hb dX5_init_18 rfl (lv_at hl 0 rfl) ?_
  refine lv_iconst (v := 3) hx hb dX5_init_19 (by decide) ?_
  refine lv_bipush (v := 64) hx hb dX5_init_20 (by decide) ?_
  refine zn_grid (index := 18) hx hb hown (hts (.classLink RX5 18 ("[" ++ (FieldType.array .int).toString)) (zU_in (by decide +kernel) (by decide +kernel))) hAO (hts _ zwA) hK hP hD hS hA hcl 47 48 3 64 (by have h9 := hnw 47 (by decide); simp [h9]) (fun k hk => by have h9 := hnw (48 + k) (by rcases (show k = 0 ∨ k = 1 ∨ k = 2 by omega) with rfl | rfl | rfl <;> decide); simp [h9]; try omega) (by decide) rfl (fun k hk => by rcases (show k = 0 ∨ k = 1 ∨ k = 2 by omega) with rfl | rfl | rfl <;> rfl) (by decide) (by decide) (by decide) (by decide) (by decide) (by decide) (Nat.le_of_ble_eq_true rfl) (Nat.le_of_ble_eq_true rfl) dX5_init_22 (fun q47 r47 H hP hD hS hcl => ?_)
  refine va_putF (D := D) (ci := 5) (v := .ref q47) (ty := (.array (.array .int))) (C := RX5) (T := TX5) (N := 11) hx hb hts uin_5 tyX5 tyX5_ok nmX5 hown hK hP hD hS 0 rfl rfl 3 (by decide) (hts (.fieldLink RX5 20 RX5 "told" "[[I") (zU_in (by decide +kernel) (by decide +kernel))) (fun _ h9 => h9) rfl hin rfl (by decide +kernel) rfl rfl (Nat.le_of_ble_eq_true rfl) dX5_init_26 (fun H locs hP hD hS => ?_)
  have hP : va_P D vwCl ((h0, (.inr (5, [.null, .ref q45, .ref q46, .ref q47, .int 0, .int 0, .int 0, .null, .null, .int 0, .null]) : va_E)) :: zW cI cG _ _ _) H := hP
  have hD : va_D A ((h0, (.inr (5, [.null, .ref q45, .ref q46, .ref q47, .int 0, .int 0, .int 0, .null, .null, .int 0, .null]) : va_E)) :: zW cI cG _ _ _) := hD
  refine lv_aload_n hx hb dX5_init_29 rfl (lv_at hl 0 rfl) ?_
  refine lv_bipush (v := 16) hx hb dX5_init_30 (by decide) ?_
  refine lv_bipush (v := 9) hx hb dX5_init_32 (by decide) ?_
  refine zn_grid (index := 18) hx hb hown (hts (.classLink RX5 18 ("[" ++ (FieldType.array .int).toString)) (zU_in (by decide +kernel) (by decide +kernel))) hAO (hts _ zwA) hK hP hD hS hA hcl 51 52 16 9 (by have h9 := hnw 51 (by decide); simp [h9]) (fun k hk => by have h9 := hnw (52 + k) (by rcases (show k = 0 ∨ k = 1 ∨ k = 2 ∨ k = 3 ∨ k = 4 ∨ k = 5 ∨ k = 6 ∨ k = 7 ∨ k = 8 ∨ k = 9 ∨ k = 10 ∨ k = 11 ∨ k = 12 ∨ k = 13 ∨ k = 14 ∨ k = 15 by omega) with rfl | rfl | rfl | rfl | rfl | rfl | rfl | rfl | rfl | rfl | rfl | rfl | rfl | rfl | rfl | rfl <;> decide); simp [h9]; try omega) (by decide) rfl (fun k hk => by rcases (show k = 0 ∨ k = 1 ∨ k = 2 ∨ k = 3 ∨ k = 4 ∨ k = 5 ∨ k = 6 ∨ k = 7 ∨ k = 8 ∨ k = 9 ∨ k = 10 ∨ k = 11 ∨ k = 12 ∨ k = 13 ∨ k = 14 ∨ k = 15 by omega) with rfl | rfl | rfl | rfl | rfl | rfl | rfl | rfl | rfl | rfl | rfl | rfl | rfl | rfl | rfl | rfl <;> rfl) (by decide) (by decide) (by decide) (by decide) (by decide) (by decide) (Nat.le_of_ble_eq_true rfl) (Nat.le_of_ble_eq_true rfl) dX5_init_34 (fun q51 r51 H hP hD hS hcl => ?_)
  refine va_putF (D := D) (ci := 5) (v := .ref q51) (ty := (.array (.array .int))) (C := RX5) (T := TX5) (N := 11) hx hb hts uin_5 tyX5 tyX5_ok nmX5 hown hK hP hD hS 0 rfl rfl 7 (by decide) (hts (.fieldLink RX5 23 RX5 "votes" "[[I") (zU_in (by decide +kernel) (by decide +kernel))) (fun _ h9 => h9) rfl hin rfl (by decide +kernel) rfl rfl (Nat.le_of_ble_eq_true rfl) dX5_init_38 (fun H locs hP hD hS => ?_)
  have hP : va_P D vwCl ((h0, (.inr (5, [.null, .ref q45, .ref q46, .ref q47, .int 0, .int 0, .int 0, .ref q51, .null, .int 0, .null]) : va_E)) :: zW cI cG _ _ _) H := hP
  have hD : va_D A ((h0, (.inr (5, [.null, .ref q45, .ref q46, .ref q47, .int 0, .int 0, .int 0, .ref q51, .null, .int 0, .null]) : va_E)) :: zW cI cG _ _ _) := hD
  refine lv_aload_n hx hb dX5_init_41 rfl (lv_at hl 0 rfl) ?_
  refine lv_bipush (v := 16) hx hb dX5_init_42 (by decide) ?_
  refine zn_arr hx hb (hts _ zwA) hK hP hD hS hA hcl 68 16 (by have h9 := hnw 68 (by decide); simp [h9]) rfl (by decide) (by decide) (by decide) (Nat.le_of_ble_eq_true rfl) (Nat.le_of_ble_eq_true rfl) dX5_init_44 (fun q68 H hP hD hS hcl => ?_)
  refine va_putF (D := D) (ci := 5) (v := .ref q68) (ty := (.array .int)) (C := RX5) (T := TX5) (N := 11) hx hb hts uin_5 tyX5 tyX5_ok nmX5 hown hK hP hD hS 0 rfl rfl 8 (by decide) (hts (.fieldLink RX5 26 RX5 "voters" "[I") (zU_in (by decide +kernel) (by decide +kernel))) (fun _ h9 => h9) rfl hin rfl (by decide +kernel) rfl rfl (Nat.le_of_ble_eq_true rfl) dX5_init_46 (fun H locs hP hD hS => ?_)
  have hP : va_P D vwCl ((h0, (.inr (5, [.null, .ref q45, .ref q46, .ref q47, .int 0, .int 0, .int 0, .ref q51, .ref q68, .int 0, .null]) : va_E)) :: zW cI cG _ _ _) H := hP
  have hD : va_D A ((h0, (.inr (5, [.null, .ref q45, .ref q46, .ref q47, .int 0, .int 0, .int 0, .ref q51, .ref q68, .int 0, .null]) : va_E)) :: zW cI cG _ _ _) := hD
  refine lv_aload_n hx hb dX5_init_49 rfl (lv_at hl 0 rfl) ?_
  refine lv_bipush (v := 16) hx hb dX5_init_50 (by decide) ?_
  refine zn_arr hx hb (hts _ zwA) hK hP hD hS hA hcl 69 16 (by have h9 := hnw 69 (by decide); simp [h9]) rfl (by decide) (by decide) (by decide) (Nat.le_of_ble_eq_true rfl) (Nat.le_of_ble_eq_true rfl) dX5_init_52 (fun q69 H hP hD hS hcl => ?_)
  refine va_putF (D := D) (ci := 5) (v := .ref q69) (ty := (.array .int)) (C := RX5) (T := TX5) (N := 11) hx hb hts uin_5 tyX5 tyX5_ok nmX5 hown hK hP hD hS 0 rfl rfl 10 (by decide) (hts (.fieldLink RX5 29 RX5 "chosen" "[I") (zU_in (by decide +kernel) (by decide +kernel))) (fun _ h9 => h9) rfl hin rfl (by decide +kernel) rfl rfl (Nat.le_of_ble_eq_true rfl) dX5_init_54 (fun H locs hP hD hS => ?_)
  have hP : va_P D vwCl ((h0, (.inr (5, [.null, .ref q45, .ref q46, .ref q47, .int 0, .int 0, .int 0, .ref q51, .ref q68, .int 0, .ref q69]) : va_E)) :: zW cI cG _ _ _) H := hP
  have hD : va_D A ((h0, (.inr (5, [.null, .ref q45, .ref q46, .ref q47, .int 0, .int 0, .int 0, .ref q51, .ref q68, .int 0, .ref q69]) : va_E)) :: zW cI cG _ _ _) := hD
  refine lv_aload_n hx hb dX5_init_57 rfl (lv_at hl 0 rfl) ?_
  refine lv_aload_n hx hb dX5_init_58 rfl (lv_at hl 1 rfl) ?_
  refine va_putF (D := D) (ci := 5) (v := .ref (ad 4)) (ty := (.object "PiperHouse$Rules")) (C := RX5) (T := TX5) (N := 11) hx hb hts uin_5 tyX5 tyX5_ok nmX5 hown hK hP hD hS 0 rfl rfl 0 (by decide) (hts (.fieldLink RX5 32 RX5 "rules" "LPiperHouse$Rules;") (zU_in (by decide +kernel) (by decide +kernel))) (fun _ h9 => h9) rfl hin rfl (by decide +kernel) rfl rfl (Nat.le_of_ble_eq_true rfl) dX5_init_59 (fun H locs hP hD hS => ?_)
  have hP : va_P D vwCl ((h0, (.inr (5, [.ref (ad 4), .ref q45, .ref q46, .ref q47, .int 0, .int 0, .int 0, .ref q51, .ref q68, .int 0, .ref q69]) : va_E)) :: zW cI cG _ _ _) H := hP
  have hD : va_D A ((h0, (.inr (5, [.ref (ad 4), .ref q45, .ref q46, .ref q47, .int 0, .int 0, .int 0, .ref q51, .ref q68, .int 0, .ref q69]) : va_E)) :: zW cI cG _ _ _) := hD
  have hz : zclk (6 :: ((((((ids ++ [45]) ++ [46]) ++ 47 :: List.range' 48 3) ++ 51 :: List.range' 52 16) ++ [68]) ++ [69])) (zlay 6) := by
    rw [lay_6]
    intro v hv
    simp only [List.mem_cons, List.not_mem_nil, or_false, false_or, Option.some.injEq, reduceCtorEq] at hv
    rcases hv with rfl | rfl | rfl | rfl | rfl | rfl | rfl
    · show _ ∈ _; have h9 := hex 4 (by decide); simp [h9]
    · exact ⟨by simp, rfl⟩
    · exact ⟨by simp, rfl⟩
    · show _ ∈ _; simp
    · show _ ∈ _; simp
    · exact ⟨by simp, rfl⟩
    · exact ⟨by simp, rfl⟩
  have hcl0 := hcl
  have hcl := zcl_own hcl hz
  rw [zW_own (o := 6) hcl0 (by have h9 := ho; simp [h9]) (by rw [zE_obj lay_6]; rfl)] at hP hD
  rw [zm_X5] at hP hD
  refine W.widen (k := 25) (n := 393) (Nat.le_of_ble_eq_true rfl) (Nat.le_of_ble_eq_true rfl) ?_
  exact W.vret hx hb hr (fun t ht hW => ⟨⟨_, rfl, ⟨fun i hi => (by
      have g : ∀ j, i = j → j ∈ ids := fun j q => q ▸ hi
      have g0 : i ≠ 6 := fun q => ho (g _ q)
      have gn : ∀ j ∈ NW_X5, i ≠ j := fun j hj q => hnw j hj (g _ q)
      simp only [NW_X5, List.mem_cons, List.not_mem_nil, or_false, forall_eq_or_imp, forall_eq] at gn
      simp only [adU, adG, g0, if_false]
      simp only [gn, if_false]
      first | rfl | (repeat (rw [if_neg (by omega)]))), rfl, hcl⟩, by rw [ht]; exact hP, hD⟩, hS.F ht⟩) hS.2.2 dX5_init_62
set_option maxHeartbeats 8000000 in
set_option maxRecDepth 100000 in
theorem i_X6 : zInit Y_X6_init 3 (.inr (6, [.null, .null, .null, .null, .int 0, .null, .null, .null]) : va_E) (fun ids => 3 :: ((((((ids ++ 25 :: List.range' 26 3) ++ 29 :: List.range' 30 3) ++ [33]) ++ [34]) ++ [35]) ++ [36])) [25, 26, 27, 28, 29, 30, 31, 32, 33, 34, 35, 36] [1] 3 12 101 := by
  intro l D cI cG ad ids sz h0 hcl ho hnw hex
  simp only [List.map_cons, List.map_nil]
  refine Met.ofW (cc := cX6_init) (maxL := 4) (ret := none) (by decide) rfl ?_
  intro p e s m args below meth c s₁ B hml hv
  obtain ⟨rfl, hsz, hP, hK, hD0, hN, hAO⟩ := hv
  have hx := B.exec
  have hb := B.bytes
  have hr := B.returns
  have hts0 := atoms_spec (ws := zws Y_X6_init) B.pre
  have hts : ∀ w ∈ zU, w.before _ s = true := fun w hw => hts0 w (List.mem_cons_of_mem _ hw)
  have hown : s.vm.findClass RX6 = some m.cls := findClass_of_methodNamed B.named
  have hlocks := B.notSynchronized
  have hin : meth.name = "<init>" := (name_of_methodNamed B.named B.method).1
  subst hsz
  have hD := hD0.self (sz := s.heap.size)
  generalize hAe : va_A ((h0, (.inr (6, [.null, .null, .null, .null, .int 0, .null, .null, .null]) : va_E)) :: zW cI cG ad ids zM0) s.heap.size = A at hD ⊢
  have hA : ∀ q : Nat, s.heap.size ≤ q → A q := fun q h => by rw [← hAe]; exact Or.inr h
  have hS : va_S A s.heap s.heap [] := va_S.rf
  have hP : va_P D vwCl ((h0, (.inr (6, [.null, .null, .null, .null, .int 0, .null, .null, .null]) : va_E)) :: zW cI cG ad ids zM0) s.heap := hP
  have hl := lv_entry ([.ref h0, .ref (ad 1)]) (n := 4) (Nat.le_of_ble_eq_true rfl)
  rw [lg_entry_eq]
  generalize (lg_sl ([.ref h0, .ref (ad 1)]) ++ List.replicate (4 - (lg_sl ([.ref h0, .ref (ad 1)])).length) Slot.unset).toArray = ls at hl ⊢
  have hl : lv_has ls 4 [(0, .ref h0), (1, .ref (ad 1))] := hl
  refine lv_aload_n hx hb dX6_init_0 rfl (lv_at hl 0 rfl) ?_
  refine W.objInit hx hb hown (hts (.methodLink RX6 3 objectInit) (zU_in (by decide +kernel) (by decide +kernel))) (hts _ zwO1) (hts _ zwO2) rfl (by rw [hml]; exact hl.1) rfl dX6_init_1 (Nat.le_of_ble_eq_true rfl) (Nat.le_of_ble_eq_true rfl) ?_
  refine W.eq (g2 := F0 m 4 ls []) rfl ?_
  refine lv_aload_n hx hb dX6_init_4 rfl (lv_at hl 0 rfl) ?_
  refine lv_iconst (v := 3) hx hb dX6_init_5 (by decide) ?_
  refine lv_bipush (v := 8) hx hb dX6_init_6 (by decide) ?_
  refine zn_grid (index := 9) hx hb hown (hts (.classLink RX6 9 ("[" ++ (FieldType.array .int).toString)) (zU_in (by decide +kernel) (by decide +kernel))) hAO (hts _ zwA) hK hP hD hS hA hcl 25 26 3 8 (by have h9 := hnw 25 (by decide); simp [h9]) (fun k hk => by have h9 := hnw (26 + k) (by rcases (show k = 0 ∨ k = 1 ∨ k = 2 by omega) with rfl | rfl | rfl <;> decide); simp [h9]; try omega) (by decide) rfl (fun k hk => by rcases (show k = 0 ∨ k = 1 ∨ k = 2 by omega) with rfl | rfl | rfl <;> rfl) (by decide) (by decide) (by decide) (by decide) (by decide) (by decide) (Nat.le_of_ble_eq_true rfl) (Nat.le_of_ble_eq_true rfl) dX6_init_8 (fun q25 r25 H hP hD hS hcl => ?_)
  refine va_putF (D := D) (ci := 6) (v := .ref q25) (ty := (.array (.array .int))) (C := RX6) (T := TX6) (N := 8) hx hb hts uin_6 tyX6 tyX6_ok nmX6 hown hK hP hD hS 0 rfl rfl 1 (by decide) (hts (.fieldLink RX6 11 RX6 "head" "[[I") (zU_in (by decide +kernel) (by decide +kernel))) (fun _ h9 => h9) rfl hin rfl (by decide +kernel) rfl rfl (Nat.le_of_ble_eq_true rfl) dX6_init_12 (fun H locs hP hD hS => ?_)
  have hP : va_P D vwCl ((h0, (.inr (6, [.null, .ref q25, .null, .null, .int 0, .null, .null, .null]) : va_E)) :: zW cI cG _ _ _) H := hP
  have hD : va_D A ((h0, (.inr (6, [.null, .ref q25, .null, .null, .int 0, .null, .null, .null]) : va_E)) :: zW cI cG _ _ _) := hD
  refine lv_aload_n hx hb dX6_init_15 rfl (lv_at hl 0 rfl) ?_
  refine lv_iconst (v := 3) hx hb dX6_init_16 (by decide) ?_
  refine lv_bipush (v := 9) hx hb dX6_init_17 (by decide) ?_
  refine zn_grid (index := 9) hx hb hown (hts (.classLink RX6 9 ("[" ++ (FieldType.array .int).toString)) (zU_in (by decide +kernel) (by decide +kernel))) hAO (hts _ zwA) hK hP hD hS hA hcl 29 30 3 9 (by have h9 := hnw 29 (by decide); simp [h9]) (fun k hk => by have h9 := hnw (30 + k) (by rcases (show k = 0 ∨ k = 1 ∨ k = 2 by omega) with rfl | rfl | rfl <;> decide); simp [h9]; try omega) (by decide) rfl (fun k hk => by rcases (show k = 0 ∨ k = 1 ∨ k = 2 by omega) with rfl | rfl | rfl <;> rfl) (by decide) (by decide) (by decide) (by decide) (by decide) (by decide) (Nat.le_of_ble_eq_true rfl) (Nat.le_of_ble_eq_true rfl) dX6_init_19 (fun q29 r29 H hP hD hS hcl => ?_)
  refine va_putF (D := D) (ci := 6) (v := .ref q29) (ty := (.array (.array .int))) (C := RX6) (T := TX6) (N := 8) hx hb hts uin_6 tyX6 tyX6_ok nmX6 hown hK hP hD hS 0 rfl rfl 2 (by decide) (hts (.fieldLink RX6 16 RX6 "tail" "[[I") (zU_in (by decide +kernel) (by decide +kernel))) (fun _ h9 => h9) rfl hin rfl (by decide +kernel) rfl rfl (Nat.le_of_ble_eq_true rfl) dX6_init_23 (fun H locs hP hD hS => ?_)
  have hP : va_P D vwCl ((h0, (.inr (6, [.null, .ref q25, .ref q29, .null, .int 0, .null, .null, .null]) : va_E)) :: zW cI cG _ _ _) H := hP
  have hD : va_D A ((h0, (.inr (6, [.null, .ref q25, .ref q29, .null, .int 0, .null, .null, .null]) : va_E)) :: zW cI cG _ _ _) := hD
  refine lv_aload_n hx hb dX6_init_26 rfl (lv_at hl 0 rfl) ?_
  refine lv_bipush (v := 12) hx hb dX6_init_27 (by decide) ?_
  refine zn_arr hx hb (hts _ zwA) hK hP hD hS hA hcl 33 12 (by have h9 := hnw 33 (by decide); simp [h9]) rfl (by decide) (by decide) (by decide) (Nat.le_of_ble_eq_true rfl) (Nat.le_of_ble_eq_true rfl) dX6_init_29 (fun q33 H hP hD hS hcl => ?_)
  refine va_putF (D := D) (ci := 6) (v := .ref q33) (ty := (.array .int)) (C := RX6) (T := TX6) (N := 8) hx hb hts uin_6 tyX6 tyX6_ok nmX6 hown hK hP hD hS 0 rfl rfl 3 (by decide) (hts (.fieldLink RX6 19 RX6 "heard" "[I") (zU_in (by decide +kernel) (by decide +kernel))) (fun _ h9 => h9) rfl hin rfl (by decide +kernel) rfl rfl (Nat.le_of_ble_eq_true rfl) dX6_init_31 (fun H locs hP hD hS => ?_)
  have hP : va_P D vwCl ((h0, (.inr (6, [.null, .ref q25, .ref q29, .ref q33, .int 0, .null, .null, .null]) : va_E)) :: zW cI cG _ _ _) H := hP
  have hD : va_D A ((h0, (.inr (6, [.null, .ref q25, .ref q29, .ref q33, .int 0, .null, .null, .null]) : va_E)) :: zW cI cG _ _ _) := hD
  refine lv_aload_n hx hb dX6_init_34 rfl (lv_at hl 0 rfl) ?_
  refine lv_bipush (v := 10) hx hb dX6_init_35 (by decide) ?_
  refine zn_arr hx hb (hts _ zwA) hK hP hD hS hA hcl 34 10 (by have h9 := hnw 34 (by decide); simp [h9]) rfl (by decide) (by decide) (by decide) (Nat.le_of_ble_eq_true rfl) (Nat.le_of_ble_eq_true rfl) dX6_init_37 (fun q34 H hP hD hS hcl => ?_)
  refine va_putF (D := D) (ci := 6) (v := .ref q34) (ty := (.array .int)) (C := RX6) (T := TX6) (N := 8) hx hb hts uin_6 tyX6 tyX6_ok nmX6 hown hK hP hD hS 0 rfl rfl 5 (by decide) (hts (.fieldLink RX6 23 RX6 "rowsTo" "[I") (zU_in (by decide +kernel) (by decide +kernel))) (fun _ h9 => h9) rfl hin rfl (by decide +kernel) rfl rfl (Nat.le_of_ble_eq_true rfl) dX6_init_39 (fun H locs hP hD hS => ?_)
  have hP : va_P D vwCl ((h0, (.inr (6, [.null, .ref q25, .ref q29, .ref q33, .int 0, .ref q34, .null, .null]) : va_E)) :: zW cI cG _ _ _) H := hP
  have hD : va_D A ((h0, (.inr (6, [.null, .ref q25, .ref q29, .ref q33, .int 0, .ref q34, .null, .null]) : va_E)) :: zW cI cG _ _ _) := hD
  refine lv_aload_n hx hb dX6_init_42 rfl (lv_at hl 0 rfl) ?_
  refine lv_bipush (v := 10) hx hb dX6_init_43 (by decide) ?_
  refine zn_arr hx hb (hts _ zwA) hK hP hD hS hA hcl 35 10 (by have h9 := hnw 35 (by decide); simp [h9]) rfl (by decide) (by decide) (by decide) (Nat.le_of_ble_eq_true rfl) (Nat.le_of_ble_eq_true rfl) dX6_init_45 (fun q35 H hP hD hS hcl => ?_)
  refine va_putF (D := D) (ci := 6) (v := .ref q35) (ty := (.array .int)) (C := RX6) (T := TX6) (N := 8) hx hb hts uin_6 tyX6 tyX6_ok nmX6 hown hK hP hD hS 0 rfl rfl 6 (by decide) (hts (.fieldLink RX6 26 RX6 "rowsOn" "[I") (zU_in (by decide +kernel) (by decide +kernel))) (fun _ h9 => h9) rfl hin rfl (by decide +kernel) rfl rfl (Nat.le_of_ble_eq_true rfl) dX6_init_47 (fun H locs hP hD hS => ?_)
  have hP : va_P D vwCl ((h0, (.inr (6, [.null, .ref q25, .ref q29, .ref q33, .int 0, .ref q34, .ref q35, .null]) : va_E)) :: zW cI cG _ _ _) H := hP
  have hD : va_D A ((h0, (.inr (6, [.null, .ref q25, .ref q29, .ref q33, .int 0, .ref q34, .ref q35, .null]) : va_E)) :: zW cI cG _ _ _) := hD
  refine lv_aload_n hx hb dX6_init_50 rfl (lv_at hl 0 rfl) ?_
  refine lv_bipush (v := 12) hx hb dX6_init_51 (by decide) ?_
  refine zn_arr hx hb (hts _ zwA) hK hP hD hS hA hcl 36 12 (by have h9 := hnw 36 (by decide); simp [h9]) rfl (by decide) (by decide) (by decide) (Nat.le_of_ble_eq_true rfl) (Nat.le_of_ble_eq_true rfl) dX6_init_53 (fun q36 H hP hD hS hcl => ?_)
  refine va_putF (D := D) (ci := 6) (v := .ref q36) (ty := (.array .int)) (C := RX6) (T := TX6) (N := 8) hx hb hts uin_6 tyX6 tyX6_ok nmX6 hown hK hP hD hS 0 rfl rfl 7 (by decide) (hts (.fieldLink RX6 29 RX6 "open" "[I") (zU_in (by decide +kernel) (by decide +kernel))) (fun _ h9 => h9) rfl hin rfl (by decide +kernel) rfl rfl (Nat.le_of_ble_eq_true rfl) dX6_init_55 (fun H locs hP hD hS => ?_)
  have hP : va_P D vwCl ((h0, (.inr (6, [.null, .ref q25, .ref q29, .ref q33, .int 0, .ref q34, .ref q35, .ref q36]) : va_E)) :: zW cI cG _ _ _) H := hP
  have hD : va_D A ((h0, (.inr (6, [.null, .ref q25, .ref q29, .ref q33, .int 0, .ref q34, .ref q35, .ref q36]) : va_E)) :: zW cI cG _ _ _) := hD
  refine lv_aload_n hx hb dX6_init_58 rfl (lv_at hl 0 rfl) ?_
  refine lv_aload_n hx hb dX6_init_59 rfl (lv_at hl 1 rfl) ?_
  refine va_putF (D := D) (ci := 6) (v := .ref (ad 1)) (ty := (.object "PiperHouse$Movements")) (C := RX6) (T := TX6) (N := 8) hx hb hts uin_6 tyX6 tyX6_ok nmX6 hown hK hP hD hS 0 rfl rfl 0 (by decide) (hts (.fieldLink RX6 32 RX6 "movements" "LPiperHouse$Movements;") (zU_in (by decide +kernel) (by decide +kernel))) (fun _ h9 => h9) rfl hin rfl (by decide +kernel) rfl rfl (Nat.le_of_ble_eq_true rfl) dX6_init_60 (fun H locs hP hD hS => ?_)
  have hP : va_P D vwCl ((h0, (.inr (6, [.ref (ad 1), .ref q25, .ref q29, .ref q33, .int 0, .ref q34, .ref q35, .ref q36]) : va_E)) :: zW cI cG _ _ _) H := hP
  have hD : va_D A ((h0, (.inr (6, [.ref (ad 1), .ref q25, .ref q29, .ref q33, .int 0, .ref q34, .ref q35, .ref q36]) : va_E)) :: zW cI cG _ _ _) := hD
  have hz : zclk (3 :: ((((((ids ++ 25 :: List.range' 26 3) ++ 29 :: List.range' 30 3) ++ [33]) ++ [34]) ++ [35]) ++ [36])) (zlay 3) := by
    rw [lay_3]
    intro v hv
    simp only [List.mem_cons, List.not_mem_nil, or_false, false_or, Option.some.injEq, reduceCtorEq] at hv
    rcases hv with rfl | rfl | rfl | rfl | rfl | rfl | rfl
    · show _ ∈ _; have h9 := hex 1 (by decide); simp [h9]
    · show _ ∈ _; simp
    · show _ ∈ _; simp
    · exact ⟨by simp, rfl⟩
    · exact ⟨by simp, rfl⟩
    · exact ⟨by simp, rfl⟩
    · exact ⟨by simp, rfl⟩
  have hcl0 := hcl
  have hcl := zcl_own hcl hz
  rw [zW_own (o := 3) hcl0 (by have h9 := ho; simp [h9]) (by rw [zE_obj lay_3]; rfl)] at hP hD
  refine zc_X6_init _ (t_X6) l D cI cG _ _ A p e s m _ below meth c _ _ _ _ H locs ls ⟨hx, hb, hml, hown, hts, hN, hK, hcl, hA⟩ ⟨hP, hD, hS⟩ ⟨lv_sub hl [0] rfl, fun v hv => ?_, fun v hv => absurd hv List.not_mem_nil⟩ ⟨Nat.le_of_ble_eq_true rfl, Nat.le_of_ble_eq_true rfl, Nat.le_of_ble_eq_true rfl, Nat.le_of_ble_eq_true rfl⟩ ?_
  · simp only [List.mem_cons, List.not_mem_nil, or_false, Option.some.injEq, reduceCtorEq] at hv
    subst hv
    exact List.mem_cons_self
  · intro H locs ls pc hB he
    refine W.widen (k := 12) (n := 101) (Nat.le_of_ble_eq_true rfl) (Nat.le_of_ble_eq_true rfl) ?_
    exact W.vret hx hb hr (fun t ht hW => ⟨⟨_, rfl, ⟨fun i hi => (by
      have g : ∀ j, i = j → j ∈ ids := fun j q => q ▸ hi
      have g0 : i ≠ 3 := fun q => ho (g _ q)
      have gn : ∀ j ∈ NW_X6, i ≠ j := fun j hj q => hnw j hj (g _ q)
      simp only [NW_X6, List.mem_cons, List.not_mem_nil, or_false, forall_eq_or_imp, forall_eq] at gn
      simp only [adU, adG, g0, if_false]
      simp only [gn, if_false]
      first | rfl | (repeat (rw [if_neg (by omega)]))), rfl, hcl⟩, by rw [ht]; exact hB.1, hB.2.1⟩, hB.2.2.F ht⟩) hB.2.2.2.2 he
set_option maxHeartbeats 8000000 in
set_option maxRecDepth 100000 in
theorem i_X7 : zInit Y_X7_init 2 (.inr (7, [.null, .null, .null, .null, .int 0]) : va_E) (fun ids => 2 :: (((ids ++ [22]) ++ [23]) ++ [24])) [22, 23, 24] [1] 3 3 72 := by
  intro l D cI cG ad ids sz h0 hcl ho hnw hex
  simp only [List.map_cons, List.map_nil]
  refine Met.ofW (cc := cX7_init) (maxL := 2) (ret := none) (by decide) rfl ?_
  intro p e s m args below meth c s₁ B hml hv
  obtain ⟨rfl, hsz, hP, hK, hD0, hN, hAO⟩ := hv
  have hx := B.exec
  have hb := B.bytes
  have hr := B.returns
  have hts0 := atoms_spec (ws := zws Y_X7_init) B.pre
  have hts : ∀ w ∈ zU, w.before _ s = true := fun w hw => hts0 w (List.mem_cons_of_mem _ hw)
  have hown : s.vm.findClass RX7 = some m.cls := findClass_of_methodNamed B.named
  have hlocks := B.notSynchronized
  have hin : meth.name = "<init>" := (name_of_methodNamed B.named B.method).1
  subst hsz
  have hD := hD0.self (sz := s.heap.size)
  generalize hAe : va_A ((h0, (.inr (7, [.null, .null, .null, .null, .int 0]) : va_E)) :: zW cI cG ad ids zM0) s.heap.size = A at hD ⊢
  have hA : ∀ q : Nat, s.heap.size ≤ q → A q := fun q h => by rw [← hAe]; exact Or.inr h
  have hS : va_S A s.heap s.heap [] := va_S.rf
  have hP : va_P D vwCl ((h0, (.inr (7, [.null, .null, .null, .null, .int 0]) : va_E)) :: zW cI cG ad ids zM0) s.heap := hP
  have hl := lv_entry ([.ref h0, .ref (ad 1)]) (n := 2) (Nat.le_of_ble_eq_true rfl)
  rw [lg_entry_eq]
  generalize (lg_sl ([.ref h0, .ref (ad 1)]) ++ List.replicate (2 - (lg_sl ([.ref h0, .ref (ad 1)])).length) Slot.unset).toArray = ls at hl ⊢
  have hl : lv_has ls 2 [(0, .ref h0), (1, .ref (ad 1))] := hl
  refine lv_aload_n hx hb dX7_init_0 rfl (lv_at hl 0 rfl) ?_
  refine W.objInit hx hb hown (hts (.methodLink RX7 3 objectInit) (zU_in (by decide +kernel) (by decide +kernel))) (hts _ zwO1) (hts _ zwO2) rfl (by rw [hml]; exact hl.1) rfl dX7_init_1 (Nat.le_of_ble_eq_true rfl) (Nat.le_of_ble_eq_true rfl) ?_
  refine W.eq (g2 := F0 m 4 ls []) rfl ?_
  refine lv_aload_n hx hb dX7_init_4 rfl (lv_at hl 0 rfl) ?_
  refine lv_bipush (v := 24) hx hb dX7_init_5 (by decide) ?_
  refine zn_arr hx hb (hts _ zwA) hK hP hD hS hA hcl 22 24 (by have h9 := hnw 22 (by decide); simp [h9]) rfl (by decide) (by decide) (by decide) (Nat.le_of_ble_eq_true rfl) (Nat.le_of_ble_eq_true rfl) dX7_init_7 (fun q22 H hP hD hS hcl => ?_)
  refine va_putF (D := D) (ci := 7) (v := .ref q22) (ty := (.array .int)) (C := RX7) (T := TX7) (N := 5) hx hb hts uin_7 tyX7 tyX7_ok nmX7 hown hK hP hD hS 0 rfl rfl 1 (by decide) (hts (.fieldLink RX7 9 RX7 "note" "[I") (zU_in (by decide +kernel) (by decide +kernel))) (fun _ h9 => h9) rfl hin rfl (by decide +kernel) rfl rfl (Nat.le_of_ble_eq_true rfl) dX7_init_9 (fun H locs hP hD hS => ?_)
  have hP : va_P D vwCl ((h0, (.inr (7, [.null, .ref q22, .null, .null, .int 0]) : va_E)) :: zW cI cG _ _ _) H := hP
  have hD : va_D A ((h0, (.inr (7, [.null, .ref q22, .null, .null, .int 0]) : va_E)) :: zW cI cG _ _ _) := hD
  refine lv_aload_n hx hb dX7_init_12 rfl (lv_at hl 0 rfl) ?_
  refine lv_bipush (v := 24) hx hb dX7_init_13 (by decide) ?_
  refine zn_arr hx hb (hts _ zwA) hK hP hD hS hA hcl 23 24 (by have h9 := hnw 23 (by decide); simp [h9]) rfl (by decide) (by decide) (by decide) (Nat.le_of_ble_eq_true rfl) (Nat.le_of_ble_eq_true rfl) dX7_init_15 (fun q23 H hP hD hS hcl => ?_)
  refine va_putF (D := D) (ci := 7) (v := .ref q23) (ty := (.array .int)) (C := RX7) (T := TX7) (N := 5) hx hb hts uin_7 tyX7 tyX7_ok nmX7 hown hK hP hD hS 0 rfl rfl 2 (by decide) (hts (.fieldLink RX7 15 RX7 "length" "[I") (zU_in (by decide +kernel) (by decide +kernel))) (fun _ h9 => h9) rfl hin rfl (by decide +kernel) rfl rfl (Nat.le_of_ble_eq_true rfl) dX7_init_17 (fun H locs hP hD hS => ?_)
  have hP : va_P D vwCl ((h0, (.inr (7, [.null, .ref q22, .ref q23, .null, .int 0]) : va_E)) :: zW cI cG _ _ _) H := hP
  have hD : va_D A ((h0, (.inr (7, [.null, .ref q22, .ref q23, .null, .int 0]) : va_E)) :: zW cI cG _ _ _) := hD
  refine lv_aload_n hx hb dX7_init_20 rfl (lv_at hl 0 rfl) ?_
  refine lv_bipush (v := 24) hx hb dX7_init_21 (by decide) ?_
  refine zn_arr hx hb (hts _ zwA) hK hP hD hS hA hcl 24 24 (by have h9 := hnw 24 (by decide); simp [h9]) rfl (by decide) (by decide) (by decide) (Nat.le_of_ble_eq_true rfl) (Nat.le_of_ble_eq_true rfl) dX7_init_23 (fun q24 H hP hD hS hcl => ?_)
  refine va_putF (D := D) (ci := 7) (v := .ref q24) (ty := (.array .int)) (C := RX7) (T := TX7) (N := 5) hx hb hts uin_7 tyX7 tyX7_ok nmX7 hown hK hP hD hS 0 rfl rfl 3 (by decide) (hts (.fieldLink RX7 18 RX7 "movement" "[I") (zU_in (by decide +kernel) (by decide +kernel))) (fun _ h9 => h9) rfl hin rfl (by decide +kernel) rfl rfl (Nat.le_of_ble_eq_true rfl) dX7_init_25 (fun H locs hP hD hS => ?_)
  have hP : va_P D vwCl ((h0, (.inr (7, [.null, .ref q22, .ref q23, .ref q24, .int 0]) : va_E)) :: zW cI cG _ _ _) H := hP
  have hD : va_D A ((h0, (.inr (7, [.null, .ref q22, .ref q23, .ref q24, .int 0]) : va_E)) :: zW cI cG _ _ _) := hD
  refine lv_aload_n hx hb dX7_init_28 rfl (lv_at hl 0 rfl) ?_
  refine lv_aload_n hx hb dX7_init_29 rfl (lv_at hl 1 rfl) ?_
  refine va_putF (D := D) (ci := 7) (v := .ref (ad 1)) (ty := (.object "PiperHouse$Movements")) (C := RX7) (T := TX7) (N := 5) hx hb hts uin_7 tyX7 tyX7_ok nmX7 hown hK hP hD hS 0 rfl rfl 0 (by decide) (hts (.fieldLink RX7 21 RX7 "movements" "LPiperHouse$Movements;") (zU_in (by decide +kernel) (by decide +kernel))) (fun _ h9 => h9) rfl hin rfl (by decide +kernel) rfl rfl (Nat.le_of_ble_eq_true rfl) dX7_init_30 (fun H locs hP hD hS => ?_)
  have hP : va_P D vwCl ((h0, (.inr (7, [.ref (ad 1), .ref q22, .ref q23, .ref q24, .int 0]) : va_E)) :: zW cI cG _ _ _) H := hP
  have hD : va_D A ((h0, (.inr (7, [.ref (ad 1), .ref q22, .ref q23, .ref q24, .int 0]) : va_E)) :: zW cI cG _ _ _) := hD
  have hz : zclk (2 :: (((ids ++ [22]) ++ [23]) ++ [24])) (zlay 2) := by
    rw [lay_2]
    intro v hv
    simp only [List.mem_cons, List.not_mem_nil, or_false, false_or, Option.some.injEq, reduceCtorEq] at hv
    rcases hv with rfl | rfl | rfl | rfl
    · show _ ∈ _; have h9 := hex 1 (by decide); simp [h9]
    · exact ⟨by simp, rfl⟩
    · exact ⟨by simp, rfl⟩
    · exact ⟨by simp, rfl⟩
  have hcl0 := hcl
  have hcl := zcl_own hcl hz
  rw [zW_own (o := 2) hcl0 (by have h9 := ho; simp [h9]) (by rw [zE_obj lay_2]; rfl)] at hP hD
  rw [zm_X7] at hP hD
  refine W.widen (k := 3) (n := 72) (Nat.le_of_ble_eq_true rfl) (Nat.le_of_ble_eq_true rfl) ?_
  exact W.vret hx hb hr (fun t ht hW => ⟨⟨_, rfl, ⟨fun i hi => (by
      have g : ∀ j, i = j → j ∈ ids := fun j q => q ▸ hi
      have g0 : i ≠ 2 := fun q => ho (g _ q)
      have gn : ∀ j ∈ NW_X7, i ≠ j := fun j hj q => hnw j hj (g _ q)
      simp only [NW_X7, List.mem_cons, List.not_mem_nil, or_false, forall_eq_or_imp, forall_eq] at gn
      simp only [adU, adG, g0, if_false]
      simp only [gn, if_false]
      first | rfl | (repeat (rw [if_neg (by omega)]))), rfl, hcl⟩, by rw [ht]; exact hP, hD⟩, hS.F ht⟩) hS.2.2 dX7_init_33
