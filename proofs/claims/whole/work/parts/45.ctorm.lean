set_option maxHeartbeats 8000000 in
set_option maxRecDepth 100000 in
theorem i_X9 : zInit Y_X9_init 9 (.inr (9, [.null, .null, .null, .null, .int 0, .int 0, .null, .null, .null, .null, .null, .int 0, .null, .null, .null, .null, .int 0, .null, .int 0, .int 0, .int 0, .null, .null, .null, .null, .null, .null, .null, .null, .null, .int 0, .int 0, .int 0, .null]) : va_E) (fun ids => 9 :: ((((((((((((((((((((((((ids ++ [75]) ++ [76]) ++ [77]) ++ [78]) ++ [79]) ++ [80]) ++ [81]) ++ [82]) ++ [83]) ++ [84]) ++ [85]) ++ [86]) ++ [87]) ++ [88]) ++ [89]) ++ [90]) ++ [91]) ++ [92]) ++ [93]) ++ [94]) ++ [95]) ++ [96]) ++ [97]) ++ [98])) [75, 76, 77, 78, 79, 80, 81, 82, 83, 84, 85, 86, 87, 88, 89, 90, 91, 92, 93, 94, 95, 96, 97, 98] [] 3 24 2055 := by
  intro l D cI cG ad ids sz h0 hcl ho hnw hex
  simp only [List.map_cons, List.map_nil]
  refine Met.ofW (cc := cX9_init) (maxL := 3) (ret := none) (by decide) rfl ?_
  intro p e s m args below meth c s₁ B hml hv
  obtain ⟨rfl, hsz, hP, hK, hD0, hN, hAO⟩ := hv
  have hx := B.exec
  have hb := B.bytes
  have hr := B.returns
  have hts0 := atoms_spec (ws := zws Y_X9_init) B.pre
  have hts : ∀ w ∈ zU, w.before _ s = true := fun w hw => hts0 w (List.mem_cons_of_mem _ hw)
  have hown : s.vm.findClass RX9 = some m.cls := findClass_of_methodNamed B.named
  have hlocks := B.notSynchronized
  have hin : meth.name = "<init>" := (name_of_methodNamed B.named B.method).1
  subst hsz
  have hD := hD0.self (sz := s.heap.size)
  generalize hAe : va_A ((h0, (.inr (9, [.null, .null, .null, .null, .int 0, .int 0, .null, .null, .null, .null, .null, .int 0, .null, .null, .null, .null, .int 0, .null, .int 0, .int 0, .int 0, .null, .null, .null, .null, .null, .null, .null, .null, .null, .int 0, .int 0, .int 0, .null]) : va_E)) :: zW cI cG ad ids zM0) s.heap.size = A at hD ⊢
  have hA : ∀ q : Nat, s.heap.size ≤ q → A q := fun q h => by rw [← hAe]; exact Or.inr h
  have hS : va_S A s.heap s.heap [] := va_S.rf
  have hP : va_P D vwCl ((h0, (.inr (9, [.null, .null, .null, .null, .int 0, .int 0, .null, .null, .null, .null, .null, .int 0, .null, .null, .null, .null, .int 0, .null, .int 0, .int 0, .int 0, .null, .null, .null, .null, .null, .null, .null, .null, .null, .int 0, .int 0, .int 0, .null]) : va_E)) :: zW cI cG ad ids zM0) s.heap := hP
  have hl := lv_entry ([.ref h0]) (n := 3) (Nat.le_of_ble_eq_true rfl)
  rw [lg_entry_eq]
  generalize (lg_sl ([.ref h0]) ++ List.replicate (3 - (lg_sl ([.ref h0])).length) Slot.unset).toArray = ls at hl ⊢
  have hl : lv_has ls 3 [(0, .ref h0)] := hl
  refine lv_aload_n hx hb dX9_init_0 rfl (lv_at hl 0 rfl) ?_
  refine W.objInit hx hb hown (hts (.methodLink RX9 1 objectInit) (zU_in (by decide +kernel) (by decide +kernel))) (hts _ zwO1) (hts _ zwO2) rfl (by rw [hml]; exact hl.1) rfl dX9_init_1 (Nat.le_of_ble_eq_true rfl) (Nat.le_of_ble_eq_true rfl) ?_
  refine W.eq (g2 := F0 m 4 ls []) rfl ?_
  refine lv_aload_n hx hb dX9_init_4 rfl (lv_at hl 0 rfl) ?_
  refine lv_bipush (v := 8) hx hb dX9_init_5 (by decide) ?_
  refine zn_arr hx hb (hts _ zwA) hK hP hD hS hA hcl 75 8 (by have h9 := hnw 75 (by decide); simp [h9]) rfl (by decide) (by decide) (by decide) (Nat.le_of_ble_eq_true rfl) (Nat.le_of_ble_eq_true rfl) dX9_init_7 (fun q75 H hP hD hS hcl => ?_)
  refine va_putF (D := D) (ci := 9) (v := .ref q75) (ty := (.array .int)) (C := RX9) (T := TX9) (N := 34) hx hb hts uin_9 tyX9 tyX9_ok nmX9 hown hK hP hD hS 0 rfl rfl 0 (by decide) (hts (.fieldLink RX9 7 RX9 "gracesOf" "[I") (zU_in (by decide +kernel) (by decide +kernel))) (fun _ h9 => h9) rfl hin rfl (by decide +kernel) rfl rfl (Nat.le_of_ble_eq_true rfl) dX9_init_9 (fun H locs hP hD hS => ?_)
  have hP : va_P D vwCl ((h0, (.inr (9, [.ref q75, .null, .null, .null, .int 0, .int 0, .null, .null, .null, .null, .null, .int 0, .null, .null, .null, .null, .int 0, .null, .int 0, .int 0, .int 0, .null, .null, .null, .null, .null, .null, .null, .null, .null, .int 0, .int 0, .int 0, .null]) : va_E)) :: zW cI cG _ _ _) H := hP
  have hD : va_D A ((h0, (.inr (9, [.ref q75, .null, .null, .null, .int 0, .int 0, .null, .null, .null, .null, .null, .int 0, .null, .null, .null, .null, .int 0, .null, .int 0, .int 0, .int 0, .null, .null, .null, .null, .null, .null, .null, .null, .null, .int 0, .int 0, .int 0, .null]) : va_E)) :: zW cI cG _ _ _) := hD
  refine lv_aload_n hx hb dX9_init_12 rfl (lv_at hl 0 rfl) ?_
  refine lv_bipush (v := 32) hx hb dX9_init_13 (by decide) ?_
  refine zn_arr hx hb (hts _ zwA) hK hP hD hS hA hcl 76 32 (by have h9 := hnw 76 (by decide); simp [h9]) rfl (by decide) (by decide) (by decide) (Nat.le_of_ble_eq_true rfl) (Nat.le_of_ble_eq_true rfl) dX9_init_15 (fun q76 H hP hD hS hcl => ?_)
  refine va_putF (D := D) (ci := 9) (v := .ref q76) (ty := (.array .int)) (C := RX9) (T := TX9) (N := 34) hx hb hts uin_9 tyX9 tyX9_ok nmX9 hown hK hP hD hS 0 rfl rfl 1 (by decide) (hts (.fieldLink RX9 13 RX9 "grace" "[I") (zU_in (by decide +kernel) (by decide +kernel))) (fun _ h9 => h9) rfl hin rfl (by decide +kernel) rfl rfl (Nat.le_of_ble_eq_true rfl) dX9_init_17 (fun H locs hP hD hS => ?_)
  have hP : va_P D vwCl ((h0, (.inr (9, [.ref q75, .ref q76, .null, .null, .int 0, .int 0, .null, .null, .null, .null, .null, .int 0, .null, .null, .null, .null, .int 0, .null, .int 0, .int 0, .int 0, .null, .null, .null, .null, .null, .null, .null, .null, .null, .int 0, .int 0, .int 0, .null]) : va_E)) :: zW cI cG _ _ _) H := hP
  have hD : va_D A ((h0, (.inr (9, [.ref q75, .ref q76, .null, .null, .int 0, .int 0, .null, .null, .null, .null, .null, .int 0, .null, .null, .null, .null, .int 0, .null, .int 0, .int 0, .int 0, .null, .null, .null, .null, .null, .null, .null, .null, .null, .int 0, .int 0, .int 0, .null]) : va_E)) :: zW cI cG _ _ _) := hD
  refine lv_aload_n hx hb dX9_init_20 rfl (lv_at hl 0 rfl) ?_
  refine lv_bipush (v := 8) hx hb dX9_init_21 (by decide) ?_
  refine zn_arr hx hb (hts _ zwA) hK hP hD hS hA hcl 77 8 (by have h9 := hnw 77 (by decide); simp [h9]) rfl (by decide) (by decide) (by decide) (Nat.le_of_ble_eq_true rfl) (Nat.le_of_ble_eq_true rfl) dX9_init_23 (fun q77 H hP hD hS hcl => ?_)
  refine va_putF (D := D) (ci := 9) (v := .ref q77) (ty := (.array .int)) (C := RX9) (T := TX9) (N := 34) hx hb hts uin_9 tyX9 tyX9_ok nmX9 hown hK hP hD hS 0 rfl rfl 2 (by decide) (hts (.fieldLink RX9 16 RX9 "from" "[I") (zU_in (by decide +kernel) (by decide +kernel))) (fun _ h9 => h9) rfl hin rfl (by decide +kernel) rfl rfl (Nat.le_of_ble_eq_true rfl) dX9_init_25 (fun H locs hP hD hS => ?_)
  have hP : va_P D vwCl ((h0, (.inr (9, [.ref q75, .ref q76, .ref q77, .null, .int 0, .int 0, .null, .null, .null, .null, .null, .int 0, .null, .null, .null, .null, .int 0, .null, .int 0, .int 0, .int 0, .null, .null, .null, .null, .null, .null, .null, .null, .null, .int 0, .int 0, .int 0, .null]) : va_E)) :: zW cI cG _ _ _) H := hP
  have hD : va_D A ((h0, (.inr (9, [.ref q75, .ref q76, .ref q77, .null, .int 0, .int 0, .null, .null, .null, .null, .null, .int 0, .null, .null, .null, .null, .int 0, .null, .int 0, .int 0, .int 0, .null, .null, .null, .null, .null, .null, .null, .null, .null, .int 0, .int 0, .int 0, .null]) : va_E)) :: zW cI cG _ _ _) := hD
  refine lv_aload_n hx hb dX9_init_28 rfl (lv_at hl 0 rfl) ?_
  refine lv_bipush (v := 8) hx hb dX9_init_29 (by decide) ?_
  refine zn_arr hx hb (hts _ zwA) hK hP hD hS hA hcl 78 8 (by have h9 := hnw 78 (by decide); simp [h9]) rfl (by decide) (by decide) (by decide) (Nat.le_of_ble_eq_true rfl) (Nat.le_of_ble_eq_true rfl) dX9_init_31 (fun q78 H hP hD hS hcl => ?_)
  refine va_putF (D := D) (ci := 9) (v := .ref q78) (ty := (.array .int)) (C := RX9) (T := TX9) (N := 34) hx hb hts uin_9 tyX9 tyX9_ok nmX9 hown hK hP hD hS 0 rfl rfl 3 (by decide) (hts (.fieldLink RX9 19 RX9 "to" "[I") (zU_in (by decide +kernel) (by decide +kernel))) (fun _ h9 => h9) rfl hin rfl (by decide +kernel) rfl rfl (Nat.le_of_ble_eq_true rfl) dX9_init_33 (fun H locs hP hD hS => ?_)
  have hP : va_P D vwCl ((h0, (.inr (9, [.ref q75, .ref q76, .ref q77, .ref q78, .int 0, .int 0, .null, .null, .null, .null, .null, .int 0, .null, .null, .null, .null, .int 0, .null, .int 0, .int 0, .int 0, .null, .null, .null, .null, .null, .null, .null, .null, .null, .int 0, .int 0, .int 0, .null]) : va_E)) :: zW cI cG _ _ _) H := hP
  have hD : va_D A ((h0, (.inr (9, [.ref q75, .ref q76, .ref q77, .ref q78, .int 0, .int 0, .null, .null, .null, .null, .null, .int 0, .null, .null, .null, .null, .int 0, .null, .int 0, .int 0, .int 0, .null, .null, .null, .null, .null, .null, .null, .null, .null, .int 0, .int 0, .int 0, .null]) : va_E)) :: zW cI cG _ _ _) := hD
  refine lv_aload_n hx hb dX9_init_36 rfl (lv_at hl 0 rfl) ?_
  refine lv_iconst (v := 1) hx hb dX9_init_37 (by decide) ?_
  refine va_put (D := D) (ci := 9) (v := .int 1) (ty := .int) (C := RX9) (T := TX9) (N := 34) hx hb hts uin_9 tyX9 tyX9_ok nmX9 hown hK hP hD hS 0 rfl rfl 4 (by decide) (hts (.fieldLink RX9 22 RX9 "beat" "I") (zU_in (by decide +kernel) (by decide +kernel))) (fun _ h9 => h9) rfl (by decide +kernel) rfl rfl (Nat.le_of_ble_eq_true rfl) dX9_init_38 (fun H locs hP hD hS => ?_)
  have hP : va_P D vwCl ((h0, (.inr (9, [.ref q75, .ref q76, .ref q77, .ref q78, .int 1, .int 0, .null, .null, .null, .null, .null, .int 0, .null, .null, .null, .null, .int 0, .null, .int 0, .int 0, .int 0, .null, .null, .null, .null, .null, .null, .null, .null, .null, .int 0, .int 0, .int 0, .null]) : va_E)) :: zW cI cG _ _ _) H := hP
  have hD : va_D A ((h0, (.inr (9, [.ref q75, .ref q76, .ref q77, .ref q78, .int 1, .int 0, .null, .null, .null, .null, .null, .int 0, .null, .null, .null, .null, .int 0, .null, .int 0, .int 0, .int 0, .null, .null, .null, .null, .null, .null, .null, .null, .null, .int 0, .int 0, .int 0, .null]) : va_E)) :: zW cI cG _ _ _) := hD
  refine lv_aload_n hx hb dX9_init_41 rfl (lv_at hl 0 rfl) ?_
  refine lv_bipush (v := 24) hx hb dX9_init_42 (by decide) ?_
  refine zn_arr hx hb (hts _ zwA) hK hP hD hS hA hcl 79 24 (by have h9 := hnw 79 (by decide); simp [h9]) rfl (by decide) (by decide) (by decide) (Nat.le_of_ble_eq_true rfl) (Nat.le_of_ble_eq_true rfl) dX9_init_44 (fun q79 H hP hD hS hcl => ?_)
  refine va_putF (D := D) (ci := 9) (v := .ref q79) (ty := (.array .int)) (C := RX9) (T := TX9) (N := 34) hx hb hts uin_9 tyX9 tyX9_ok nmX9 hown hK hP hD hS 0 rfl rfl 6 (by decide) (hts (.fieldLink RX9 26 RX9 "note" "[I") (zU_in (by decide +kernel) (by decide +kernel))) (fun _ h9 => h9) rfl hin rfl (by decide +kernel) rfl rfl (Nat.le_of_ble_eq_true rfl) dX9_init_46 (fun H locs hP hD hS => ?_)
  have hP : va_P D vwCl ((h0, (.inr (9, [.ref q75, .ref q76, .ref q77, .ref q78, .int 1, .int 0, .ref q79, .null, .null, .null, .null, .int 0, .null, .null, .null, .null, .int 0, .null, .int 0, .int 0, .int 0, .null, .null, .null, .null, .null, .null, .null, .null, .null, .int 0, .int 0, .int 0, .null]) : va_E)) :: zW cI cG _ _ _) H := hP
  have hD : va_D A ((h0, (.inr (9, [.ref q75, .ref q76, .ref q77, .ref q78, .int 1, .int 0, .ref q79, .null, .null, .null, .null, .int 0, .null, .null, .null, .null, .int 0, .null, .int 0, .int 0, .int 0, .null, .null, .null, .null, .null, .null, .null, .null, .null, .int 0, .int 0, .int 0, .null]) : va_E)) :: zW cI cG _ _ _) := hD
  refine lv_aload_n hx hb dX9_init_49 rfl (lv_at hl 0 rfl) ?_
  refine lv_bipush (v := 24) hx hb dX9_init_50 (by decide) ?_
  refine zn_arr hx hb (hts _ zwA) hK hP hD hS hA hcl 80 24 (by have h9 := hnw 80 (by decide); simp [h9]) rfl (by decide) (by decide) (by decide) (Nat.le_of_ble_eq_true rfl) (Nat.le_of_ble_eq_true rfl) dX9_init_52 (fun q80 H hP hD hS hcl => ?_)
  refine va_putF (D := D) (ci := 9) (v := .ref q80) (ty := (.array .int)) (C := RX9) (T := TX9) (N := 34) hx hb hts uin_9 tyX9 tyX9_ok nmX9 hown hK hP hD hS 0 rfl rfl 7 (by decide) (hts (.fieldLink RX9 29 RX9 "length" "[I") (zU_in (by decide +kernel) (by decide +kernel))) (fun _ h9 => h9) rfl hin rfl (by decide +kernel) rfl rfl (Nat.le_of_ble_eq_true rfl) dX9_init_54 (fun H locs hP hD hS => ?_)
  have hP : va_P D vwCl ((h0, (.inr (9, [.ref q75, .ref q76, .ref q77, .ref q78, .int 1, .int 0, .ref q79, .ref q80, .null, .null, .null, .int 0, .null, .null, .null, .null, .int 0, .null, .int 0, .int 0, .int 0, .null, .null, .null, .null, .null, .null, .null, .null, .null, .int 0, .int 0, .int 0, .null]) : va_E)) :: zW cI cG _ _ _) H := hP
  have hD : va_D A ((h0, (.inr (9, [.ref q75, .ref q76, .ref q77, .ref q78, .int 1, .int 0, .ref q79, .ref q80, .null, .null, .null, .int 0, .null, .null, .null, .null, .int 0, .null, .int 0, .int 0, .int 0, .null, .null, .null, .null, .null, .null, .null, .null, .null, .int 0, .int 0, .int 0, .null]) : va_E)) :: zW cI cG _ _ _) := hD
  refine lv_aload_n hx hb dX9_init_57 rfl (lv_at hl 0 rfl) ?_
  refine lv_bipush (v := 24) hx hb dX9_init_58 (by decide) ?_
  refine zn_arr hx hb (hts _ zwA) hK hP hD hS hA hcl 81 24 (by have h9 := hnw 81 (by decide); simp [h9]) rfl (by decide) (by decide) (by decide) (Nat.le_of_ble_eq_true rfl) (Nat.le_of_ble_eq_true rfl) dX9_init_60 (fun q81 H hP hD hS hcl => ?_)
  refine va_putF (D := D) (ci := 9) (v := .ref q81) (ty := (.array .int)) (C := RX9) (T := TX9) (N := 34) hx hb hts uin_9 tyX9 tyX9_ok nmX9 hown hK hP hD hS 0 rfl rfl 8 (by decide) (hts (.fieldLink RX9 32 RX9 "movement" "[I") (zU_in (by decide +kernel) (by decide +kernel))) (fun _ h9 => h9) rfl hin rfl (by decide +kernel) rfl rfl (Nat.le_of_ble_eq_true rfl) dX9_init_62 (fun H locs hP hD hS => ?_)
  have hP : va_P D vwCl ((h0, (.inr (9, [.ref q75, .ref q76, .ref q77, .ref q78, .int 1, .int 0, .ref q79, .ref q80, .ref q81, .null, .null, .int 0, .null, .null, .null, .null, .int 0, .null, .int 0, .int 0, .int 0, .null, .null, .null, .null, .null, .null, .null, .null, .null, .int 0, .int 0, .int 0, .null]) : va_E)) :: zW cI cG _ _ _) H := hP
  have hD : va_D A ((h0, (.inr (9, [.ref q75, .ref q76, .ref q77, .ref q78, .int 1, .int 0, .ref q79, .ref q80, .ref q81, .null, .null, .int 0, .null, .null, .null, .null, .int 0, .null, .int 0, .int 0, .int 0, .null, .null, .null, .null, .null, .null, .null, .null, .null, .int 0, .int 0, .int 0, .null]) : va_E)) :: zW cI cG _ _ _) := hD
  refine lv_aload_n hx hb dX9_init_65 rfl (lv_at hl 0 rfl) ?_
  refine lv_bipush (v := 24) hx hb dX9_init_66 (by decide) ?_
  refine zn_arr hx hb (hts _ zwA) hK hP hD hS hA hcl 82 24 (by have h9 := hnw 82 (by decide); simp [h9]) rfl (by decide) (by decide) (by decide) (Nat.le_of_ble_eq_true rfl) (Nat.le_of_ble_eq_true rfl) dX9_init_68 (fun q82 H hP hD hS hcl => ?_)
  refine va_putF (D := D) (ci := 9) (v := .ref q82) (ty := (.array .int)) (C := RX9) (T := TX9) (N := 34) hx hb hts uin_9 tyX9 tyX9_ok nmX9 hown hK hP hD hS 0 rfl rfl 9 (by decide) (hts (.fieldLink RX9 35 RX9 "heads" "[I") (zU_in (by decide +kernel) (by decide +kernel))) (fun _ h9 => h9) rfl hin rfl (by decide +kernel) rfl rfl (Nat.le_of_ble_eq_true rfl) dX9_init_70 (fun H locs hP hD hS => ?_)
  have hP : va_P D vwCl ((h0, (.inr (9, [.ref q75, .ref q76, .ref q77, .ref q78, .int 1, .int 0, .ref q79, .ref q80, .ref q81, .ref q82, .null, .int 0, .null, .null, .null, .null, .int 0, .null, .int 0, .int 0, .int 0, .null, .null, .null, .null, .null, .null, .null, .null, .null, .int 0, .int 0, .int 0, .null]) : va_E)) :: zW cI cG _ _ _) H := hP
  have hD : va_D A ((h0, (.inr (9, [.ref q75, .ref q76, .ref q77, .ref q78, .int 1, .int 0, .ref q79, .ref q80, .ref q81, .ref q82, .null, .int 0, .null, .null, .null, .null, .int 0, .null, .int 0, .int 0, .int 0, .null, .null, .null, .null, .null, .null, .null, .null, .null, .int 0, .int 0, .int 0, .null]) : va_E)) :: zW cI cG _ _ _) := hD
  refine lv_aload_n hx hb dX9_init_73 rfl (lv_at hl 0 rfl) ?_
  refine lv_bipush (v := 27) hx hb dX9_init_74 (by decide) ?_
  refine zn_arr hx hb (hts _ zwA) hK hP hD hS hA hcl 83 27 (by have h9 := hnw 83 (by decide); simp [h9]) rfl (by decide) (by decide) (by decide) (Nat.le_of_ble_eq_true rfl) (Nat.le_of_ble_eq_true rfl) dX9_init_76 (fun q83 H hP hD hS hcl => ?_)
  refine va_putF (D := D) (ci := 9) (v := .ref q83) (ty := (.array .int)) (C := RX9) (T := TX9) (N := 34) hx hb hts uin_9 tyX9 tyX9_ok nmX9 hown hK hP hD hS 0 rfl rfl 10 (by decide) (hts (.fieldLink RX9 38 RX9 "tails" "[I") (zU_in (by decide +kernel) (by decide +kernel))) (fun _ h9 => h9) rfl hin rfl (by decide +kernel) rfl rfl (Nat.le_of_ble_eq_true rfl) dX9_init_78 (fun H locs hP hD hS => ?_)
  have hP : va_P D vwCl ((h0, (.inr (9, [.ref q75, .ref q76, .ref q77, .ref q78, .int 1, .int 0, .ref q79, .ref q80, .ref q81, .ref q82, .ref q83, .int 0, .null, .null, .null, .null, .int 0, .null, .int 0, .int 0, .int 0, .null, .null, .null, .null, .null, .null, .null, .null, .null, .int 0, .int 0, .int 0, .null]) : va_E)) :: zW cI cG _ _ _) H := hP
  have hD : va_D A ((h0, (.inr (9, [.ref q75, .ref q76, .ref q77, .ref q78, .int 1, .int 0, .ref q79, .ref q80, .ref q81, .ref q82, .ref q83, .int 0, .null, .null, .null, .null, .int 0, .null, .int 0, .int 0, .int 0, .null, .null, .null, .null, .null, .null, .null, .null, .null, .int 0, .int 0, .int 0, .null]) : va_E)) :: zW cI cG _ _ _) := hD
  refine lv_aload_n hx hb dX9_init_81 rfl (lv_at hl 0 rfl) ?_
  refine lv_bipush (v := 12) hx hb dX9_init_82 (by decide) ?_
  refine zn_arr hx hb (hts _ zwA) hK hP hD hS hA hcl 84 12 (by have h9 := hnw 84 (by decide); simp [h9]) rfl (by decide) (by decide) (by decide) (Nat.le_of_ble_eq_true rfl) (Nat.le_of_ble_eq_true rfl) dX9_init_84 (fun q84 H hP hD hS hcl => ?_)
  refine va_putF (D := D) (ci := 9) (v := .ref q84) (ty := (.array .int)) (C := RX9) (T := TX9) (N := 34) hx hb hts uin_9 tyX9 tyX9_ok nmX9 hown hK hP hD hS 0 rfl rfl 12 (by decide) (hts (.fieldLink RX9 41 RX9 "syllable" "[I") (zU_in (by decide +kernel) (by decide +kernel))) (fun _ h9 => h9) rfl hin rfl (by decide +kernel) rfl rfl (Nat.le_of_ble_eq_true rfl) dX9_init_86 (fun H locs hP hD hS => ?_)
  have hP : va_P D vwCl ((h0, (.inr (9, [.ref q75, .ref q76, .ref q77, .ref q78, .int 1, .int 0, .ref q79, .ref q80, .ref q81, .ref q82, .ref q83, .int 0, .ref q84, .null, .null, .null, .int 0, .null, .int 0, .int 0, .int 0, .null, .null, .null, .null, .null, .null, .null, .null, .null, .int 0, .int 0, .int 0, .null]) : va_E)) :: zW cI cG _ _ _) H := hP
  have hD : va_D A ((h0, (.inr (9, [.ref q75, .ref q76, .ref q77, .ref q78, .int 1, .int 0, .ref q79, .ref q80, .ref q81, .ref q82, .ref q83, .int 0, .ref q84, .null, .null, .null, .int 0, .null, .int 0, .int 0, .int 0, .null, .null, .null, .null, .null, .null, .null, .null, .null, .int 0, .int 0, .int 0, .null]) : va_E)) :: zW cI cG _ _ _) := hD
  refine lv_aload_n hx hb dX9_init_89 rfl (lv_at hl 0 rfl) ?_
  refine lv_sipush (v := 130) hx hb dX9_init_90 (by decide) ?_
  refine zn_arr hx hb (hts _ zwA) hK hP hD hS hA hcl 85 130 (by have h9 := hnw 85 (by decide); simp [h9]) rfl (by decide) (by decide) (by decide) (Nat.le_of_ble_eq_true rfl) (Nat.le_of_ble_eq_true rfl) dX9_init_93 (fun q85 H hP hD hS hcl => ?_)
  refine va_putF (D := D) (ci := 9) (v := .ref q85) (ty := (.array .int)) (C := RX9) (T := TX9) (N := 34) hx hb hts uin_9 tyX9 tyX9_ok nmX9 hown hK hP hD hS 0 rfl rfl 13 (by decide) (hts (.fieldLink RX9 44 RX9 "goesOn" "[I") (zU_in (by decide +kernel) (by decide +kernel))) (fun _ h9 => h9) rfl hin rfl (by decide +kernel) rfl rfl (Nat.le_of_ble_eq_true rfl) dX9_init_95 (fun H locs hP hD hS => ?_)
  have hP : va_P D vwCl ((h0, (.inr (9, [.ref q75, .ref q76, .ref q77, .ref q78, .int 1, .int 0, .ref q79, .ref q80, .ref q81, .ref q82, .ref q83, .int 0, .ref q84, .ref q85, .null, .null, .int 0, .null, .int 0, .int 0, .int 0, .null, .null, .null, .null, .null, .null, .null, .null, .null, .int 0, .int 0, .int 0, .null]) : va_E)) :: zW cI cG _ _ _) H := hP
  have hD : va_D A ((h0, (.inr (9, [.ref q75, .ref q76, .ref q77, .ref q78, .int 1, .int 0, .ref q79, .ref q80, .ref q81, .ref q82, .ref q83, .int 0, .ref q84, .ref q85, .null, .null, .int 0, .null, .int 0, .int 0, .int 0, .null, .null, .null, .null, .null, .null, .null, .null, .null, .int 0, .int 0, .int 0, .null]) : va_E)) :: zW cI cG _ _ _) := hD
  refine lv_aload_n hx hb dX9_init_98 rfl (lv_at hl 0 rfl) ?_
  refine lv_iconst (v := 5) hx hb dX9_init_99 (by decide) ?_
  refine zn_arr hx hb (hts _ zwA) hK hP hD hS hA hcl 86 5 (by have h9 := hnw 86 (by decide); simp [h9]) rfl (by decide) (by decide) (by decide) (Nat.le_of_ble_eq_true rfl) (Nat.le_of_ble_eq_true rfl) dX9_init_100 (fun q86 H hP hD hS hcl => ?_)
  refine va_putF (D := D) (ci := 9) (v := .ref q86) (ty := (.array .int)) (C := RX9) (T := TX9) (N := 34) hx hb hts uin_9 tyX9 tyX9_ok nmX9 hown hK hP hD hS 0 rfl rfl 14 (by decide) (hts (.fieldLink RX9 47 RX9 "parts" "[I") (zU_in (by decide +kernel) (by decide +kernel))) (fun _ h9 => h9) rfl hin rfl (by decide +kernel) rfl rfl (Nat.le_of_ble_eq_true rfl) dX9_init_102 (fun H locs hP hD hS => ?_)
  have hP : va_P D vwCl ((h0, (.inr (9, [.ref q75, .ref q76, .ref q77, .ref q78, .int 1, .int 0, .ref q79, .ref q80, .ref q81, .ref q82, .ref q83, .int 0, .ref q84, .ref q85, .ref q86, .null, .int 0, .null, .int 0, .int 0, .int 0, .null, .null, .null, .null, .null, .null, .null, .null, .null, .int 0, .int 0, .int 0, .null]) : va_E)) :: zW cI cG _ _ _) H := hP
  have hD : va_D A ((h0, (.inr (9, [.ref q75, .ref q76, .ref q77, .ref q78, .int 1, .int 0, .ref q79, .ref q80, .ref q81, .ref q82, .ref q83, .int 0, .ref q84, .ref q85, .ref q86, .null, .int 0, .null, .int 0, .int 0, .int 0, .null, .null, .null, .null, .null, .null, .null, .null, .null, .int 0, .int 0, .int 0, .null]) : va_E)) :: zW cI cG _ _ _) := hD
  refine lv_aload_n hx hb dX9_init_105 rfl (lv_at hl 0 rfl) ?_
  refine lv_bipush (v := 20) hx hb dX9_init_106 (by decide) ?_
  refine zn_arr hx hb (hts _ zwA) hK hP hD hS hA hcl 87 20 (by have h9 := hnw 87 (by decide); simp [h9]) rfl (by decide) (by decide) (by decide) (Nat.le_of_ble_eq_true rfl) (Nat.le_of_ble_eq_true rfl) dX9_init_108 (fun q87 H hP hD hS hcl => ?_)
  refine va_putF (D := D) (ci := 9) (v := .ref q87) (ty := (.array .int)) (C := RX9) (T := TX9) (N := 34) hx hb hts uin_9 tyX9 tyX9_ok nmX9 hown hK hP hD hS 0 rfl rfl 15 (by decide) (hts (.fieldLink RX9 50 RX9 "part" "[I") (zU_in (by decide +kernel) (by decide +kernel))) (fun _ h9 => h9) rfl hin rfl (by decide +kernel) rfl rfl (Nat.le_of_ble_eq_true rfl) dX9_init_110 (fun H locs hP hD hS => ?_)
  have hP : va_P D vwCl ((h0, (.inr (9, [.ref q75, .ref q76, .ref q77, .ref q78, .int 1, .int 0, .ref q79, .ref q80, .ref q81, .ref q82, .ref q83, .int 0, .ref q84, .ref q85, .ref q86, .ref q87, .int 0, .null, .int 0, .int 0, .int 0, .null, .null, .null, .null, .null, .null, .null, .null, .null, .int 0, .int 0, .int 0, .null]) : va_E)) :: zW cI cG _ _ _) H := hP
  have hD : va_D A ((h0, (.inr (9, [.ref q75, .ref q76, .ref q77, .ref q78, .int 1, .int 0, .ref q79, .ref q80, .ref q81, .ref q82, .ref q83, .int 0, .ref q84, .ref q85, .ref q86, .ref q87, .int 0, .null, .int 0, .int 0, .int 0, .null, .null, .null, .null, .null, .null, .null, .null, .null, .int 0, .int 0, .int 0, .null]) : va_E)) :: zW cI cG _ _ _) := hD
  refine lv_aload_n hx hb dX9_init_113 rfl (lv_at hl 0 rfl) ?_
  refine lv_bipush (v := 16) hx hb dX9_init_114 (by decide) ?_
  refine zn_arr hx hb (hts _ zwA) hK hP hD hS hA hcl 88 16 (by have h9 := hnw 88 (by decide); simp [h9]) rfl (by decide) (by decide) (by decide) (Nat.le_of_ble_eq_true rfl) (Nat.le_of_ble_eq_true rfl) dX9_init_116 (fun q88 H hP hD hS hcl => ?_)
  refine va_putF (D := D) (ci := 9) (v := .ref q88) (ty := (.array .int)) (C := RX9) (T := TX9) (N := 34) hx hb hts uin_9 tyX9 tyX9_ok nmX9 hown hK hP hD hS 0 rfl rfl 17 (by decide) (hts (.fieldLink RX9 53 RX9 "ground" "[I") (zU_in (by decide +kernel) (by decide +kernel))) (fun _ h9 => h9) rfl hin rfl (by decide +kernel) rfl rfl (Nat.le_of_ble_eq_true rfl) dX9_init_118 (fun H locs hP hD hS => ?_)
  have hP : va_P D vwCl ((h0, (.inr (9, [.ref q75, .ref q76, .ref q77, .ref q78, .int 1, .int 0, .ref q79, .ref q80, .ref q81, .ref q82, .ref q83, .int 0, .ref q84, .ref q85, .ref q86, .ref q87, .int 0, .ref q88, .int 0, .int 0, .int 0, .null, .null, .null, .null, .null, .null, .null, .null, .null, .int 0, .int 0, .int 0, .null]) : va_E)) :: zW cI cG _ _ _) H := hP
  have hD : va_D A ((h0, (.inr (9, [.ref q75, .ref q76, .ref q77, .ref q78, .int 1, .int 0, .ref q79, .ref q80, .ref q81, .ref q82, .ref q83, .int 0, .ref q84, .ref q85, .ref q86, .ref q87, .int 0, .ref q88, .int 0, .int 0, .int 0, .null, .null, .null, .null, .null, .null, .null, .null, .null, .int 0, .int 0, .int 0, .null]) : va_E)) :: zW cI cG _ _ _) := hD
  refine lv_aload_n hx hb dX9_init_121 rfl (lv_at hl 0 rfl) ?_
  refine lv_iconst (v := 3) hx hb dX9_init_122 (by decide) ?_
  refine zn_arr hx hb (hts _ zwA) hK hP hD hS hA hcl 89 3 (by have h9 := hnw 89 (by decide); simp [h9]) rfl (by decide) (by decide) (by decide) (Nat.le_of_ble_eq_true rfl) (Nat.le_of_ble_eq_true rfl) dX9_init_123 (fun q89 H hP hD hS hcl => ?_)
  refine va_putF (D := D) (ci := 9) (v := .ref q89) (ty := (.array .int)) (C := RX9) (T := TX9) (N := 34) hx hb hts uin_9 tyX9 tyX9_ok nmX9 hown hK hP hD hS 0 rfl rfl 21 (by decide) (hts (.fieldLink RX9 56 RX9 "sheetRule" "[I") (zU_in (by decide +kernel) (by decide +kernel))) (fun _ h9 => h9) rfl hin rfl (by decide +kernel) rfl rfl (Nat.le_of_ble_eq_true rfl) dX9_init_125 (fun H locs hP hD hS => ?_)
  have hP : va_P D vwCl ((h0, (.inr (9, [.ref q75, .ref q76, .ref q77, .ref q78, .int 1, .int 0, .ref q79, .ref q80, .ref q81, .ref q82, .ref q83, .int 0, .ref q84, .ref q85, .ref q86, .ref q87, .int 0, .ref q88, .int 0, .int 0, .int 0, .ref q89, .null, .null, .null, .null, .null, .null, .null, .null, .int 0, .int 0, .int 0, .null]) : va_E)) :: zW cI cG _ _ _) H := hP
  have hD : va_D A ((h0, (.inr (9, [.ref q75, .ref q76, .ref q77, .ref q78, .int 1, .int 0, .ref q79, .ref q80, .ref q81, .ref q82, .ref q83, .int 0, .ref q84, .ref q85, .ref q86, .ref q87, .int 0, .ref q88, .int 0, .int 0, .int 0, .ref q89, .null, .null, .null, .null, .null, .null, .null, .null, .int 0, .int 0, .int 0, .null]) : va_E)) :: zW cI cG _ _ _) := hD
  refine lv_aload_n hx hb dX9_init_128 rfl (lv_at hl 0 rfl) ?_
  refine lv_sipush (v := 192) hx hb dX9_init_129 (by decide) ?_
  refine zn_arr hx hb (hts _ zwA) hK hP hD hS hA hcl 90 192 (by have h9 := hnw 90 (by decide); simp [h9]) rfl (by decide) (by decide) (by decide) (Nat.le_of_ble_eq_true rfl) (Nat.le_of_ble_eq_true rfl) dX9_init_132 (fun q90 H hP hD hS hcl => ?_)
  refine va_putF (D := D) (ci := 9) (v := .ref q90) (ty := (.array .int)) (C := RX9) (T := TX9) (N := 34) hx hb hts uin_9 tyX9 tyX9_ok nmX9 hown hK hP hD hS 0 rfl rfl 22 (by decide) (hts (.fieldLink RX9 59 RX9 "told" "[I") (zU_in (by decide +kernel) (by decide +kernel))) (fun _ h9 => h9) rfl hin rfl (by decide +kernel) rfl rfl (Nat.le_of_ble_eq_true rfl) dX9_init_134 (fun H locs hP hD hS => ?_)
  have hP : va_P D vwCl ((h0, (.inr (9, [.ref q75, .ref q76, .ref q77, .ref q78, .int 1, .int 0, .ref q79, .ref q80, .ref q81, .ref q82, .ref q83, .int 0, .ref q84, .ref q85, .ref q86, .ref q87, .int 0, .ref q88, .int 0, .int 0, .int 0, .ref q89, .ref q90, .null, .null, .null, .null, .null, .null, .null, .int 0, .int 0, .int 0, .null]) : va_E)) :: zW cI cG _ _ _) H := hP
  have hD : va_D A ((h0, (.inr (9, [.ref q75, .ref q76, .ref q77, .ref q78, .int 1, .int 0, .ref q79, .ref q80, .ref q81, .ref q82, .ref q83, .int 0, .ref q84, .ref q85, .ref q86, .ref q87, .int 0, .ref q88, .int 0, .int 0, .int 0, .ref q89, .ref q90, .null, .null, .null, .null, .null, .null, .null, .int 0, .int 0, .int 0, .null]) : va_E)) :: zW cI cG _ _ _) := hD
  refine lv_aload_n hx hb dX9_init_137 rfl (lv_at hl 0 rfl) ?_
  refine lv_sipush (v := 1296) hx hb dX9_init_138 (by decide) ?_
  refine zn_arr hx hb (hts _ zwA) hK hP hD hS hA hcl 91 1296 (by have h9 := hnw 91 (by decide); simp [h9]) rfl (by decide) (by decide) (by decide) (Nat.le_of_ble_eq_true rfl) (Nat.le_of_ble_eq_true rfl) dX9_init_141 (fun q91 H hP hD hS hcl => ?_)
  refine va_putF (D := D) (ci := 9) (v := .ref q91) (ty := (.array .int)) (C := RX9) (T := TX9) (N := 34) hx hb hts uin_9 tyX9 tyX9_ok nmX9 hown hK hP hD hS 0 rfl rfl 23 (by decide) (hts (.fieldLink RX9 62 RX9 "off" "[I") (zU_in (by decide +kernel) (by decide +kernel))) (fun _ h9 => h9) rfl hin rfl (by decide +kernel) rfl rfl (Nat.le_of_ble_eq_true rfl) dX9_init_143 (fun H locs hP hD hS => ?_)
  have hP : va_P D vwCl ((h0, (.inr (9, [.ref q75, .ref q76, .ref q77, .ref q78, .int 1, .int 0, .ref q79, .ref q80, .ref q81, .ref q82, .ref q83, .int 0, .ref q84, .ref q85, .ref q86, .ref q87, .int 0, .ref q88, .int 0, .int 0, .int 0, .ref q89, .ref q90, .ref q91, .null, .null, .null, .null, .null, .null, .int 0, .int 0, .int 0, .null]) : va_E)) :: zW cI cG _ _ _) H := hP
  have hD : va_D A ((h0, (.inr (9, [.ref q75, .ref q76, .ref q77, .ref q78, .int 1, .int 0, .ref q79, .ref q80, .ref q81, .ref q82, .ref q83, .int 0, .ref q84, .ref q85, .ref q86, .ref q87, .int 0, .ref q88, .int 0, .int 0, .int 0, .ref q89, .ref q90, .ref q91, .null, .null, .null, .null, .null, .null, .int 0, .int 0, .int 0, .null]) : va_E)) :: zW cI cG _ _ _) := hD
  refine lv_aload_n hx hb dX9_init_146 rfl (lv_at hl 0 rfl) ?_
  refine lv_sipush (v := 153) hx hb dX9_init_147 (by decide) ?_
  refine zn_arr hx hb (hts _ zwA) hK hP hD hS hA hcl 92 153 (by have h9 := hnw 92 (by decide); simp [h9]) rfl (by decide) (by decide) (by decide) (Nat.le_of_ble_eq_true rfl) (Nat.le_of_ble_eq_true rfl) dX9_init_150 (fun q92 H hP hD hS hcl => ?_)
  refine va_putF (D := D) (ci := 9) (v := .ref q92) (ty := (.array .int)) (C := RX9) (T := TX9) (N := 34) hx hb hts uin_9 tyX9 tyX9_ok nmX9 hown hK hP hD hS 0 rfl rfl 24 (by decide) (hts (.fieldLink RX9 65 RX9 "table" "[I") (zU_in (by decide +kernel) (by decide +kernel))) (fun _ h9 => h9) rfl hin rfl (by decide +kernel) rfl rfl (Nat.le_of_ble_eq_true rfl) dX9_init_152 (fun H locs hP hD hS => ?_)
  have hP : va_P D vwCl ((h0, (.inr (9, [.ref q75, .ref q76, .ref q77, .ref q78, .int 1, .int 0, .ref q79, .ref q80, .ref q81, .ref q82, .ref q83, .int 0, .ref q84, .ref q85, .ref q86, .ref q87, .int 0, .ref q88, .int 0, .int 0, .int 0, .ref q89, .ref q90, .ref q91, .ref q92, .null, .null, .null, .null, .null, .int 0, .int 0, .int 0, .null]) : va_E)) :: zW cI cG _ _ _) H := hP
  have hD : va_D A ((h0, (.inr (9, [.ref q75, .ref q76, .ref q77, .ref q78, .int 1, .int 0, .ref q79, .ref q80, .ref q81, .ref q82, .ref q83, .int 0, .ref q84, .ref q85, .ref q86, .ref q87, .int 0, .ref q88, .int 0, .int 0, .int 0, .ref q89, .ref q90, .ref q91, .ref q92, .null, .null, .null, .null, .null, .int 0, .int 0, .int 0, .null]) : va_E)) :: zW cI cG _ _ _) := hD
  refine lv_aload_n hx hb dX9_init_155 rfl (lv_at hl 0 rfl) ?_
  refine lv_bipush (v := 16) hx hb dX9_init_156 (by decide) ?_
  refine zn_arr hx hb (hts _ zwA) hK hP hD hS hA hcl 93 16 (by have h9 := hnw 93 (by decide); simp [h9]) rfl (by decide) (by decide) (by decide) (Nat.le_of_ble_eq_true rfl) (Nat.le_of_ble_eq_true rfl) dX9_init_158 (fun q93 H hP hD hS hcl => ?_)
  refine va_putF (D := D) (ci := 9) (v := .ref q93) (ty := (.array .int)) (C := RX9) (T := TX9) (N := 34) hx hb hts uin_9 tyX9 tyX9_ok nmX9 hown hK hP hD hS 0 rfl rfl 25 (by decide) (hts (.fieldLink RX9 68 RX9 "best" "[I") (zU_in (by decide +kernel) (by decide +kernel))) (fun _ h9 => h9) rfl hin rfl (by decide +kernel) rfl rfl (Nat.le_of_ble_eq_true rfl) dX9_init_160 (fun H locs hP hD hS => ?_)
  have hP : va_P D vwCl ((h0, (.inr (9, [.ref q75, .ref q76, .ref q77, .ref q78, .int 1, .int 0, .ref q79, .ref q80, .ref q81, .ref q82, .ref q83, .int 0, .ref q84, .ref q85, .ref q86, .ref q87, .int 0, .ref q88, .int 0, .int 0, .int 0, .ref q89, .ref q90, .ref q91, .ref q92, .ref q93, .null, .null, .null, .null, .int 0, .int 0, .int 0, .null]) : va_E)) :: zW cI cG _ _ _) H := hP
  have hD : va_D A ((h0, (.inr (9, [.ref q75, .ref q76, .ref q77, .ref q78, .int 1, .int 0, .ref q79, .ref q80, .ref q81, .ref q82, .ref q83, .int 0, .ref q84, .ref q85, .ref q86, .ref q87, .int 0, .ref q88, .int 0, .int 0, .int 0, .ref q89, .ref q90, .ref q91, .ref q92, .ref q93, .null, .null, .null, .null, .int 0, .int 0, .int 0, .null]) : va_E)) :: zW cI cG _ _ _) := hD
  refine lv_aload_n hx hb dX9_init_163 rfl (lv_at hl 0 rfl) ?_
  refine lv_bipush (v := 6) hx hb dX9_init_164 (by decide) ?_
  refine zn_arr hx hb (hts _ zwA) hK hP hD hS hA hcl 94 6 (by have h9 := hnw 94 (by decide); simp [h9]) rfl (by decide) (by decide) (by decide) (Nat.le_of_ble_eq_true rfl) (Nat.le_of_ble_eq_true rfl) dX9_init_166 (fun q94 H hP hD hS hcl => ?_)
  refine va_putF (D := D) (ci := 9) (v := .ref q94) (ty := (.array .int)) (C := RX9) (T := TX9) (N := 34) hx hb hts uin_9 tyX9 tyX9_ok nmX9 hown hK hP hD hS 0 rfl rfl 26 (by decide) (hts (.fieldLink RX9 71 RX9 "reed" "[I") (zU_in (by decide +kernel) (by decide +kernel))) (fun _ h9 => h9) rfl hin rfl (by decide +kernel) rfl rfl (Nat.le_of_ble_eq_true rfl) dX9_init_168 (fun H locs hP hD hS => ?_)
  have hP : va_P D vwCl ((h0, (.inr (9, [.ref q75, .ref q76, .ref q77, .ref q78, .int 1, .int 0, .ref q79, .ref q80, .ref q81, .ref q82, .ref q83, .int 0, .ref q84, .ref q85, .ref q86, .ref q87, .int 0, .ref q88, .int 0, .int 0, .int 0, .ref q89, .ref q90, .ref q91, .ref q92, .ref q93, .ref q94, .null, .null, .null, .int 0, .int 0, .int 0, .null]) : va_E)) :: zW cI cG _ _ _) H := hP
  have hD : va_D A ((h0, (.inr (9, [.ref q75, .ref q76, .ref q77, .ref q78, .int 1, .int 0, .ref q79, .ref q80, .ref q81, .ref q82, .ref q83, .int 0, .ref q84, .ref q85, .ref q86, .ref q87, .int 0, .ref q88, .int 0, .int 0, .int 0, .ref q89, .ref q90, .ref q91, .ref q92, .ref q93, .ref q94, .null, .null, .null, .int 0, .int 0, .int 0, .null]) : va_E)) :: zW cI cG _ _ _) := hD
  refine lv_aload_n hx hb dX9_init_171 rfl (lv_at hl 0 rfl) ?_
  refine lv_bipush (v := 6) hx hb dX9_init_172 (by decide) ?_
  refine zn_arr hx hb (hts _ zwA) hK hP hD hS hA hcl 95 6 (by have h9 := hnw 95 (by decide); simp [h9]) rfl (by decide) (by decide) (by decide) (Nat.le_of_ble_eq_true rfl) (Nat.le_of_ble_eq_true rfl) dX9_init_174 (fun q95 H hP hD hS hcl => ?_)
  refine va_putF (D := D) (ci := 9) (v := .ref q95) (ty := (.array .int)) (C := RX9) (T := TX9) (N := 34) hx hb hts uin_9 tyX9 tyX9_ok nmX9 hown hK hP hD hS 0 rfl rfl 27 (by decide) (hts (.fieldLink RX9 74 RX9 "rise" "[I") (zU_in (by decide +kernel) (by decide +kernel))) (fun _ h9 => h9) rfl hin rfl (by decide +kernel) rfl rfl (Nat.le_of_ble_eq_true rfl) dX9_init_176 (fun H locs hP hD hS => ?_)
  have hP : va_P D vwCl ((h0, (.inr (9, [.ref q75, .ref q76, .ref q77, .ref q78, .int 1, .int 0, .ref q79, .ref q80, .ref q81, .ref q82, .ref q83, .int 0, .ref q84, .ref q85, .ref q86, .ref q87, .int 0, .ref q88, .int 0, .int 0, .int 0, .ref q89, .ref q90, .ref q91, .ref q92, .ref q93, .ref q94, .ref q95, .null, .null, .int 0, .int 0, .int 0, .null]) : va_E)) :: zW cI cG _ _ _) H := hP
  have hD : va_D A ((h0, (.inr (9, [.ref q75, .ref q76, .ref q77, .ref q78, .int 1, .int 0, .ref q79, .ref q80, .ref q81, .ref q82, .ref q83, .int 0, .ref q84, .ref q85, .ref q86, .ref q87, .int 0, .ref q88, .int 0, .int 0, .int 0, .ref q89, .ref q90, .ref q91, .ref q92, .ref q93, .ref q94, .ref q95, .null, .null, .int 0, .int 0, .int 0, .null]) : va_E)) :: zW cI cG _ _ _) := hD
  refine lv_aload_n hx hb dX9_init_179 rfl (lv_at hl 0 rfl) ?_
  refine lv_bipush (v := 6) hx hb dX9_init_180 (by decide) ?_
  refine zn_arr hx hb (hts _ zwA) hK hP hD hS hA hcl 96 6 (by have h9 := hnw 96 (by decide); simp [h9]) rfl (by decide) (by decide) (by decide) (Nat.le_of_ble_eq_true rfl) (Nat.le_of_ble_eq_true rfl) dX9_init_182 (fun q96 H hP hD hS hcl => ?_)
  refine va_putF (D := D) (ci := 9) (v := .ref q96) (ty := (.array .int)) (C := RX9) (T := TX9) (N := 34) hx hb hts uin_9 tyX9 tyX9_ok nmX9 hown hK hP hD hS 0 rfl rfl 28 (by decide) (hts (.fieldLink RX9 77 RX9 "warm" "[I") (zU_in (by decide +kernel) (by decide +kernel))) (fun _ h9 => h9) rfl hin rfl (by decide +kernel) rfl rfl (Nat.le_of_ble_eq_true rfl) dX9_init_184 (fun H locs hP hD hS => ?_)
  have hP : va_P D vwCl ((h0, (.inr (9, [.ref q75, .ref q76, .ref q77, .ref q78, .int 1, .int 0, .ref q79, .ref q80, .ref q81, .ref q82, .ref q83, .int 0, .ref q84, .ref q85, .ref q86, .ref q87, .int 0, .ref q88, .int 0, .int 0, .int 0, .ref q89, .ref q90, .ref q91, .ref q92, .ref q93, .ref q94, .ref q95, .ref q96, .null, .int 0, .int 0, .int 0, .null]) : va_E)) :: zW cI cG _ _ _) H := hP
  have hD : va_D A ((h0, (.inr (9, [.ref q75, .ref q76, .ref q77, .ref q78, .int 1, .int 0, .ref q79, .ref q80, .ref q81, .ref q82, .ref q83, .int 0, .ref q84, .ref q85, .ref q86, .ref q87, .int 0, .ref q88, .int 0, .int 0, .int 0, .ref q89, .ref q90, .ref q91, .ref q92, .ref q93, .ref q94, .ref q95, .ref q96, .null, .int 0, .int 0, .int 0, .null]) : va_E)) :: zW cI cG _ _ _) := hD
  refine lv_aload_n hx hb dX9_init_187 rfl (lv_at hl 0 rfl) ?_
  refine lv_bipush (v := 6) hx hb dX9_init_188 (by decide) ?_
  refine zn_arr hx hb (hts _ zwA) hK hP hD hS hA hcl 97 6 (by have h9 := hnw 97 (by decide); simp [h9]) rfl (by decide) (by decide) (by decide) (Nat.le_of_ble_eq_true rfl) (Nat.le_of_ble_eq_true rfl) dX9_init_190 (fun q97 H hP hD hS hcl => ?_)
  refine va_putF (D := D) (ci := 9) (v := .ref q97) (ty := (.array .int)) (C := RX9) (T := TX9) (N := 34) hx hb hts uin_9 tyX9 tyX9_ok nmX9 hown hK hP hD hS 0 rfl rfl 29 (by decide) (hts (.fieldLink RX9 80 RX9 "comes" "[I") (zU_in (by decide +kernel) (by decide +kernel))) (fun _ h9 => h9) rfl hin rfl (by decide +kernel) rfl rfl (Nat.le_of_ble_eq_true rfl) dX9_init_192 (fun H locs hP hD hS => ?_)
  have hP : va_P D vwCl ((h0, (.inr (9, [.ref q75, .ref q76, .ref q77, .ref q78, .int 1, .int 0, .ref q79, .ref q80, .ref q81, .ref q82, .ref q83, .int 0, .ref q84, .ref q85, .ref q86, .ref q87, .int 0, .ref q88, .int 0, .int 0, .int 0, .ref q89, .ref q90, .ref q91, .ref q92, .ref q93, .ref q94, .ref q95, .ref q96, .ref q97, .int 0, .int 0, .int 0, .null]) : va_E)) :: zW cI cG _ _ _) H := hP
  have hD : va_D A ((h0, (.inr (9, [.ref q75, .ref q76, .ref q77, .ref q78, .int 1, .int 0, .ref q79, .ref q80, .ref q81, .ref q82, .ref q83, .int 0, .ref q84, .ref q85, .ref q86, .ref q87, .int 0, .ref q88, .int 0, .int 0, .int 0, .ref q89, .ref q90, .ref q91, .ref q92, .ref q93, .ref q94, .ref q95, .ref q96, .ref q97, .int 0, .int 0, .int 0, .null]) : va_E)) :: zW cI cG _ _ _) := hD
  refine lv_aload_n hx hb dX9_init_195 rfl (lv_at hl 0 rfl) ?_
  refine lv_bipush (v := 9) hx hb dX9_init_196 (by decide) ?_
  refine zn_arr hx hb (hts _ zwA) hK hP hD hS hA hcl 98 9 (by have h9 := hnw 98 (by decide); simp [h9]) rfl (by decide) (by decide) (by decide) (Nat.le_of_ble_eq_true rfl) (Nat.le_of_ble_eq_true rfl) dX9_init_198 (fun q98 H hP hD hS hcl => ?_)
  refine va_putF (D := D) (ci := 9) (v := .ref q98) (ty := (.array .int)) (C := RX9) (T := TX9) (N := 34) hx hb hts uin_9 tyX9 tyX9_ok nmX9 hown hK hP hD hS 0 rfl rfl 33 (by decide) (hts (.fieldLink RX9 83 RX9 "tones" "[I") (zU_in (by decide +kernel) (by decide +kernel))) (fun _ h9 => h9) rfl hin rfl (by decide +kernel) rfl rfl (Nat.le_of_ble_eq_true rfl) dX9_init_200 (fun H locs hP hD hS => ?_)
  have hP : va_P D vwCl ((h0, (.inr (9, [.ref q75, .ref q76, .ref q77, .ref q78, .int 1, .int 0, .ref q79, .ref q80, .ref q81, .ref q82, .ref q83, .int 0, .ref q84, .ref q85, .ref q86, .ref q87, .int 0, .ref q88, .int 0, .int 0, .int 0, .ref q89, .ref q90, .ref q91, .ref q92, .ref q93, .ref q94, .ref q95, .ref q96, .ref q97, .int 0, .int 0, .int 0, .ref q98]) : va_E)) :: zW cI cG _ _ _) H := hP
  have hD : va_D A ((h0, (.inr (9, [.ref q75, .ref q76, .ref q77, .ref q78, .int 1, .int 0, .ref q79, .ref q80, .ref q81, .ref q82, .ref q83, .int 0, .ref q84, .ref q85, .ref q86, .ref q87, .int 0, .ref q88, .int 0, .int 0, .int 0, .ref q89, .ref q90, .ref q91, .ref q92, .ref q93, .ref q94, .ref q95, .ref q96, .ref q97, .int 0, .int 0, .int 0, .ref q98]) : va_E)) :: zW cI cG _ _ _) := hD
  have hz : zclk (9 :: ((((((((((((((((((((((((ids ++ [75]) ++ [76]) ++ [77]) ++ [78]) ++ [79]) ++ [80]) ++ [81]) ++ [82]) ++ [83]) ++ [84]) ++ [85]) ++ [86]) ++ [87]) ++ [88]) ++ [89]) ++ [90]) ++ [91]) ++ [92]) ++ [93]) ++ [94]) ++ [95]) ++ [96]) ++ [97]) ++ [98])) (zlay 9) := by
    rw [lay_9]
    intro v hv
    simp only [List.mem_cons, List.not_mem_nil, or_false, false_or, Option.some.injEq, reduceCtorEq] at hv
    rcases hv with rfl | rfl | rfl | rfl | rfl | rfl | rfl | rfl | rfl | rfl | rfl | rfl | rfl | rfl | rfl | rfl | rfl | rfl | rfl | rfl | rfl | rfl | rfl | rfl
    · exact ⟨by simp, rfl⟩
    · exact ⟨by simp, rfl⟩
    · exact ⟨by simp, rfl⟩
    · exact ⟨by simp, rfl⟩
    · exact ⟨by simp, rfl⟩
    · exact ⟨by simp, rfl⟩
    · exact ⟨by simp, rfl⟩
    · exact ⟨by simp, rfl⟩
    · exact ⟨by simp, rfl⟩
    · exact ⟨by simp, rfl⟩
    · exact ⟨by simp, rfl⟩
    · exact ⟨by simp, rfl⟩
    · exact ⟨by simp, rfl⟩
    · exact ⟨by simp, rfl⟩
    · exact ⟨by simp, rfl⟩
    · exact ⟨by simp, rfl⟩
    · exact ⟨by simp, rfl⟩
    · exact ⟨by simp, rfl⟩
    · exact ⟨by simp, rfl⟩
    · exact ⟨by simp, rfl⟩
    · exact ⟨by simp, rfl⟩
    · exact ⟨by simp, rfl⟩
    · exact ⟨by simp, rfl⟩
    · exact ⟨by simp, rfl⟩
  have hcl0 := hcl
  have hcl := zcl_own hcl hz
  rw [zW_own (o := 9) hcl0 (by have h9 := ho; simp [h9]) (by rw [zE_obj lay_9]; simp [zfv, zcv, adU, zrow, zM0])] at hP hD
  refine zc_X9_init _ (t_X9) l D cI cG _ _ A p e s m _ below meth c _ _ _ _ H locs ls ⟨hx, hb, hml, hown, hts, hN, hK, hcl, hA⟩ ⟨hP, hD, hS⟩ ⟨lv_sub hl [0] rfl, fun v hv => ?_, fun v hv => absurd hv List.not_mem_nil⟩ ⟨Nat.le_of_ble_eq_true rfl, Nat.le_of_ble_eq_true rfl, Nat.le_of_ble_eq_true rfl, Nat.le_of_ble_eq_true rfl⟩ ?_
  · simp only [List.mem_cons, List.not_mem_nil, or_false, Option.some.injEq, reduceCtorEq] at hv
    subst hv
    exact List.mem_cons_self
  · intro H locs ls pc hB he
    refine W.widen (k := 24) (n := 2055) (Nat.le_of_ble_eq_true rfl) (Nat.le_of_ble_eq_true rfl) ?_
    exact W.vret hx hb hr (fun t ht hW => ⟨⟨_, rfl, ⟨fun i hi => (by
      have g : ∀ j, i = j → j ∈ ids := fun j q => q ▸ hi
      have g0 : i ≠ 9 := fun q => ho (g _ q)
      have gn : ∀ j ∈ NW_X9, i ≠ j := fun j hj q => hnw j hj (g _ q)
      simp only [NW_X9, List.mem_cons, List.not_mem_nil, or_false, forall_eq_or_imp, forall_eq] at gn
      simp only [adU, adG, g0, if_false]
      simp only [gn, if_false]
      first | rfl | (repeat (rw [if_neg (by omega)]))), rfl, hcl⟩, by rw [ht]; exact hB.1, hB.2.1⟩, hB.2.2.F ht⟩) hB.2.2.2.2 he
