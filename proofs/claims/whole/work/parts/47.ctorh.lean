def L0 : List Nat := []
def L1 : List Nat := 1 :: ((((L0 ++ [10]) ++ 11 :: List.range' 12 8) ++ [20]) ++ [21])
def L2 : List Nat := 2 :: (((L1 ++ [22]) ++ [23]) ++ [24])
def L3 : List Nat := 3 :: ((((((L2 ++ 25 :: List.range' 26 3) ++ 29 :: List.range' 30 3) ++ [33]) ++ [34]) ++ [35]) ++ [36])
def L4 : List Nat := 4 :: ((L3 ++ [37]) ++ 38 :: List.range' 39 5)
def L5 : List Nat := 5 :: (L4 ++ [44])
def L6 : List Nat := 6 :: ((((((L5 ++ [45]) ++ [46]) ++ 47 :: List.range' 48 3) ++ 51 :: List.range' 52 16) ++ [68]) ++ [69])
def L7 : List Nat := 7 :: ((((L6 ++ [70]) ++ [71]) ++ [72]) ++ [73])
def L8 : List Nat := 8 :: (L7 ++ [74])
def LH : List Nat := 0 :: L8
set_option maxHeartbeats 8000000 in
set_option maxRecDepth 100000 in
theorem i_X8 (l : Launch) (D : va_G) (cI cG : ClassId) (sz h0 : Nat) : Met l Y_X8_init.1 (zws Y_X8_init) (zcroom 6 73 751) (va_Pc [.ref h0] (fun U => zCPre D cI cG [(h0, (.inr (8, [.null, .null, .null, .null, .null, .null, .null, .null]) : va_E))] sz U ∧ va_Nw (.methodLinkNest RX8 64 yX0_init "PiperHouse") U))
      (va_Qv (fun ad' : Nat → Nat => ad' 0 = h0 ∧ zcl LH) (fun ad' t => va_P D vwCl (zW cI cG ad' LH zM0) t.heap ∧ va_D (va_A [(h0, (.inr (8, [.null, .null, .null, .null, .null, .null, .null, .null]) : va_E))] sz) (zW cI cG ad' LH zM0)) (va_A [(h0, (.inr (8, [.null, .null, .null, .null, .null, .null, .null, .null]) : va_E))] sz)) 73 751 (va_A [(h0, (.inr (8, [.null, .null, .null, .null, .null, .null, .null, .null]) : va_E))] sz) := by
  refine Met.ofW (cc := cX8_init) (maxL := 1) (ret := none) (by decide) rfl ?_
  intro p e s m args below meth c s₁ B hml hv
  obtain ⟨rfl, ⟨hsz, hP, hK, hD0, hN, hAO⟩, hDN⟩ := hv
  have hx := B.exec
  have hb := B.bytes
  have hr := B.returns
  have hts0 := atoms_spec (ws := zws Y_X8_init) B.pre
  have hts : ∀ w ∈ zU, w.before _ s = true := fun w hw => hts0 w (List.mem_cons_of_mem _ hw)
  have hown : s.vm.findClass RX8 = some m.cls := findClass_of_methodNamed B.named
  have hlocks := B.notSynchronized
  have hin : meth.name = "<init>" := (name_of_methodNamed B.named B.method).1
  subst hsz
  have hD := hD0.self (sz := s.heap.size)
  generalize hAe : va_A [(h0, (.inr (8, [.null, .null, .null, .null, .null, .null, .null, .null]) : va_E))] s.heap.size = A at hD ⊢
  have hA : ∀ q : Nat, s.heap.size ≤ q → A q := fun q h => by rw [← hAe]; exact Or.inr h
  have hS : va_S A s.heap s.heap [] := va_S.rf
  have hcl : zcl L0 := fun i hi => absurd hi List.not_mem_nil
  obtain ⟨ad0, had0⟩ : ∃ ad0 : Nat → Nat, ad0 = fun _ => 0 := ⟨_, rfl⟩
  have hP : va_P D vwCl ((h0, (.inr (8, [.null, .null, .null, .null, .null, .null, .null, .null]) : va_E)) :: zW cI cG ad0 L0 zM0) s.heap := hP
  have hD : va_D A ((h0, (.inr (8, [.null, .null, .null, .null, .null, .null, .null, .null]) : va_E)) :: zW cI cG ad0 L0 zM0) := hD
  have hl := lv_entry ([.ref h0]) (n := 1) (Nat.le_of_ble_eq_true rfl)
  rw [lg_entry_eq]
  generalize (lg_sl ([.ref h0]) ++ List.replicate (1 - (lg_sl ([.ref h0])).length) Slot.unset).toArray = ls at hl ⊢
  have hl : lv_has ls 1 [(0, .ref h0)] := hl
  refine lv_aload_n hx hb dX8_init_0 rfl (lv_at hl 0 rfl) ?_
  refine W.objInit hx hb hown (hts (.methodLink RX8 3 objectInit) (zU_in (by decide +kernel) (by decide +kernel))) (hts _ zwO1) (hts _ zwO2) rfl (by rw [hml]; exact hl.1) rfl dX8_init_1 (Nat.le_of_ble_eq_true rfl) (Nat.le_of_ble_eq_true rfl) ?_
  refine W.eq (g2 := F0 m 4 ls []) rfl ?_
  refine lv_aload_n hx hb dX8_init_4 rfl (lv_at hl 0 rfl) ?_
  refine va_new (ci := 2) (fs := [.null, .null, .null, .null, .int 0]) (C := RX2) (T := TX2) (N := 5) hx hb hts uin_2 tyX2 tyX2_ok hown (hts (.classLink RX8 9 RX2) (zU_in (by decide +kernel) (by decide +kernel))) (hts (.instantiable RX2 5) (zU_in (by decide +kernel) (by decide +kernel))) (hts (.initialized RX2) (zU_in (by decide +kernel) (by decide +kernel))) hK hP hD hS hA rfl (fun j hj => by rcases (show j = 0 ∨ j = 1 ∨ j = 2 ∨ j = 3 ∨ j = 4 by omega) with rfl | rfl | rfl | rfl | rfl <;> rfl) (Nat.le_of_ble_eq_true rfl) (Nat.le_of_ble_eq_true rfl) dX8_init_5 (fun q1 H hP hD hS => ?_)
  have hP := va_P.swap (a := [(h0, (.inr (8, [.null, .null, .null, .null, .null, .null, .null, .null]) : va_E))]) (b := zW cI cG ad0 L0 zM0) (c := [(q1, (.inr (2, [.null, .null, .null, .null, .int 0]) : va_E))]) hP
  have hD := va_D.swap (a := [(h0, (.inr (8, [.null, .null, .null, .null, .null, .null, .null, .null]) : va_E))]) (b := zW cI cG ad0 L0 zM0) (c := [(q1, (.inr (2, [.null, .null, .null, .null, .int 0]) : va_E))]) hD
  have hP : va_P D vwCl ([(h0, (.inr (8, [.null, .null, .null, .null, .null, .null, .null, .null]) : va_E))] ++ (q1, (.inr (2, [.null, .null, .null, .null, .int 0]) : va_E)) :: zW cI cG ad0 L0 zM0) H := hP
  have hD : va_D A ([(h0, (.inr (8, [.null, .null, .null, .null, .null, .null, .null, .null]) : va_E))] ++ (q1, (.inr (2, [.null, .null, .null, .null, .int 0]) : va_E)) :: zW cI cG ad0 L0 zM0) := hD
  refine lv_dup hx hb dX8_init_8 rfl ?_
  refine zn_call (r := [(h0, (.inr (8, [.null, .null, .null, .null, .null, .null, .null, .null]) : va_E))]) i_X2 okY_X2_init ⟨hx, hb, hml, hown, hts⟩ rfl rfl (zU_in (by decide +kernel) (by decide +kernel)) (zU_in (by decide +kernel) (by decide +kernel)) (by decide +kernel) hts hK hN hAO hP hD hS hA hcl (by decide) (by decide) (by decide) ⟨Nat.le_of_ble_eq_true rfl, Nat.le_of_ble_eq_true rfl⟩ ⟨Nat.le_of_ble_eq_true rfl, Nat.le_of_ble_eq_true rfl⟩ hl.1 (Nat.le_of_ble_eq_true rfl) dX8_init_9 (fun ad1 H locs hag eq1 hcl hP hD hS => ?_)
  have hcl : zcl L1 := hcl
  have hP : va_P D vwCl ((h0, (.inr (8, [.null, .null, .null, .null, .null, .null, .null, .null]) : va_E)) :: zW cI cG ad1 L1 zM0) H := hP
  have hD : va_D A ((h0, (.inr (8, [.null, .null, .null, .null, .null, .null, .null, .null]) : va_E)) :: zW cI cG ad1 L1 zM0) := hD
  have e1 : ad1 1 = q1 := eq1
  refine va_putF (D := D) (ci := 8) (v := .ref q1) (ty := (.object "PiperHouse$Movements")) (C := RX8) (T := TX8) (N := 8) hx hb hts uin_8 tyX8 tyX8_ok nmX8 hown hK hP hD hS 0 rfl rfl 0 (by decide) (hts (.fieldLink RX8 12 RX8 "movements" "LPiperHouse$Movements;") (zU_in (by decide +kernel) (by decide +kernel))) (fun _ h9 => h9) rfl hin rfl (by decide +kernel) rfl rfl (Nat.le_of_ble_eq_true rfl) dX8_init_12 (fun H locs hP hD hS => ?_)
  have hP : va_P D vwCl ((h0, (.inr (8, [.ref q1, .null, .null, .null, .null, .null, .null, .null]) : va_E)) :: zW cI cG ad1 L1 zM0) H := hP
  have hD : va_D A ((h0, (.inr (8, [.ref q1, .null, .null, .null, .null, .null, .null, .null]) : va_E)) :: zW cI cG ad1 L1 zM0) := hD
  refine lv_aload_n hx hb dX8_init_15 rfl (lv_at hl 0 rfl) ?_
  refine va_new (ci := 7) (fs := [.null, .null, .null, .null, .int 0]) (C := RX7) (T := TX7) (N := 5) hx hb hts uin_7 tyX7 tyX7_ok hown (hts (.classLink RX8 16 RX7) (zU_in (by decide +kernel) (by decide +kernel))) (hts (.instantiable RX7 5) (zU_in (by decide +kernel) (by decide +kernel))) (hts (.initialized RX7) (zU_in (by decide +kernel) (by decide +kernel))) hK hP hD hS hA rfl (fun j hj => by rcases (show j = 0 ∨ j = 1 ∨ j = 2 ∨ j = 3 ∨ j = 4 by omega) with rfl | rfl | rfl | rfl | rfl <;> rfl) (Nat.le_of_ble_eq_true rfl) (Nat.le_of_ble_eq_true rfl) dX8_init_16 (fun q2 H hP hD hS => ?_)
  have hP := va_P.swap (a := [(h0, (.inr (8, [.ref q1, .null, .null, .null, .null, .null, .null, .null]) : va_E))]) (b := zW cI cG ad1 L1 zM0) (c := [(q2, (.inr (7, [.null, .null, .null, .null, .int 0]) : va_E))]) hP
  have hD := va_D.swap (a := [(h0, (.inr (8, [.ref q1, .null, .null, .null, .null, .null, .null, .null]) : va_E))]) (b := zW cI cG ad1 L1 zM0) (c := [(q2, (.inr (7, [.null, .null, .null, .null, .int 0]) : va_E))]) hD
  have hP : va_P D vwCl ([(h0, (.inr (8, [.ref q1, .null, .null, .null, .null, .null, .null, .null]) : va_E))] ++ (q2, (.inr (7, [.null, .null, .null, .null, .int 0]) : va_E)) :: zW cI cG ad1 L1 zM0) H := hP
  have hD : va_D A ([(h0, (.inr (8, [.ref q1, .null, .null, .null, .null, .null, .null, .null]) : va_E))] ++ (q2, (.inr (7, [.null, .null, .null, .null, .int 0]) : va_E)) :: zW cI cG ad1 L1 zM0) := hD
  refine lv_dup hx hb dX8_init_19 rfl ?_
  refine lv_aload_n hx hb dX8_init_20 rfl (lv_at hl 0 rfl) ?_
  refine va_get (D := D) (ci := 8) (v := .ref q1) (C := RX8) (T := TX8) (N := 8) hx hb hts uin_8 hown hK hP 0 rfl rfl 0 (by decide) (hts (.fieldLink RX8 12 RX8 "movements" "LPiperHouse$Movements;") (zU_in (by decide +kernel) (by decide +kernel))) (fun _ h9 => h9) rfl dX8_init_21 ?_
  rw [← e1]
  refine zn_call (r := [(h0, (.inr (8, [.ref q1, .null, .null, .null, .null, .null, .null, .null]) : va_E))]) i_X7 okY_X7_init ⟨hx, hb, hml, hown, hts⟩ rfl rfl (zU_in (by decide +kernel) (by decide +kernel)) (zU_in (by decide +kernel) (by decide +kernel)) (by decide +kernel) hts hK hN hAO hP hD hS hA hcl (by decide) (by decide) (by decide) ⟨Nat.le_of_ble_eq_true rfl, Nat.le_of_ble_eq_true rfl⟩ ⟨Nat.le_of_ble_eq_true rfl, Nat.le_of_ble_eq_true rfl⟩ hl.1 (Nat.le_of_ble_eq_true rfl) dX8_init_24 (fun ad2 H locs hag eq2 hcl hP hD hS => ?_)
  have hcl : zcl L2 := hcl
  have hP : va_P D vwCl ((h0, (.inr (8, [.ref q1, .null, .null, .null, .null, .null, .null, .null]) : va_E)) :: zW cI cG ad2 L2 zM0) H := hP
  have hD : va_D A ((h0, (.inr (8, [.ref q1, .null, .null, .null, .null, .null, .null, .null]) : va_E)) :: zW cI cG ad2 L2 zM0) := hD
  have e1 : ad2 1 = q1 := (hag 1 (by decide)).trans e1
  have e2 : ad2 2 = q2 := eq2
  refine va_putF (D := D) (ci := 8) (v := .ref q2) (ty := (.object "PiperHouse$Tune")) (C := RX8) (T := TX8) (N := 8) hx hb hts uin_8 tyX8 tyX8_ok nmX8 hown hK hP hD hS 0 rfl rfl 1 (by decide) (hts (.fieldLink RX8 21 RX8 "tune" "LPiperHouse$Tune;") (zU_in (by decide +kernel) (by decide +kernel))) (fun _ h9 => h9) rfl hin rfl (by decide +kernel) rfl rfl (Nat.le_of_ble_eq_true rfl) dX8_init_27 (fun H locs hP hD hS => ?_)
  have hP : va_P D vwCl ((h0, (.inr (8, [.ref q1, .ref q2, .null, .null, .null, .null, .null, .null]) : va_E)) :: zW cI cG ad2 L2 zM0) H := hP
  have hD : va_D A ((h0, (.inr (8, [.ref q1, .ref q2, .null, .null, .null, .null, .null, .null]) : va_E)) :: zW cI cG ad2 L2 zM0) := hD
  refine lv_aload_n hx hb dX8_init_30 rfl (lv_at hl 0 rfl) ?_
  refine va_new (ci := 6) (fs := [.null, .null, .null, .null, .int 0, .null, .null, .null]) (C := RX6) (T := TX6) (N := 8) hx hb hts uin_6 tyX6 tyX6_ok hown (hts (.classLink RX8 25 RX6) (zU_in (by decide +kernel) (by decide +kernel))) (hts (.instantiable RX6 8) (zU_in (by decide +kernel) (by decide +kernel))) (hts (.initialized RX6) (zU_in (by decide +kernel) (by decide +kernel))) hK hP hD hS hA rfl (fun j hj => by rcases (show j = 0 ∨ j = 1 ∨ j = 2 ∨ j = 3 ∨ j = 4 ∨ j = 5 ∨ j = 6 ∨ j = 7 by omega) with rfl | rfl | rfl | rfl | rfl | rfl | rfl | rfl <;> rfl) (Nat.le_of_ble_eq_true rfl) (Nat.le_of_ble_eq_true rfl) dX8_init_31 (fun q3 H hP hD hS => ?_)
  have hP := va_P.swap (a := [(h0, (.inr (8, [.ref q1, .ref q2, .null, .null, .null, .null, .null, .null]) : va_E))]) (b := zW cI cG ad2 L2 zM0) (c := [(q3, (.inr (6, [.null, .null, .null, .null, .int 0, .null, .null, .null]) : va_E))]) hP
  have hD := va_D.swap (a := [(h0, (.inr (8, [.ref q1, .ref q2, .null, .null, .null, .null, .null, .null]) : va_E))]) (b := zW cI cG ad2 L2 zM0) (c := [(q3, (.inr (6, [.null, .null, .null, .null, .int 0, .null, .null, .null]) : va_E))]) hD
  have hP : va_P D vwCl ([(h0, (.inr (8, [.ref q1, .ref q2, .null, .null, .null, .null, .null, .null]) : va_E))] ++ (q3, (.inr (6, [.null, .null, .null, .null, .int 0, .null, .null, .null]) : va_E)) :: zW cI cG ad2 L2 zM0) H := hP
  have hD : va_D A ([(h0, (.inr (8, [.ref q1, .ref q2, .null, .null, .null, .null, .null, .null]) : va_E))] ++ (q3, (.inr (6, [.null, .null, .null, .null, .int 0, .null, .null, .null]) : va_E)) :: zW cI cG ad2 L2 zM0) := hD
  refine lv_dup hx hb dX8_init_34 rfl ?_
  refine lv_aload_n hx hb dX8_init_35 rfl (lv_at hl 0 rfl) ?_
  refine va_get (D := D) (ci := 8) (v := .ref q1) (C := RX8) (T := TX8) (N := 8) hx hb hts uin_8 hown hK hP 0 rfl rfl 0 (by decide) (hts (.fieldLink RX8 12 RX8 "movements" "LPiperHouse$Movements;") (zU_in (by decide +kernel) (by decide +kernel))) (fun _ h9 => h9) rfl dX8_init_36 ?_
  rw [← e1]
  refine zn_call (r := [(h0, (.inr (8, [.ref q1, .ref q2, .null, .null, .null, .null, .null, .null]) : va_E))]) i_X6 okY_X6_init ⟨hx, hb, hml, hown, hts⟩ rfl rfl (zU_in (by decide +kernel) (by decide +kernel)) (zU_in (by decide +kernel) (by decide +kernel)) (by decide +kernel) hts hK hN hAO hP hD hS hA hcl (by decide) (by decide) (by decide) ⟨Nat.le_of_ble_eq_true rfl, Nat.le_of_ble_eq_true rfl⟩ ⟨Nat.le_of_ble_eq_true rfl, Nat.le_of_ble_eq_true rfl⟩ hl.1 (Nat.le_of_ble_eq_true rfl) dX8_init_39 (fun ad3 H locs hag eq3 hcl hP hD hS => ?_)
  have hcl : zcl L3 := hcl
  have hP : va_P D vwCl ((h0, (.inr (8, [.ref q1, .ref q2, .null, .null, .null, .null, .null, .null]) : va_E)) :: zW cI cG ad3 L3 zM0) H := hP
  have hD : va_D A ((h0, (.inr (8, [.ref q1, .ref q2, .null, .null, .null, .null, .null, .null]) : va_E)) :: zW cI cG ad3 L3 zM0) := hD
  have e1 : ad3 1 = q1 := (hag 1 (by decide)).trans e1
  have e2 : ad3 2 = q2 := (hag 2 (by decide)).trans e2
  have e3 : ad3 3 = q3 := eq3
  refine va_putF (D := D) (ci := 8) (v := .ref q3) (ty := (.object "PiperHouse$Song")) (C := RX8) (T := TX8) (N := 8) hx hb hts uin_8 tyX8 tyX8_ok nmX8 hown hK hP hD hS 0 rfl rfl 2 (by decide) (hts (.fieldLink RX8 28 RX8 "song" "LPiperHouse$Song;") (zU_in (by decide +kernel) (by decide +kernel))) (fun _ h9 => h9) rfl hin rfl (by decide +kernel) rfl rfl (Nat.le_of_ble_eq_true rfl) dX8_init_42 (fun H locs hP hD hS => ?_)
  have hP : va_P D vwCl ((h0, (.inr (8, [.ref q1, .ref q2, .ref q3, .null, .null, .null, .null, .null]) : va_E)) :: zW cI cG ad3 L3 zM0) H := hP
  have hD : va_D A ((h0, (.inr (8, [.ref q1, .ref q2, .ref q3, .null, .null, .null, .null, .null]) : va_E)) :: zW cI cG ad3 L3 zM0) := hD
  refine lv_aload_n hx hb dX8_init_45 rfl (lv_at hl 0 rfl) ?_
  refine va_new (ci := 4) (fs := [.null, .null]) (C := RX4) (T := TX4) (N := 2) hx hb hts uin_4 tyX4 tyX4_ok hown (hts (.classLink RX8 32 RX4) (zU_in (by decide +kernel) (by decide +kernel))) (hts (.instantiable RX4 2) (zU_in (by decide +kernel) (by decide +kernel))) (hts (.initialized RX4) (zU_in (by decide +kernel) (by decide +kernel))) hK hP hD hS hA rfl (fun j hj => by rcases (show j = 0 ∨ j = 1 by omega) with rfl | rfl <;> rfl) (Nat.le_of_ble_eq_true rfl) (Nat.le_of_ble_eq_true rfl) dX8_init_46 (fun q4 H hP hD hS => ?_)
  have hP := va_P.swap (a := [(h0, (.inr (8, [.ref q1, .ref q2, .ref q3, .null, .null, .null, .null, .null]) : va_E))]) (b := zW cI cG ad3 L3 zM0) (c := [(q4, (.inr (4, [.null, .null]) : va_E))]) hP
  have hD := va_D.swap (a := [(h0, (.inr (8, [.ref q1, .ref q2, .ref q3, .null, .null, .null, .null, .null]) : va_E))]) (b := zW cI cG ad3 L3 zM0) (c := [(q4, (.inr (4, [.null, .null]) : va_E))]) hD
  have hP : va_P D vwCl ([(h0, (.inr (8, [.ref q1, .ref q2, .ref q3, .null, .null, .null, .null, .null]) : va_E))] ++ (q4, (.inr (4, [.null, .null]) : va_E)) :: zW cI cG ad3 L3 zM0) H := hP
  have hD : va_D A ([(h0, (.inr (8, [.ref q1, .ref q2, .ref q3, .null, .null, .null, .null, .null]) : va_E))] ++ (q4, (.inr (4, [.null, .null]) : va_E)) :: zW cI cG ad3 L3 zM0) := hD
  refine lv_dup hx hb dX8_init_49 rfl ?_
  refine zn_call (r := [(h0, (.inr (8, [.ref q1, .ref q2, .ref q3, .null, .null, .null, .null, .null]) : va_E))]) i_X4 okY_X4_init ⟨hx, hb, hml, hown, hts⟩ rfl rfl (zU_in (by decide +kernel) (by decide +kernel)) (zU_in (by decide +kernel) (by decide +kernel)) (by decide +kernel) hts hK hN hAO hP hD hS hA hcl (by decide) (by decide) (by decide) ⟨Nat.le_of_ble_eq_true rfl, Nat.le_of_ble_eq_true rfl⟩ ⟨Nat.le_of_ble_eq_true rfl, Nat.le_of_ble_eq_true rfl⟩ hl.1 (Nat.le_of_ble_eq_true rfl) dX8_init_50 (fun ad4 H locs hag eq4 hcl hP hD hS => ?_)
  have hcl : zcl L4 := hcl
  have hP : va_P D vwCl ((h0, (.inr (8, [.ref q1, .ref q2, .ref q3, .null, .null, .null, .null, .null]) : va_E)) :: zW cI cG ad4 L4 zM0) H := hP
  have hD : va_D A ((h0, (.inr (8, [.ref q1, .ref q2, .ref q3, .null, .null, .null, .null, .null]) : va_E)) :: zW cI cG ad4 L4 zM0) := hD
  have e1 : ad4 1 = q1 := (hag 1 (by decide)).trans e1
  have e2 : ad4 2 = q2 := (hag 2 (by decide)).trans e2
  have e3 : ad4 3 = q3 := (hag 3 (by decide)).trans e3
  have e4 : ad4 4 = q4 := eq4
  refine va_putF (D := D) (ci := 8) (v := .ref q4) (ty := (.object "PiperHouse$Rules")) (C := RX8) (T := TX8) (N := 8) hx hb hts uin_8 tyX8 tyX8_ok nmX8 hown hK hP hD hS 0 rfl rfl 3 (by decide) (hts (.fieldLink RX8 35 RX8 "rules" "LPiperHouse$Rules;") (zU_in (by decide +kernel) (by decide +kernel))) (fun _ h9 => h9) rfl hin rfl (by decide +kernel) rfl rfl (Nat.le_of_ble_eq_true rfl) dX8_init_53 (fun H locs hP hD hS => ?_)
  have hP : va_P D vwCl ((h0, (.inr (8, [.ref q1, .ref q2, .ref q3, .ref q4, .null, .null, .null, .null]) : va_E)) :: zW cI cG ad4 L4 zM0) H := hP
  have hD : va_D A ((h0, (.inr (8, [.ref q1, .ref q2, .ref q3, .ref q4, .null, .null, .null, .null]) : va_E)) :: zW cI cG ad4 L4 zM0) := hD
  refine lv_aload_n hx hb dX8_init_56 rfl (lv_at hl 0 rfl) ?_
  refine va_new (ci := 1) (fs := [.null, .null, .int 0]) (C := RX1) (T := TX1) (N := 3) hx hb hts uin_1 tyX1 tyX1_ok hown (hts (.classLink RX8 39 RX1) (zU_in (by decide +kernel) (by decide +kernel))) (hts (.instantiable RX1 3) (zU_in (by decide +kernel) (by decide +kernel))) (hts (.initialized RX1) (zU_in (by decide +kernel) (by decide +kernel))) hK hP hD hS hA rfl (fun j hj => by rcases (show j = 0 ∨ j = 1 ∨ j = 2 by omega) with rfl | rfl | rfl <;> rfl) (Nat.le_of_ble_eq_true rfl) (Nat.le_of_ble_eq_true rfl) dX8_init_57 (fun q5 H hP hD hS => ?_)
  have hP := va_P.swap (a := [(h0, (.inr (8, [.ref q1, .ref q2, .ref q3, .ref q4, .null, .null, .null, .null]) : va_E))]) (b := zW cI cG ad4 L4 zM0) (c := [(q5, (.inr (1, [.null, .null, .int 0]) : va_E))]) hP
  have hD := va_D.swap (a := [(h0, (.inr (8, [.ref q1, .ref q2, .ref q3, .ref q4, .null, .null, .null, .null]) : va_E))]) (b := zW cI cG ad4 L4 zM0) (c := [(q5, (.inr (1, [.null, .null, .int 0]) : va_E))]) hD
  have hP : va_P D vwCl ([(h0, (.inr (8, [.ref q1, .ref q2, .ref q3, .ref q4, .null, .null, .null, .null]) : va_E))] ++ (q5, (.inr (1, [.null, .null, .int 0]) : va_E)) :: zW cI cG ad4 L4 zM0) H := hP
  have hD : va_D A ([(h0, (.inr (8, [.ref q1, .ref q2, .ref q3, .ref q4, .null, .null, .null, .null]) : va_E))] ++ (q5, (.inr (1, [.null, .null, .int 0]) : va_E)) :: zW cI cG ad4 L4 zM0) := hD
  refine lv_dup hx hb dX8_init_60 rfl ?_
  refine lv_aload_n hx hb dX8_init_61 rfl (lv_at hl 0 rfl) ?_
  refine va_get (D := D) (ci := 8) (v := .ref q4) (C := RX8) (T := TX8) (N := 8) hx hb hts uin_8 hown hK hP 0 rfl rfl 3 (by decide) (hts (.fieldLink RX8 35 RX8 "rules" "LPiperHouse$Rules;") (zU_in (by decide +kernel) (by decide +kernel))) (fun _ h9 => h9) rfl dX8_init_62 ?_
  rw [← e4]
  refine zn_call (r := [(h0, (.inr (8, [.ref q1, .ref q2, .ref q3, .ref q4, .null, .null, .null, .null]) : va_E))]) i_X1 okY_X1_init ⟨hx, hb, hml, hown, hts⟩ rfl rfl (zU_in (by decide +kernel) (by decide +kernel)) (zU_in (by decide +kernel) (by decide +kernel)) (by decide +kernel) hts hK hN hAO hP hD hS hA hcl (by decide) (by decide) (by decide) ⟨Nat.le_of_ble_eq_true rfl, Nat.le_of_ble_eq_true rfl⟩ ⟨Nat.le_of_ble_eq_true rfl, Nat.le_of_ble_eq_true rfl⟩ hl.1 (Nat.le_of_ble_eq_true rfl) dX8_init_65 (fun ad5 H locs hag eq5 hcl hP hD hS => ?_)
  have hcl : zcl L5 := hcl
  have hP : va_P D vwCl ((h0, (.inr (8, [.ref q1, .ref q2, .ref q3, .ref q4, .null, .null, .null, .null]) : va_E)) :: zW cI cG ad5 L5 zM0) H := hP
  have hD : va_D A ((h0, (.inr (8, [.ref q1, .ref q2, .ref q3, .ref q4, .null, .null, .null, .null]) : va_E)) :: zW cI cG ad5 L5 zM0) := hD
  have e1 : ad5 1 = q1 := (hag 1 (by decide)).trans e1
  have e2 : ad5 2 = q2 := (hag 2 (by decide)).trans e2
  have e3 : ad5 3 = q3 := (hag 3 (by decide)).trans e3
  have e4 : ad5 4 = q4 := (hag 4 (by decide)).trans e4
  have e5 : ad5 5 = q5 := eq5
  refine va_putF (D := D) (ci := 8) (v := .ref q5) (ty := (.object "PiperHouse$Ground")) (C := RX8) (T := TX8) (N := 8) hx hb hts uin_8 tyX8 tyX8_ok nmX8 hown hK hP hD hS 0 rfl rfl 4 (by decide) (hts (.fieldLink RX8 44 RX8 "ground" "LPiperHouse$Ground;") (zU_in (by decide +kernel) (by decide +kernel))) (fun _ h9 => h9) rfl hin rfl (by decide +kernel) rfl rfl (Nat.le_of_ble_eq_true rfl) dX8_init_68 (fun H locs hP hD hS => ?_)
  have hP : va_P D vwCl ((h0, (.inr (8, [.ref q1, .ref q2, .ref q3, .ref q4, .ref q5, .null, .null, .null]) : va_E)) :: zW cI cG ad5 L5 zM0) H := hP
  have hD : va_D A ((h0, (.inr (8, [.ref q1, .ref q2, .ref q3, .ref q4, .ref q5, .null, .null, .null]) : va_E)) :: zW cI cG ad5 L5 zM0) := hD
  refine lv_aload_n hx hb dX8_init_71 rfl (lv_at hl 0 rfl) ?_
  refine va_new (ci := 5) (fs := [.null, .null, .null, .null, .int 0, .int 0, .int 0, .null, .null, .int 0, .null]) (C := RX5) (T := TX5) (N := 11) hx hb hts uin_5 tyX5 tyX5_ok hown (hts (.classLink RX8 48 RX5) (zU_in (by decide +kernel) (by decide +kernel))) (hts (.instantiable RX5 11) (zU_in (by decide +kernel) (by decide +kernel))) (hts (.initialized RX5) (zU_in (by decide +kernel) (by decide +kernel))) hK hP hD hS hA rfl (fun j hj => by rcases (show j = 0 ∨ j = 1 ∨ j = 2 ∨ j = 3 ∨ j = 4 ∨ j = 5 ∨ j = 6 ∨ j = 7 ∨ j = 8 ∨ j = 9 ∨ j = 10 by omega) with rfl | rfl | rfl | rfl | rfl | rfl | rfl | rfl | rfl | rfl | rfl <;> rfl) (Nat.le_of_ble_eq_true rfl) (Nat.le_of_ble_eq_true rfl) dX8_init_72 (fun q6 H hP hD hS => ?_)
  have hP := va_P.swap (a := [(h0, (.inr (8, [.ref q1, .ref q2, .ref q3, .ref q4, .ref q5, .null, .null, .null]) : va_E))]) (b := zW cI cG ad5 L5 zM0) (c := [(q6, (.inr (5, [.null, .null, .null, .null, .int 0, .int 0, .int 0, .null, .null, .int 0, .null]) : va_E))]) hP
  have hD := va_D.swap (a := [(h0, (.inr (8, [.ref q1, .ref q2, .ref q3, .ref q4, .ref q5, .null, .null, .null]) : va_E))]) (b := zW cI cG ad5 L5 zM0) (c := [(q6, (.inr (5, [.null, .null, .null, .null, .int 0, .int 0, .int 0, .null, .null, .int 0, .null]) : va_E))]) hD
  have hP : va_P D vwCl ([(h0, (.inr (8, [.ref q1, .ref q2, .ref q3, .ref q4, .ref q5, .null, .null, .null]) : va_E))] ++ (q6, (.inr (5, [.null, .null, .null, .null, .int 0, .int 0, .int 0, .null, .null, .int 0, .null]) : va_E)) :: zW cI cG ad5 L5 zM0) H := hP
  have hD : va_D A ([(h0, (.inr (8, [.ref q1, .ref q2, .ref q3, .ref q4, .ref q5, .null, .null, .null]) : va_E))] ++ (q6, (.inr (5, [.null, .null, .null, .null, .int 0, .int 0, .int 0, .null, .null, .int 0, .null]) : va_E)) :: zW cI cG ad5 L5 zM0) := hD
  refine lv_dup hx hb dX8_init_75 rfl ?_
  refine lv_aload_n hx hb dX8_init_76 rfl (lv_at hl 0 rfl) ?_
  refine va_get (D := D) (ci := 8) (v := .ref q4) (C := RX8) (T := TX8) (N := 8) hx hb hts uin_8 hown hK hP 0 rfl rfl 3 (by decide) (hts (.fieldLink RX8 35 RX8 "rules" "LPiperHouse$Rules;") (zU_in (by decide +kernel) (by decide +kernel))) (fun _ h9 => h9) rfl dX8_init_77 ?_
  rw [← e4]
  refine zn_call (r := [(h0, (.inr (8, [.ref q1, .ref q2, .ref q3, .ref q4, .ref q5, .null, .null, .null]) : va_E))]) i_X5 okY_X5_init ⟨hx, hb, hml, hown, hts⟩ rfl rfl (zU_in (by decide +kernel) (by decide +kernel)) (zU_in (by decide +kernel) (by decide +kernel)) (by decide +kernel) hts hK hN hAO hP hD hS hA hcl (by decide) (by decide) (by decide) ⟨Nat.le_of_ble_eq_true rfl, Nat.le_of_ble_eq_true rfl⟩ ⟨Nat.le_of_ble_eq_true rfl, Nat.le_of_ble_eq_true rfl⟩ hl.1 (Nat.le_of_ble_eq_true rfl) dX8_init_80 (fun ad6 H locs hag eq6 hcl hP hD hS => ?_)
  have hcl : zcl L6 := hcl
  have hP : va_P D vwCl ((h0, (.inr (8, [.ref q1, .ref q2, .ref q3, .ref q4, .ref q5, .null, .null, .null]) : va_E)) :: zW cI cG ad6 L6 zM0) H := hP
  have hD : va_D A ((h0, (.inr (8, [.ref q1, .ref q2, .ref q3, .ref q4, .ref q5, .null, .null, .null]) : va_E)) :: zW cI cG ad6 L6 zM0) := hD
  have e1 : ad6 1 = q1 := (hag 1 (by decide)).trans e1
  have e2 : ad6 2 = q2 := (hag 2 (by decide)).trans e2
  have e3 : ad6 3 = q3 := (hag 3 (by decide)).trans e3
  have e4 : ad6 4 = q4 := (hag 4 (by decide)).trans e4
  have e5 : ad6 5 = q5 := (hag 5 (by decide)).trans e5
  have e6 : ad6 6 = q6 := eq6
  refine va_putF (D := D) (ci := 8) (v := .ref q6) (ty := (.object "PiperHouse$Sheets")) (C := RX8) (T := TX8) (N := 8) hx hb hts uin_8 tyX8 tyX8_ok nmX8 hown hK hP hD hS 0 rfl rfl 5 (by decide) (hts (.fieldLink RX8 51 RX8 "sheets" "LPiperHouse$Sheets;") (zU_in (by decide +kernel) (by decide +kernel))) (fun _ h9 => h9) rfl hin rfl (by decide +kernel) rfl rfl (Nat.le_of_ble_eq_true rfl) dX8_init_83 (fun H locs hP hD hS => ?_)
  have hP : va_P D vwCl ((h0, (.inr (8, [.ref q1, .ref q2, .ref q3, .ref q4, .ref q5, .ref q6, .null, .null]) : va_E)) :: zW cI cG ad6 L6 zM0) H := hP
  have hD : va_D A ((h0, (.inr (8, [.ref q1, .ref q2, .ref q3, .ref q4, .ref q5, .ref q6, .null, .null]) : va_E)) :: zW cI cG ad6 L6 zM0) := hD
  refine lv_aload_n hx hb dX8_init_86 rfl (lv_at hl 0 rfl) ?_
  refine va_new (ci := 3) (fs := [.null, .null, .null, .null, .int 0, .int 0, .int 0]) (C := RX3) (T := TX3) (N := 7) hx hb hts uin_3 tyX3 tyX3_ok hown (hts (.classLink RX8 55 RX3) (zU_in (by decide +kernel) (by decide +kernel))) (hts (.instantiable RX3 7) (zU_in (by decide +kernel) (by decide +kernel))) (hts (.initialized RX3) (zU_in (by decide +kernel) (by decide +kernel))) hK hP hD hS hA rfl (fun j hj => by rcases (show j = 0 ∨ j = 1 ∨ j = 2 ∨ j = 3 ∨ j = 4 ∨ j = 5 ∨ j = 6 by omega) with rfl | rfl | rfl | rfl | rfl | rfl | rfl <;> rfl) (Nat.le_of_ble_eq_true rfl) (Nat.le_of_ble_eq_true rfl) dX8_init_87 (fun q7 H hP hD hS => ?_)
  have hP := va_P.swap (a := [(h0, (.inr (8, [.ref q1, .ref q2, .ref q3, .ref q4, .ref q5, .ref q6, .null, .null]) : va_E))]) (b := zW cI cG ad6 L6 zM0) (c := [(q7, (.inr (3, [.null, .null, .null, .null, .int 0, .int 0, .int 0]) : va_E))]) hP
  have hD := va_D.swap (a := [(h0, (.inr (8, [.ref q1, .ref q2, .ref q3, .ref q4, .ref q5, .ref q6, .null, .null]) : va_E))]) (b := zW cI cG ad6 L6 zM0) (c := [(q7, (.inr (3, [.null, .null, .null, .null, .int 0, .int 0, .int 0]) : va_E))]) hD
  have hP : va_P D vwCl ([(h0, (.inr (8, [.ref q1, .ref q2, .ref q3, .ref q4, .ref q5, .ref q6, .null, .null]) : va_E))] ++ (q7, (.inr (3, [.null, .null, .null, .null, .int 0, .int 0, .int 0]) : va_E)) :: zW cI cG ad6 L6 zM0) H := hP
  have hD : va_D A ([(h0, (.inr (8, [.ref q1, .ref q2, .ref q3, .ref q4, .ref q5, .ref q6, .null, .null]) : va_E))] ++ (q7, (.inr (3, [.null, .null, .null, .null, .int 0, .int 0, .int 0]) : va_E)) :: zW cI cG ad6 L6 zM0) := hD
  refine lv_dup hx hb dX8_init_90 rfl ?_
  refine zn_call (r := [(h0, (.inr (8, [.ref q1, .ref q2, .ref q3, .ref q4, .ref q5, .ref q6, .null, .null]) : va_E))]) i_X3 okY_X3_init ⟨hx, hb, hml, hown, hts⟩ rfl rfl (zU_in (by decide +kernel) (by decide +kernel)) (zU_in (by decide +kernel) (by decide +kernel)) (by decide +kernel) hts hK hN hAO hP hD hS hA hcl (by decide) (by decide) (by decide) ⟨Nat.le_of_ble_eq_true rfl, Nat.le_of_ble_eq_true rfl⟩ ⟨Nat.le_of_ble_eq_true rfl, Nat.le_of_ble_eq_true rfl⟩ hl.1 (Nat.le_of_ble_eq_true rfl) dX8_init_91 (fun ad7 H locs hag eq7 hcl hP hD hS => ?_)
  have hcl : zcl L7 := hcl
  have hP : va_P D vwCl ((h0, (.inr (8, [.ref q1, .ref q2, .ref q3, .ref q4, .ref q5, .ref q6, .null, .null]) : va_E)) :: zW cI cG ad7 L7 zM0) H := hP
  have hD : va_D A ((h0, (.inr (8, [.ref q1, .ref q2, .ref q3, .ref q4, .ref q5, .ref q6, .null, .null]) : va_E)) :: zW cI cG ad7 L7 zM0) := hD
  have e1 : ad7 1 = q1 := (hag 1 (by decide)).trans e1
  have e2 : ad7 2 = q2 := (hag 2 (by decide)).trans e2
  have e3 : ad7 3 = q3 := (hag 3 (by decide)).trans e3
  have e4 : ad7 4 = q4 := (hag 4 (by decide)).trans e4
  have e5 : ad7 5 = q5 := (hag 5 (by decide)).trans e5
  have e6 : ad7 6 = q6 := (hag 6 (by decide)).trans e6
  have e7 : ad7 7 = q7 := eq7
  refine va_putF (D := D) (ci := 8) (v := .ref q7) (ty := (.object "PiperHouse$Pipers")) (C := RX8) (T := TX8) (N := 8) hx hb hts uin_8 tyX8 tyX8_ok nmX8 hown hK hP hD hS 0 rfl rfl 6 (by decide) (hts (.fieldLink RX8 58 RX8 "pipers" "LPiperHouse$Pipers;") (zU_in (by decide +kernel) (by decide +kernel))) (fun _ h9 => h9) rfl hin rfl (by decide +kernel) rfl rfl (Nat.le_of_ble_eq_true rfl) dX8_init_94 (fun H locs hP hD hS => ?_)
  have hP : va_P D vwCl ((h0, (.inr (8, [.ref q1, .ref q2, .ref q3, .ref q4, .ref q5, .ref q6, .ref q7, .null]) : va_E)) :: zW cI cG ad7 L7 zM0) H := hP
  have hD : va_D A ((h0, (.inr (8, [.ref q1, .ref q2, .ref q3, .ref q4, .ref q5, .ref q6, .ref q7, .null]) : va_E)) :: zW cI cG ad7 L7 zM0) := hD
  refine lv_aload_n hx hb dX8_init_97 rfl (lv_at hl 0 rfl) ?_
  refine va_new (ci := 0) (fs := [.null]) (C := RX0) (T := TX0) (N := 1) hx hb hts uin_0 tyX0 tyX0_ok hown (hts (.classLink RX8 62 RX0) (zU_in (by decide +kernel) (by decide +kernel))) (hts (.instantiable RX0 1) (zU_in (by decide +kernel) (by decide +kernel))) (hts (.initialized RX0) (zU_in (by decide +kernel) (by decide +kernel))) hK hP hD hS hA rfl (fun j hj => by rcases (show j = 0 by omega) with rfl <;> rfl) (Nat.le_of_ble_eq_true rfl) (Nat.le_of_ble_eq_true rfl) dX8_init_98 (fun q8 H hP hD hS => ?_)
  have hP := va_P.swap (a := [(h0, (.inr (8, [.ref q1, .ref q2, .ref q3, .ref q4, .ref q5, .ref q6, .ref q7, .null]) : va_E))]) (b := zW cI cG ad7 L7 zM0) (c := [(q8, (.inr (0, [.null]) : va_E))]) hP
  have hD := va_D.swap (a := [(h0, (.inr (8, [.ref q1, .ref q2, .ref q3, .ref q4, .ref q5, .ref q6, .ref q7, .null]) : va_E))]) (b := zW cI cG ad7 L7 zM0) (c := [(q8, (.inr (0, [.null]) : va_E))]) hD
  have hP : va_P D vwCl ([(h0, (.inr (8, [.ref q1, .ref q2, .ref q3, .ref q4, .ref q5, .ref q6, .ref q7, .null]) : va_E))] ++ (q8, (.inr (0, [.null]) : va_E)) :: zW cI cG ad7 L7 zM0) H := hP
  have hD : va_D A ([(h0, (.inr (8, [.ref q1, .ref q2, .ref q3, .ref q4, .ref q5, .ref q6, .ref q7, .null]) : va_E))] ++ (q8, (.inr (0, [.null]) : va_E)) :: zW cI cG ad7 L7 zM0) := hD
  refine lv_dup hx hb dX8_init_101 rfl ?_
  refine zn_callN (r := [(h0, (.inr (8, [.ref q1, .ref q2, .ref q3, .ref q4, .ref q5, .ref q6, .ref q7, .null]) : va_E))]) i_X0 okY_X0_init ⟨hx, hb, hml, hown, hts⟩ rfl rfl hDN (zU_in (by decide +kernel) (by decide +kernel)) (by decide +kernel) hts hK hN hAO hP hD hS hA hcl (by decide) (by decide) (by decide) ⟨Nat.le_of_ble_eq_true rfl, Nat.le_of_ble_eq_true rfl⟩ ⟨Nat.le_of_ble_eq_true rfl, Nat.le_of_ble_eq_true rfl⟩ hl.1 (Nat.le_of_ble_eq_true rfl) dX8_init_102 (fun ad8 H locs hag eq8 hcl hP hD hS => ?_)
  have hcl : zcl L8 := hcl
  have hP : va_P D vwCl ((h0, (.inr (8, [.ref q1, .ref q2, .ref q3, .ref q4, .ref q5, .ref q6, .ref q7, .null]) : va_E)) :: zW cI cG ad8 L8 zM0) H := hP
  have hD : va_D A ((h0, (.inr (8, [.ref q1, .ref q2, .ref q3, .ref q4, .ref q5, .ref q6, .ref q7, .null]) : va_E)) :: zW cI cG ad8 L8 zM0) := hD
  have e1 : ad8 1 = q1 := (hag 1 (by decide)).trans e1
  have e2 : ad8 2 = q2 := (hag 2 (by decide)).trans e2
  have e3 : ad8 3 = q3 := (hag 3 (by decide)).trans e3
  have e4 : ad8 4 = q4 := (hag 4 (by decide)).trans e4
  have e5 : ad8 5 = q5 := (hag 5 (by decide)).trans e5
  have e6 : ad8 6 = q6 := (hag 6 (by decide)).trans e6
  have e7 : ad8 7 = q7 := (hag 7 (by decide)).trans e7
  have e8 : ad8 8 = q8 := eq8
  refine va_putF (D := D) (ci := 8) (v := .ref q8) (ty := (.object "PiperHouse$Drone")) (C := RX8) (T := TX8) (N := 8) hx hb hts uin_8 tyX8 tyX8_ok nmX8 hown hK hP hD hS 0 rfl rfl 7 (by decide) (hts (.fieldLink RX8 65 RX8 "drone" "LPiperHouse$Drone;") (zU_in (by decide +kernel) (by decide +kernel))) (fun _ h9 => h9) rfl hin rfl (by decide +kernel) rfl rfl (Nat.le_of_ble_eq_true rfl) dX8_init_105 (fun H locs hP hD hS => ?_)
  have hP : va_P D vwCl ((h0, (.inr (8, [.ref q1, .ref q2, .ref q3, .ref q4, .ref q5, .ref q6, .ref q7, .ref q8]) : va_E)) :: zW cI cG ad8 L8 zM0) H := hP
  have hD : va_D A ((h0, (.inr (8, [.ref q1, .ref q2, .ref q3, .ref q4, .ref q5, .ref q6, .ref q7, .ref q8]) : va_E)) :: zW cI cG ad8 L8 zM0) := hD
  have hz : zclk LH (zlay 0) := by
    rw [lay_0]
    intro v hv
    simp only [List.mem_cons, List.not_mem_nil, or_false, false_or, Option.some.injEq, reduceCtorEq] at hv
    rcases hv with rfl | rfl | rfl | rfl | rfl | rfl | rfl | rfl <;> (show _ ∈ _; decide)
  have hcl0 := hcl
  have hcl : zcl LH := zcl_own hcl hz
  rw [zW_own (o := 0) hcl0 (by decide) (by rw [zE_obj lay_0]; simp [zfv, zcv, adU, e1, e2, e3, e4, e5, e6, e7, e8])] at hP hD
  refine W.widen (k := 73) (n := 751) (Nat.le_of_ble_eq_true rfl) (Nat.le_of_ble_eq_true rfl) ?_
  exact W.vret hx hb hr (fun t ht hW => ⟨⟨_, rfl, ⟨rfl, hcl⟩, by rw [ht]; exact hP, hD⟩, hS.F ht⟩) hS.2.2 dX8_init_108
