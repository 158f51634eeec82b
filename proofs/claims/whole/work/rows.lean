section
-- ===== PART A: goes FIRST, ahead of the names: the tables' words, and 'selects' of the private methods out of them =====
/-- a private method of a class that the tables say can be made, by its rows of tables_1 -/
def lw_okq (q : MethodName × Nat) : Prop := (q.1.cls ≠ "java/lang/invoke/MethodHandle" ∧ q.1.cls ≠ "java/lang/invoke/VarHandle") ∧ Cond.instantiable q.1.cls q.2 ∈ tables_1 ∧ Cond.privateMethod q.1 ∈ tables_1 ∧ Cond.instanceMethod q.1 ∈ tables_1
theorem lw_p0 : lw_okq (⟨"PiperHouse$Movements", "repeatsGrace", "(I)Z"⟩, 5) := ⟨⟨by decide +kernel, by decide +kernel⟩, List.mem_of_getElem? (i := 24) (by decide +kernel), List.mem_of_getElem? (i := 311) (by decide +kernel), List.mem_of_getElem? (i := 312) (by decide +kernel)⟩
theorem lw_p1 : lw_okq (⟨"PiperHouse", "isStep", "(I)Z"⟩, 8) := ⟨⟨by decide +kernel, by decide +kernel⟩, List.mem_of_getElem? (i := 16) (by decide +kernel), List.mem_of_getElem? (i := 330) (by decide +kernel), List.mem_of_getElem? (i := 331) (by decide +kernel)⟩
theorem lw_p2 : lw_okq (⟨"PiperHouse$Tune", "holdsWith", "(II)Z"⟩, 5) := ⟨⟨by decide +kernel, by decide +kernel⟩, List.mem_of_getElem? (i := 53) (by decide +kernel), List.mem_of_getElem? (i := 346) (by decide +kernel), List.mem_of_getElem? (i := 347) (by decide +kernel)⟩
theorem lw_p3 : lw_okq (⟨"PiperHouse$Tune", "waysAt", "(I)I"⟩, 5) := ⟨⟨by decide +kernel, by decide +kernel⟩, List.mem_of_getElem? (i := 53) (by decide +kernel), List.mem_of_getElem? (i := 364) (by decide +kernel), List.mem_of_getElem? (i := 365) (by decide +kernel)⟩
theorem lw_p4 : lw_okq (⟨"PiperHouse$Song", "readOn", "(II)V"⟩, 8) := ⟨⟨by decide +kernel, by decide +kernel⟩, List.mem_of_getElem? (i := 78) (by decide +kernel), List.mem_of_getElem? (i := 424) (by decide +kernel), List.mem_of_getElem? (i := 425) (by decide +kernel)⟩
theorem lw_p5 : lw_okq (⟨"PiperHouse$Song", "notesFor", "(II)I"⟩, 8) := ⟨⟨by decide +kernel, by decide +kernel⟩, List.mem_of_getElem? (i := 78) (by decide +kernel), List.mem_of_getElem? (i := 428) (by decide +kernel), List.mem_of_getElem? (i := 429) (by decide +kernel)⟩
theorem lw_p6 : lw_okq (⟨"PiperHouse$Song", "hasHead", "(III)Z"⟩, 8) := ⟨⟨by decide +kernel, by decide +kernel⟩, List.mem_of_getElem? (i := 78) (by decide +kernel), List.mem_of_getElem? (i := 432) (by decide +kernel), List.mem_of_getElem? (i := 433) (by decide +kernel)⟩
theorem lw_p7 : lw_okq (⟨"PiperHouse$Song", "addRows", "(II)V"⟩, 8) := ⟨⟨by decide +kernel, by decide +kernel⟩, List.mem_of_getElem? (i := 78) (by decide +kernel), List.mem_of_getElem? (i := 437) (by decide +kernel), List.mem_of_getElem? (i := 438) (by decide +kernel)⟩
theorem lw_p8 : lw_okq (⟨"PiperHouse$Song", "markOpen", "(I)V"⟩, 8) := ⟨⟨by decide +kernel, by decide +kernel⟩, List.mem_of_getElem? (i := 78) (by decide +kernel), List.mem_of_getElem? (i := 455) (by decide +kernel), List.mem_of_getElem? (i := 456) (by decide +kernel)⟩
theorem lw_p9 : lw_okq (⟨"PiperHouse$Song", "openAmong", "(III)I"⟩, 8) := ⟨⟨by decide +kernel, by decide +kernel⟩, List.mem_of_getElem? (i := 78) (by decide +kernel), List.mem_of_getElem? (i := 459) (by decide +kernel), List.mem_of_getElem? (i := 460) (by decide +kernel)⟩
theorem lw_p10 : lw_okq (⟨"PiperHouse$Song", "goesOn", "(III)Z"⟩, 8) := ⟨⟨by decide +kernel, by decide +kernel⟩, List.mem_of_getElem? (i := 78) (by decide +kernel), List.mem_of_getElem? (i := 463) (by decide +kernel), List.mem_of_getElem? (i := 464) (by decide +kernel)⟩
theorem lw_p11 : lw_okq (⟨"PiperHouse$Song", "firstStep", "(III)I"⟩, 8) := ⟨⟨by decide +kernel, by decide +kernel⟩, List.mem_of_getElem? (i := 78) (by decide +kernel), List.mem_of_getElem? (i := 467) (by decide +kernel), List.mem_of_getElem? (i := 468) (by decide +kernel)⟩
theorem lw_p12 : lw_okq (⟨"PiperHouse", "isCell", "(II)Z"⟩, 8) := ⟨⟨by decide +kernel, by decide +kernel⟩, List.mem_of_getElem? (i := 16) (by decide +kernel), List.mem_of_getElem? (i := 553) (by decide +kernel), List.mem_of_getElem? (i := 554) (by decide +kernel)⟩
theorem lw_p13 : lw_okq (⟨"PiperHouse", "isSheet", "(I)Z"⟩, 8) := ⟨⟨by decide +kernel, by decide +kernel⟩, List.mem_of_getElem? (i := 16) (by decide +kernel), List.mem_of_getElem? (i := 557) (by decide +kernel), List.mem_of_getElem? (i := 558) (by decide +kernel)⟩
theorem lw_p14 : lw_okq (⟨"PiperHouse$Sheets", "poll", "()V"⟩, 11) := ⟨⟨by decide +kernel, by decide +kernel⟩, List.mem_of_getElem? (i := 144) (by decide +kernel), List.mem_of_getElem? (i := 577) (by decide +kernel), List.mem_of_getElem? (i := 578) (by decide +kernel)⟩
theorem lw_p15 : lw_okq (⟨"PiperHouse$Sheets", "vote", "(II)V"⟩, 11) := ⟨⟨by decide +kernel, by decide +kernel⟩, List.mem_of_getElem? (i := 144) (by decide +kernel), List.mem_of_getElem? (i := 582) (by decide +kernel), List.mem_of_getElem? (i := 583) (by decide +kernel)⟩
def lw_privs_1 : List (MethodName × Nat) := [(⟨"PiperHouse$Movements", "repeatsGrace", "(I)Z"⟩, 5), (⟨"PiperHouse", "isStep", "(I)Z"⟩, 8), (⟨"PiperHouse$Tune", "holdsWith", "(II)Z"⟩, 5), (⟨"PiperHouse$Tune", "waysAt", "(I)I"⟩, 5), (⟨"PiperHouse$Song", "readOn", "(II)V"⟩, 8), (⟨"PiperHouse$Song", "notesFor", "(II)I"⟩, 8), (⟨"PiperHouse$Song", "hasHead", "(III)Z"⟩, 8), (⟨"PiperHouse$Song", "addRows", "(II)V"⟩, 8), (⟨"PiperHouse$Song", "markOpen", "(I)V"⟩, 8), (⟨"PiperHouse$Song", "openAmong", "(III)I"⟩, 8), (⟨"PiperHouse$Song", "goesOn", "(III)Z"⟩, 8), (⟨"PiperHouse$Song", "firstStep", "(III)I"⟩, 8), (⟨"PiperHouse", "isCell", "(II)Z"⟩, 8), (⟨"PiperHouse", "isSheet", "(I)Z"⟩, 8), (⟨"PiperHouse$Sheets", "poll", "()V"⟩, 11), (⟨"PiperHouse$Sheets", "vote", "(II)V"⟩, 11)]
theorem lw_r1 : ∀ q ∈ lw_privs_1, lw_okq q := List.forall_mem_cons.mpr ⟨lw_p0, List.forall_mem_cons.mpr ⟨lw_p1, List.forall_mem_cons.mpr ⟨lw_p2, List.forall_mem_cons.mpr ⟨lw_p3, List.forall_mem_cons.mpr ⟨lw_p4, List.forall_mem_cons.mpr ⟨lw_p5, List.forall_mem_cons.mpr ⟨lw_p6, List.forall_mem_cons.mpr ⟨lw_p7, List.forall_mem_cons.mpr ⟨lw_p8, List.forall_mem_cons.mpr ⟨lw_p9, List.forall_mem_cons.mpr ⟨lw_p10, List.forall_mem_cons.mpr ⟨lw_p11, List.forall_mem_cons.mpr ⟨lw_p12, List.forall_mem_cons.mpr ⟨lw_p13, List.forall_mem_cons.mpr ⟨lw_p14, List.forall_mem_cons.mpr ⟨lw_p15, fun _ h => absurd h List.not_mem_nil⟩⟩⟩⟩⟩⟩⟩⟩⟩⟩⟩⟩⟩⟩⟩⟩
theorem lw_p16 : lw_okq (⟨"PiperHouse$Sheets", "blamelessNotes", "(I)I"⟩, 11) := ⟨⟨by decide +kernel, by decide +kernel⟩, List.mem_of_getElem? (i := 144) (by decide +kernel), List.mem_of_getElem? (i := 587) (by decide +kernel), List.mem_of_getElem? (i := 588) (by decide +kernel)⟩
theorem lw_p17 : lw_okq (⟨"PiperHouse$Pipers", "dampRise", "(I)I"⟩, 7) := ⟨⟨by decide +kernel, by decide +kernel⟩, List.mem_of_getElem? (i := 190) (by decide +kernel), List.mem_of_getElem? (i := 643) (by decide +kernel), List.mem_of_getElem? (i := 644) (by decide +kernel)⟩
theorem lw_p18 : lw_okq (⟨"PiperHouse$Pipers", "longestBlown", "(II)I"⟩, 7) := ⟨⟨by decide +kernel, by decide +kernel⟩, List.mem_of_getElem? (i := 190) (by decide +kernel), List.mem_of_getElem? (i := 668) (by decide +kernel), List.mem_of_getElem? (i := 669) (by decide +kernel)⟩
theorem lw_p19 : lw_okq (⟨"PiperHouse$Pipers", "tryLow", "(III)V"⟩, 7) := ⟨⟨by decide +kernel, by decide +kernel⟩, List.mem_of_getElem? (i := 190) (by decide +kernel), List.mem_of_getElem? (i := 673) (by decide +kernel), List.mem_of_getElem? (i := 674) (by decide +kernel)⟩
theorem lw_p20 : lw_okq (⟨"PiperHouse$Drone", "middleTone", "()I"⟩, 1) := ⟨⟨by decide +kernel, by decide +kernel⟩, List.mem_of_getElem? (i := 225) (by decide +kernel), List.mem_of_getElem? (i := 713) (by decide +kernel), List.mem_of_getElem? (i := 714) (by decide +kernel)⟩
theorem lw_p21 : lw_okq (⟨"PiperHouseModel", "fitsSo", "(III)Z"⟩, 34) := ⟨⟨by decide +kernel, by decide +kernel⟩, List.mem_of_getElem? (i := 727) (by decide +kernel), List.mem_of_getElem? (i := 861) (by decide +kernel), List.mem_of_getElem? (i := 862) (by decide +kernel)⟩
theorem lw_p22 : lw_okq (⟨"PiperHouseModel", "holds", "(II)Z"⟩, 34) := ⟨⟨by decide +kernel, by decide +kernel⟩, List.mem_of_getElem? (i := 727) (by decide +kernel), List.mem_of_getElem? (i := 881) (by decide +kernel), List.mem_of_getElem? (i := 882) (by decide +kernel)⟩
theorem lw_p23 : lw_okq (⟨"PiperHouseModel", "quickestOf", "(I)I"⟩, 34) := ⟨⟨by decide +kernel, by decide +kernel⟩, List.mem_of_getElem? (i := 727) (by decide +kernel), List.mem_of_getElem? (i := 896) (by decide +kernel), List.mem_of_getElem? (i := 897) (by decide +kernel)⟩
theorem lw_p24 : lw_okq (⟨"PiperHouseModel", "readBy", "(I)I"⟩, 34) := ⟨⟨by decide +kernel, by decide +kernel⟩, List.mem_of_getElem? (i := 727) (by decide +kernel), List.mem_of_getElem? (i := 927) (by decide +kernel), List.mem_of_getElem? (i := 928) (by decide +kernel)⟩
theorem lw_p25 : lw_okq (⟨"PiperHouseModel", "isSung", "(IIII)Z"⟩, 34) := ⟨⟨by decide +kernel, by decide +kernel⟩, List.mem_of_getElem? (i := 727) (by decide +kernel), List.mem_of_getElem? (i := 931) (by decide +kernel), List.mem_of_getElem? (i := 932) (by decide +kernel)⟩
theorem lw_p26 : lw_okq (⟨"PiperHouseModel", "cellsOf", "(III)I"⟩, 34) := ⟨⟨by decide +kernel, by decide +kernel⟩, List.mem_of_getElem? (i := 727) (by decide +kernel), List.mem_of_getElem? (i := 967) (by decide +kernel), List.mem_of_getElem? (i := 968) (by decide +kernel)⟩
theorem lw_p27 : lw_okq (⟨"PiperHouseModel", "cellOf", "(IIIIII)I"⟩, 34) := ⟨⟨by decide +kernel, by decide +kernel⟩, List.mem_of_getElem? (i := 727) (by decide +kernel), List.mem_of_getElem? (i := 971) (by decide +kernel), List.mem_of_getElem? (i := 972) (by decide +kernel)⟩
theorem lw_p28 : lw_okq (⟨"PiperHouseModel", "isSheet", "(I)Z"⟩, 34) := ⟨⟨by decide +kernel, by decide +kernel⟩, List.mem_of_getElem? (i := 727) (by decide +kernel), List.mem_of_getElem? (i := 983) (by decide +kernel), List.mem_of_getElem? (i := 984) (by decide +kernel)⟩
theorem lw_p29 : lw_okq (⟨"PiperHouseModel", "sizeOf", "(I)I"⟩, 34) := ⟨⟨by decide +kernel, by decide +kernel⟩, List.mem_of_getElem? (i := 727) (by decide +kernel), List.mem_of_getElem? (i := 987) (by decide +kernel), List.mem_of_getElem? (i := 988) (by decide +kernel)⟩
theorem lw_p30 : lw_okq (⟨"PiperHouseModel", "findOff", "()V"⟩, 34) := ⟨⟨by decide +kernel, by decide +kernel⟩, List.mem_of_getElem? (i := 727) (by decide +kernel), List.mem_of_getElem? (i := 1003) (by decide +kernel), List.mem_of_getElem? (i := 1004) (by decide +kernel)⟩
theorem lw_p31 : lw_okq (⟨"PiperHouseModel", "findBest", "()V"⟩, 34) := ⟨⟨by decide +kernel, by decide +kernel⟩, List.mem_of_getElem? (i := 727) (by decide +kernel), List.mem_of_getElem? (i := 1011) (by decide +kernel), List.mem_of_getElem? (i := 1012) (by decide +kernel)⟩
def lw_privs_2 : List (MethodName × Nat) := [(⟨"PiperHouse$Sheets", "blamelessNotes", "(I)I"⟩, 11), (⟨"PiperHouse$Pipers", "dampRise", "(I)I"⟩, 7), (⟨"PiperHouse$Pipers", "longestBlown", "(II)I"⟩, 7), (⟨"PiperHouse$Pipers", "tryLow", "(III)V"⟩, 7), (⟨"PiperHouse$Drone", "middleTone", "()I"⟩, 1), (⟨"PiperHouseModel", "fitsSo", "(III)Z"⟩, 34), (⟨"PiperHouseModel", "holds", "(II)Z"⟩, 34), (⟨"PiperHouseModel", "quickestOf", "(I)I"⟩, 34), (⟨"PiperHouseModel", "readBy", "(I)I"⟩, 34), (⟨"PiperHouseModel", "isSung", "(IIII)Z"⟩, 34), (⟨"PiperHouseModel", "cellsOf", "(III)I"⟩, 34), (⟨"PiperHouseModel", "cellOf", "(IIIIII)I"⟩, 34), (⟨"PiperHouseModel", "isSheet", "(I)Z"⟩, 34), (⟨"PiperHouseModel", "sizeOf", "(I)I"⟩, 34), (⟨"PiperHouseModel", "findOff", "()V"⟩, 34), (⟨"PiperHouseModel", "findBest", "()V"⟩, 34)]
theorem lw_r2 : ∀ q ∈ lw_privs_2, lw_okq q := List.forall_mem_cons.mpr ⟨lw_p16, List.forall_mem_cons.mpr ⟨lw_p17, List.forall_mem_cons.mpr ⟨lw_p18, List.forall_mem_cons.mpr ⟨lw_p19, List.forall_mem_cons.mpr ⟨lw_p20, List.forall_mem_cons.mpr ⟨lw_p21, List.forall_mem_cons.mpr ⟨lw_p22, List.forall_mem_cons.mpr ⟨lw_p23, List.forall_mem_cons.mpr ⟨lw_p24, List.forall_mem_cons.mpr ⟨lw_p25, List.forall_mem_cons.mpr ⟨lw_p26, List.forall_mem_cons.mpr ⟨lw_p27, List.forall_mem_cons.mpr ⟨lw_p28, List.forall_mem_cons.mpr ⟨lw_p29, List.forall_mem_cons.mpr ⟨lw_p30, List.forall_mem_cons.mpr ⟨lw_p31, fun _ h => absurd h List.not_mem_nil⟩⟩⟩⟩⟩⟩⟩⟩⟩⟩⟩⟩⟩⟩⟩⟩
theorem lw_p32 : lw_okq (⟨"PiperHouseModel", "findTable", "(I)I"⟩, 34) := ⟨⟨by decide +kernel, by decide +kernel⟩, List.mem_of_getElem? (i := 727) (by decide +kernel), List.mem_of_getElem? (i := 1016) (by decide +kernel), List.mem_of_getElem? (i := 1017) (by decide +kernel)⟩
theorem lw_p33 : lw_okq (⟨"PiperHouseModel", "pitchFor", "(II)I"⟩, 34) := ⟨⟨by decide +kernel, by decide +kernel⟩, List.mem_of_getElem? (i := 727) (by decide +kernel), List.mem_of_getElem? (i := 1040) (by decide +kernel), List.mem_of_getElem? (i := 1041) (by decide +kernel)⟩
theorem lw_p34 : lw_okq (⟨"PiperHouseModel", "wrongBand", "(III)I"⟩, 34) := ⟨⟨by decide +kernel, by decide +kernel⟩, List.mem_of_getElem? (i := 727) (by decide +kernel), List.mem_of_getElem? (i := 1048) (by decide +kernel), List.mem_of_getElem? (i := 1049) (by decide +kernel)⟩
theorem lw_p35 : lw_okq (⟨"PiperHouseModel", "findBand", "(II)V"⟩, 34) := ⟨⟨by decide +kernel, by decide +kernel⟩, List.mem_of_getElem? (i := 727) (by decide +kernel), List.mem_of_getElem? (i := 1052) (by decide +kernel), List.mem_of_getElem? (i := 1053) (by decide +kernel)⟩
theorem lw_p36 : lw_okq (⟨"PiperHouseModel", "spreadFor", "(III)I"⟩, 34) := ⟨⟨by decide +kernel, by decide +kernel⟩, List.mem_of_getElem? (i := 727) (by decide +kernel), List.mem_of_getElem? (i := 1056) (by decide +kernel), List.mem_of_getElem? (i := 1057) (by decide +kernel)⟩
theorem lw_p37 : lw_okq (⟨"PiperHouseModel", "longFor", "(III)I"⟩, 34) := ⟨⟨by decide +kernel, by decide +kernel⟩, List.mem_of_getElem? (i := 727) (by decide +kernel), List.mem_of_getElem? (i := 1060) (by decide +kernel), List.mem_of_getElem? (i := 1061) (by decide +kernel)⟩
theorem lw_p38 : lw_okq (⟨"PiperHouseModel", "harshOf", "(II)I"⟩, 34) := ⟨⟨by decide +kernel, by decide +kernel⟩, List.mem_of_getElem? (i := 727) (by decide +kernel), List.mem_of_getElem? (i := 1076) (by decide +kernel), List.mem_of_getElem? (i := 1077) (by decide +kernel)⟩
def lw_privs_3 : List (MethodName × Nat) := [(⟨"PiperHouseModel", "findTable", "(I)I"⟩, 34), (⟨"PiperHouseModel", "pitchFor", "(II)I"⟩, 34), (⟨"PiperHouseModel", "wrongBand", "(III)I"⟩, 34), (⟨"PiperHouseModel", "findBand", "(II)V"⟩, 34), (⟨"PiperHouseModel", "spreadFor", "(III)I"⟩, 34), (⟨"PiperHouseModel", "longFor", "(III)I"⟩, 34), (⟨"PiperHouseModel", "harshOf", "(II)I"⟩, 34)]
theorem lw_r3 : ∀ q ∈ lw_privs_3, lw_okq q := List.forall_mem_cons.mpr ⟨lw_p32, List.forall_mem_cons.mpr ⟨lw_p33, List.forall_mem_cons.mpr ⟨lw_p34, List.forall_mem_cons.mpr ⟨lw_p35, List.forall_mem_cons.mpr ⟨lw_p36, List.forall_mem_cons.mpr ⟨lw_p37, List.forall_mem_cons.mpr ⟨lw_p38, fun _ h => absurd h List.not_mem_nil⟩⟩⟩⟩⟩⟩⟩
def lw_privs : List (MethodName × Nat) := lw_privs_1 ++ (lw_privs_2 ++ (lw_privs_3))
def lw_tbl : List Cond := k2_sels lw_privs ++ tables_1
theorem lw_privs_ok : ∀ q ∈ lw_privs, lw_okq q := by
  show ∀ q ∈ lw_privs_1 ++ (lw_privs_2 ++ (lw_privs_3)), lw_okq q
  exact List.forall_mem_append.mpr ⟨lw_r1, List.forall_mem_append.mpr ⟨lw_r2, lw_r3⟩⟩
end
section
def RX0 : String := "PiperHouse$Drone"
def TX0 : u_T := fun k => match k with
  | _ => ("PiperHouse$Drone", "tone", "[I", true)
def tyX0 : Nat → FieldType := fun k => match k with
  | _ => .array .int
abbrev wsX00 : List Cond := u_ws RX0 TX0 1
theorem nmX0 : ∀ a, a < 1 → ∀ b, b < 1 → a ≠ b → (TX0 a).2.1 ≠ (TX0 b).2.1 := by decide +kernel
theorem tyX0_ok : ∀ k, k < 1 → parseFieldDescriptor (TX0 k).2.2.1 = some (tyX0 k) := by decide +kernel
abbrev cX0_init : ByteArray := prog_2_method_1_code
def yX0_init : MethodName := ⟨RX0, "<init>", "()V"⟩
abbrev cX0_harshness : ByteArray := prog_2_method_2_code
def yX0_harshness : MethodName := ⟨RX0, "harshness", "(II)I"⟩
abbrev cX0_mildest : ByteArray := prog_2_method_3_code
def yX0_mildest : MethodName := ⟨RX0, "mildest", "(I)I"⟩
abbrev cX0_middleTone : ByteArray := prog_2_method_4_code
def yX0_middleTone : MethodName := ⟨RX0, "middleTone", "()I"⟩
def RX1 : String := "PiperHouse$Ground"
def TX1 : u_T := fun k => match k with
  | 0 => ("PiperHouse$Ground", "rules", "LPiperHouse$Rules;", true)
  | 1 => ("PiperHouse$Ground", "note", "[I", true)
  | _ => ("PiperHouse$Ground", "size", "I", false)
def tyX1 : Nat → FieldType := fun k => match k with
  | 0 => .object "PiperHouse$Rules"
  | 1 => .array .int
  | _ => .int
abbrev wsX10 : List Cond := u_ws RX1 TX1 3
theorem nmX1 : ∀ a, a < 3 → ∀ b, b < 3 → a ≠ b → (TX1 a).2.1 ≠ (TX1 b).2.1 := by decide +kernel
theorem tyX1_ok : ∀ k, k < 3 → parseFieldDescriptor (TX1 k).2.2.1 = some (tyX1 k) := by decide +kernel
abbrev cX1_init : ByteArray := prog_3_method_1_code
def yX1_init : MethodName := ⟨RX1, "<init>", "(LPiperHouse$Rules;)V"⟩
abbrev cX1_append : ByteArray := prog_3_method_2_code
def yX1_append : MethodName := ⟨RX1, "append", "(I)I"⟩
abbrev cX1_variationAt : ByteArray := prog_3_method_3_code
def yX1_variationAt : MethodName := ⟨RX1, "variationAt", "(III)I"⟩
def RX2 : String := "PiperHouse$Movements"
def TX2 : u_T := fun k => match k with
  | 0 => ("PiperHouse$Movements", "size", "[I", true)
  | 1 => ("PiperHouse$Movements", "grace", "[[I", true)
  | 2 => ("PiperHouse$Movements", "from", "[I", true)
  | 3 => ("PiperHouse$Movements", "to", "[I", true)
  | _ => ("PiperHouse$Movements", "beat", "I", false)
def tyX2 : Nat → FieldType := fun k => match k with
  | 0 => .array .int
  | 1 => .array (.array .int)
  | 2 => .array .int
  | 3 => .array .int
  | _ => .int
abbrev wsX20 : List Cond := u_ws RX2 TX2 5
theorem nmX2 : ∀ a, a < 5 → ∀ b, b < 5 → a ≠ b → (TX2 a).2.1 ≠ (TX2 b).2.1 := by decide +kernel
theorem tyX2_ok : ∀ k, k < 5 → parseFieldDescriptor (TX2 k).2.2.1 = some (tyX2 k) := by decide +kernel
abbrev cX2_init : ByteArray := prog_4_method_1_code
def yX2_init : MethodName := ⟨RX2, "<init>", "()V"⟩
abbrev cX2_become : ByteArray := prog_4_method_2_code
def yX2_become : MethodName := ⟨RX2, "become", "(III)V"⟩
abbrev cX2_leadsTo : ByteArray := prog_4_method_3_code
def yX2_leadsTo : MethodName := ⟨RX2, "leadsTo", "(II)I"⟩
abbrev cX2_joins : ByteArray := prog_4_method_4_code
def yX2_joins : MethodName := ⟨RX2, "joins", "(III)Z"⟩
abbrev cX2_leavesTime : ByteArray := prog_4_method_5_code
def yX2_leavesTime : MethodName := ⟨RX2, "leavesTime", "(II)Z"⟩
abbrev cX2_repeatsGrace : ByteArray := prog_4_method_6_code
def yX2_repeatsGrace : MethodName := ⟨RX2, "repeatsGrace", "(I)Z"⟩
def RX3 : String := "PiperHouse$Pipers"
def TX3 : u_T := fun k => match k with
  | 0 => ("PiperHouse$Pipers", "reed", "[I", true)
  | 1 => ("PiperHouse$Pipers", "rise", "[I", true)
  | 2 => ("PiperHouse$Pipers", "warm", "[I", true)
  | 3 => ("PiperHouse$Pipers", "comes", "[I", true)
  | 4 => ("PiperHouse$Pipers", "damp", "I", false)
  | 5 => ("PiperHouse$Pipers", "bestSpread", "I", false)
  | _ => ("PiperHouse$Pipers", "bestLow", "I", false)
def tyX3 : Nat → FieldType := fun k => match k with
  | 0 => .array .int
  | 1 => .array .int
  | 2 => .array .int
  | 3 => .array .int
  | 4 => .int
  | 5 => .int
  | _ => .int
abbrev wsX30 : List Cond := u_ws RX3 TX3 7
theorem nmX3 : ∀ a, a < 7 → ∀ b, b < 7 → a ≠ b → (TX3 a).2.1 ≠ (TX3 b).2.1 := by decide +kernel
theorem tyX3_ok : ∀ k, k < 7 → parseFieldDescriptor (TX3 k).2.2.1 = some (tyX3 k) := by decide +kernel
abbrev cX3_init : ByteArray := prog_5_method_1_code
def yX3_init : MethodName := ⟨RX3, "<init>", "()V"⟩
abbrev cX3_become : ByteArray := prog_5_method_2_code
def yX3_become : MethodName := ⟨RX3, "become", "(IIIII)V"⟩
abbrev cX3_pitchAfter : ByteArray := prog_5_method_3_code
def yX3_pitchAfter : MethodName := ⟨RX3, "pitchAfter", "(II)I"⟩
abbrev cX3_allCome : ByteArray := prog_5_method_4_code
def yX3_allCome : MethodName := ⟨RX3, "allCome", "(II)Z"⟩
abbrev cX3_tuneBand : ByteArray := prog_5_method_5_code
def yX3_tuneBand : MethodName := ⟨RX3, "tuneBand", "(II)V"⟩
abbrev cX3_minutesToReach : ByteArray := prog_5_method_6_code
def yX3_minutesToReach : MethodName := ⟨RX3, "minutesToReach", "(III)I"⟩
abbrev cX3_tryLow : ByteArray := prog_5_method_7_code
def yX3_tryLow : MethodName := ⟨RX3, "tryLow", "(III)V"⟩
abbrev cX3_dampRise : ByteArray := prog_5_method_8_code
def yX3_dampRise : MethodName := ⟨RX3, "dampRise", "(I)I"⟩
abbrev cX3_longestBlown : ByteArray := prog_5_method_9_code
def yX3_longestBlown : MethodName := ⟨RX3, "longestBlown", "(II)I"⟩
def RX4 : String := "PiperHouse$Rules"
def TX4 : u_T := fun k => match k with
  | 0 => ("PiperHouse$Rules", "size", "[I", true)
  | _ => ("PiperHouse$Rules", "part", "[[I", true)
def tyX4 : Nat → FieldType := fun k => match k with
  | 0 => .array .int
  | _ => .array (.array .int)
abbrev wsX40 : List Cond := u_ws RX4 TX4 2
theorem nmX4 : ∀ a, a < 2 → ∀ b, b < 2 → a ≠ b → (TX4 a).2.1 ≠ (TX4 b).2.1 := by decide +kernel
theorem tyX4_ok : ∀ k, k < 2 → parseFieldDescriptor (TX4 k).2.2.1 = some (tyX4 k) := by decide +kernel
abbrev cX4_init : ByteArray := prog_6_method_1_code
def yX4_init : MethodName := ⟨RX4, "<init>", "()V"⟩
abbrev cX4_become : ByteArray := prog_6_method_2_code
def yX4_become : MethodName := ⟨RX4, "become", "(III)V"⟩
abbrev cX4_variationSize : ByteArray := prog_6_method_3_code
def yX4_variationSize : MethodName := ⟨RX4, "variationSize", "(III)I"⟩
abbrev cX4_source : ByteArray := prog_6_method_4_code
def yX4_source : MethodName := ⟨RX4, "source", "(IIII)I"⟩
abbrev cX4_sourceOf : ByteArray := prog_6_method_5_code
def yX4_sourceOf : MethodName := ⟨RX4, "sourceOf", "(III)I"⟩
def RX5 : String := "PiperHouse$Sheets"
def TX5 : u_T := fun k => match k with
  | 0 => ("PiperHouse$Sheets", "rules", "LPiperHouse$Rules;", true)
  | 1 => ("PiperHouse$Sheets", "rule", "[I", true)
  | 2 => ("PiperHouse$Sheets", "cellCount", "[I", true)
  | 3 => ("PiperHouse$Sheets", "told", "[[I", true)
  | 4 => ("PiperHouse$Sheets", "size", "I", false)
  | 5 => ("PiperHouse$Sheets", "notes", "I", false)
  | 6 => ("PiperHouse$Sheets", "cadences", "I", false)
  | 7 => ("PiperHouse$Sheets", "votes", "[[I", true)
  | 8 => ("PiperHouse$Sheets", "voters", "[I", true)
  | 9 => ("PiperHouse$Sheets", "lostCauses", "I", false)
  | _ => ("PiperHouse$Sheets", "chosen", "[I", true)
def tyX5 : Nat → FieldType := fun k => match k with
  | 0 => .object "PiperHouse$Rules"
  | 1 => .array .int
  | 2 => .array .int
  | 3 => .array (.array .int)
  | 4 => .int
  | 5 => .int
  | 6 => .int
  | 7 => .array (.array .int)
  | 8 => .array .int
  | 9 => .int
  | _ => .array .int
abbrev wsX50 : List Cond := u_ws RX5 TX5 11
theorem nmX5 : ∀ a, a < 11 → ∀ b, b < 11 → a ≠ b → (TX5 a).2.1 ≠ (TX5 b).2.1 := by decide +kernel
theorem tyX5_ok : ∀ k, k < 11 → parseFieldDescriptor (TX5 k).2.2.1 = some (tyX5 k) := by decide +kernel
abbrev cX5_init : ByteArray := prog_7_method_1_code
def yX5_init : MethodName := ⟨RX5, "<init>", "(LPiperHouse$Rules;)V"⟩
abbrev cX5_accept : ByteArray := prog_7_method_2_code
def yX5_accept : MethodName := ⟨RX5, "accept", "(II)Z"⟩
abbrev cX5_useRule : ByteArray := prog_7_method_3_code
def yX5_useRule : MethodName := ⟨RX5, "useRule", "(I)Z"⟩
abbrev cX5_append : ByteArray := prog_7_method_4_code
def yX5_append : MethodName := ⟨RX5, "append", "(III)I"⟩
abbrev cX5_agreeingGrounds : ByteArray := prog_7_method_5_code
def yX5_agreeingGrounds : MethodName := ⟨RX5, "agreeingGrounds", "()I"⟩
abbrev cX5_chooseGround : ByteArray := prog_7_method_6_code
def yX5_chooseGround : MethodName := ⟨RX5, "chooseGround", "()V"⟩
abbrev cX5_wrongCells : ByteArray := prog_7_method_7_code
def yX5_wrongCells : MethodName := ⟨RX5, "wrongCells", "(I)I"⟩
abbrev cX5_isWrong : ByteArray := prog_7_method_8_code
def yX5_isWrong : MethodName := ⟨RX5, "isWrong", "(II)Z"⟩
abbrev cX5_poll : ByteArray := prog_7_method_9_code
def yX5_poll : MethodName := ⟨RX5, "poll", "()V"⟩
abbrev cX5_vote : ByteArray := prog_7_method_10_code
def yX5_vote : MethodName := ⟨RX5, "vote", "(II)V"⟩
abbrev cX5_blamelessNotes : ByteArray := prog_7_method_11_code
def yX5_blamelessNotes : MethodName := ⟨RX5, "blamelessNotes", "(I)I"⟩
abbrev cX5_mostVoted : ByteArray := prog_7_method_12_code
def yX5_mostVoted : MethodName := ⟨RX5, "mostVoted", "([I)I"⟩
def RX6 : String := "PiperHouse$Song"
def TX6 : u_T := fun k => match k with
  | 0 => ("PiperHouse$Song", "movements", "LPiperHouse$Movements;", true)
  | 1 => ("PiperHouse$Song", "head", "[[I", true)
  | 2 => ("PiperHouse$Song", "tail", "[[I", true)
  | 3 => ("PiperHouse$Song", "heard", "[I", true)
  | 4 => ("PiperHouse$Song", "size", "I", false)
  | 5 => ("PiperHouse$Song", "rowsTo", "[I", true)
  | 6 => ("PiperHouse$Song", "rowsOn", "[I", true)
  | _ => ("PiperHouse$Song", "open", "[I", true)
def tyX6 : Nat → FieldType := fun k => match k with
  | 0 => .object "PiperHouse$Movements"
  | 1 => .array (.array .int)
  | 2 => .array (.array .int)
  | 3 => .array .int
  | 4 => .int
  | 5 => .array .int
  | 6 => .array .int
  | _ => .array .int
abbrev wsX60 : List Cond := u_ws RX6 TX6 8
theorem nmX6 : ∀ a, a < 8 → ∀ b, b < 8 → a ≠ b → (TX6 a).2.1 ≠ (TX6 b).2.1 := by decide +kernel
theorem tyX6_ok : ∀ k, k < 8 → parseFieldDescriptor (TX6 k).2.2.1 = some (tyX6 k) := by decide +kernel
abbrev cX6_init : ByteArray := prog_8_method_1_code
def yX6_init : MethodName := ⟨RX6, "<init>", "(LPiperHouse$Movements;)V"⟩
abbrev cX6_append : ByteArray := prog_8_method_2_code
def yX6_append : MethodName := ⟨RX6, "append", "(I)I"⟩
abbrev cX6_sound : ByteArray := prog_8_method_3_code
def yX6_sound : MethodName := ⟨RX6, "sound", "(III)I"⟩
abbrev cX6_rows : ByteArray := prog_8_method_4_code
def yX6_rows : MethodName := ⟨RX6, "rows", "(I)I"⟩
abbrev cX6_firstRowAt : ByteArray := prog_8_method_5_code
def yX6_firstRowAt : MethodName := ⟨RX6, "firstRowAt", "(II)I"⟩
abbrev cX6_homeRegion : ByteArray := prog_8_method_6_code
def yX6_homeRegion : MethodName := ⟨RX6, "homeRegion", "()I"⟩
abbrev cX6_readOn : ByteArray := prog_8_method_7_code
def yX6_readOn : MethodName := ⟨RX6, "readOn", "(II)V"⟩
abbrev cX6_addRows : ByteArray := prog_8_method_8_code
def yX6_addRows : MethodName := ⟨RX6, "addRows", "(II)V"⟩
abbrev cX6_hasHead : ByteArray := prog_8_method_9_code
def yX6_hasHead : MethodName := ⟨RX6, "hasHead", "(III)Z"⟩
abbrev cX6_notesFor : ByteArray := prog_8_method_10_code
def yX6_notesFor : MethodName := ⟨RX6, "notesFor", "(II)I"⟩
abbrev cX6_markOpen : ByteArray := prog_8_method_11_code
def yX6_markOpen : MethodName := ⟨RX6, "markOpen", "(I)V"⟩
abbrev cX6_openAmong : ByteArray := prog_8_method_12_code
def yX6_openAmong : MethodName := ⟨RX6, "openAmong", "(III)I"⟩
abbrev cX6_goesOn : ByteArray := prog_8_method_13_code
def yX6_goesOn : MethodName := ⟨RX6, "goesOn", "(III)Z"⟩
abbrev cX6_firstStep : ByteArray := prog_8_method_14_code
def yX6_firstStep : MethodName := ⟨RX6, "firstStep", "(III)I"⟩
def RX7 : String := "PiperHouse$Tune"
def TX7 : u_T := fun k => match k with
  | 0 => ("PiperHouse$Tune", "movements", "LPiperHouse$Movements;", true)
  | 1 => ("PiperHouse$Tune", "note", "[I", true)
  | 2 => ("PiperHouse$Tune", "length", "[I", true)
  | 3 => ("PiperHouse$Tune", "movement", "[I", true)
  | _ => ("PiperHouse$Tune", "size", "I", false)
def tyX7 : Nat → FieldType := fun k => match k with
  | 0 => .object "PiperHouse$Movements"
  | 1 => .array .int
  | 2 => .array .int
  | 3 => .array .int
  | _ => .int
abbrev wsX70 : List Cond := u_ws RX7 TX7 5
theorem nmX7 : ∀ a, a < 5 → ∀ b, b < 5 → a ≠ b → (TX7 a).2.1 ≠ (TX7 b).2.1 := by decide +kernel
theorem tyX7_ok : ∀ k, k < 5 → parseFieldDescriptor (TX7 k).2.2.1 = some (tyX7 k) := by decide +kernel
abbrev cX7_init : ByteArray := prog_9_method_1_code
def yX7_init : MethodName := ⟨RX7, "<init>", "(LPiperHouse$Movements;)V"⟩
abbrev cX7_append : ByteArray := prog_9_method_2_code
def yX7_append : MethodName := ⟨RX7, "append", "(III)I"⟩
abbrev cX7_lostOnes : ByteArray := prog_9_method_3_code
def yX7_lostOnes : MethodName := ⟨RX7, "lostOnes", "()I"⟩
abbrev cX7_firstWrong : ByteArray := prog_9_method_4_code
def yX7_firstWrong : MethodName := ⟨RX7, "firstWrong", "()I"⟩
abbrev cX7_fillingCount : ByteArray := prog_9_method_5_code
def yX7_fillingCount : MethodName := ⟨RX7, "fillingCount", "()I"⟩
abbrev cX7_quickestAt : ByteArray := prog_9_method_6_code
def yX7_quickestAt : MethodName := ⟨RX7, "quickestAt", "(I)I"⟩
abbrev cX7_quickestGraces : ByteArray := prog_9_method_7_code
def yX7_quickestGraces : MethodName := ⟨RX7, "quickestGraces", "()I"⟩
abbrev cX7_waysAt : ByteArray := prog_9_method_8_code
def yX7_waysAt : MethodName := ⟨RX7, "waysAt", "(I)I"⟩
abbrev cX7_holdsWith : ByteArray := prog_9_method_9_code
def yX7_holdsWith : MethodName := ⟨RX7, "holdsWith", "(II)Z"⟩
def RX8 : String := "PiperHouse"
def TX8 : u_T := fun k => match k with
  | 0 => ("PiperHouse", "movements", "LPiperHouse$Movements;", true)
  | 1 => ("PiperHouse", "tune", "LPiperHouse$Tune;", true)
  | 2 => ("PiperHouse", "song", "LPiperHouse$Song;", true)
  | 3 => ("PiperHouse", "rules", "LPiperHouse$Rules;", true)
  | 4 => ("PiperHouse", "ground", "LPiperHouse$Ground;", true)
  | 5 => ("PiperHouse", "sheets", "LPiperHouse$Sheets;", true)
  | 6 => ("PiperHouse", "pipers", "LPiperHouse$Pipers;", true)
  | _ => ("PiperHouse", "drone", "LPiperHouse$Drone;", true)
def tyX8 : Nat → FieldType := fun k => match k with
  | 0 => .object "PiperHouse$Movements"
  | 1 => .object "PiperHouse$Tune"
  | 2 => .object "PiperHouse$Song"
  | 3 => .object "PiperHouse$Rules"
  | 4 => .object "PiperHouse$Ground"
  | 5 => .object "PiperHouse$Sheets"
  | 6 => .object "PiperHouse$Pipers"
  | _ => .object "PiperHouse$Drone"
abbrev wsX80 : List Cond := u_ws RX8 TX8 8
theorem nmX8 : ∀ a, a < 8 → ∀ b, b < 8 → a ≠ b → (TX8 a).2.1 ≠ (TX8 b).2.1 := by decide +kernel
theorem tyX8_ok : ∀ k, k < 8 → parseFieldDescriptor (TX8 k).2.2.1 = some (tyX8 k) := by decide +kernel
abbrev cX8_init : ByteArray := prog_1_method_1_code
def yX8_init : MethodName := ⟨RX8, "<init>", "()V"⟩
abbrev cX8_movement : ByteArray := prog_1_method_2_code
def yX8_movement : MethodName := ⟨RX8, "movement", "(III)I"⟩
abbrev cX8_may : ByteArray := prog_1_method_3_code
def yX8_may : MethodName := ⟨RX8, "may", "(III)I"⟩
abbrev cX8_beat : ByteArray := prog_1_method_4_code
def yX8_beat : MethodName := ⟨RX8, "beat", "(I)I"⟩
abbrev cX8_fits : ByteArray := prog_1_method_5_code
def yX8_fits : MethodName := ⟨RX8, "fits", "(III)I"⟩
abbrev cX8_step : ByteArray := prog_1_method_6_code
def yX8_step : MethodName := ⟨RX8, "step", "(III)I"⟩
abbrev cX8_put : ByteArray := prog_1_method_7_code
def yX8_put : MethodName := ⟨RX8, "put", "(II)I"⟩
abbrev cX8_back : ByteArray := prog_1_method_8_code
def yX8_back : MethodName := ⟨RX8, "back", "()I"⟩
abbrev cX8_wrong : ByteArray := prog_1_method_9_code
def yX8_wrong : MethodName := ⟨RX8, "wrong", "()I"⟩
abbrev cX8_fillings : ByteArray := prog_1_method_10_code
def yX8_fillings : MethodName := ⟨RX8, "fillings", "()I"⟩
abbrev cX8_quickest : ByteArray := prog_1_method_11_code
def yX8_quickest : MethodName := ⟨RX8, "quickest", "(I)I"⟩
abbrev cX8_graces : ByteArray := prog_1_method_12_code
def yX8_graces : MethodName := ⟨RX8, "graces", "()I"⟩
abbrev cX8_region : ByteArray := prog_1_method_13_code
def yX8_region : MethodName := ⟨RX8, "region", "(IIII)I"⟩
abbrev cX8_sung : ByteArray := prog_1_method_14_code
def yX8_sung : MethodName := ⟨RX8, "sung", "(II)I"⟩
abbrev cX8_syllable : ByteArray := prog_1_method_15_code
def yX8_syllable : MethodName := ⟨RX8, "syllable", "(I)I"⟩
abbrev cX8_hush : ByteArray := prog_1_method_16_code
def yX8_hush : MethodName := ⟨RX8, "hush", "()I"⟩
abbrev cX8_read : ByteArray := prog_1_method_17_code
def yX8_read : MethodName := ⟨RX8, "read", "(I)I"⟩
abbrev cX8_first : ByteArray := prog_1_method_18_code
def yX8_first : MethodName := ⟨RX8, "first", "(II)I"⟩
abbrev cX8_home : ByteArray := prog_1_method_19_code
def yX8_home : MethodName := ⟨RX8, "home", "()I"⟩
abbrev cX8_rule : ByteArray := prog_1_method_20_code
def yX8_rule : MethodName := ⟨RX8, "rule", "(III)I"⟩
abbrev cX8_note : ByteArray := prog_1_method_21_code
def yX8_note : MethodName := ⟨RX8, "note", "(I)I"⟩
abbrev cX8_silence : ByteArray := prog_1_method_22_code
def yX8_silence : MethodName := ⟨RX8, "silence", "()I"⟩
abbrev cX8_varied : ByteArray := prog_1_method_23_code
def yX8_varied : MethodName := ⟨RX8, "varied", "(III)I"⟩
abbrev cX8_sheet : ByteArray := prog_1_method_24_code
def yX8_sheet : MethodName := ⟨RX8, "sheet", "(III)I"⟩
abbrev cX8_tell : ByteArray := prog_1_method_25_code
def yX8_tell : MethodName := ⟨RX8, "tell", "(III)I"⟩
abbrev cX8_cells : ByteArray := prog_1_method_26_code
def yX8_cells : MethodName := ⟨RX8, "cells", "(I)I"⟩
abbrev cX8_clear : ByteArray := prog_1_method_27_code
def yX8_clear : MethodName := ⟨RX8, "clear", "()I"⟩
abbrev cX8_agreeing : ByteArray := prog_1_method_28_code
def yX8_agreeing : MethodName := ⟨RX8, "agreeing", "()I"⟩
abbrev cX8_least : ByteArray := prog_1_method_29_code
def yX8_least : MethodName := ⟨RX8, "least", "(I)I"⟩
abbrev cX8_blamed : ByteArray := prog_1_method_30_code
def yX8_blamed : MethodName := ⟨RX8, "blamed", "(II)I"⟩
abbrev cX8_piper : ByteArray := prog_1_method_31_code
def yX8_piper : MethodName := ⟨RX8, "piper", "(IIIII)I"⟩
abbrev cX8_damp : ByteArray := prog_1_method_32_code
def yX8_damp : MethodName := ⟨RX8, "damp", "(I)I"⟩
abbrev cX8_pitch : ByteArray := prog_1_method_33_code
def yX8_pitch : MethodName := ⟨RX8, "pitch", "(III)I"⟩
abbrev cX8_band : ByteArray := prog_1_method_34_code
def yX8_band : MethodName := ⟨RX8, "band", "(III)I"⟩
abbrev cX8_begins : ByteArray := prog_1_method_35_code
def yX8_begins : MethodName := ⟨RX8, "begins", "(III)I"⟩
abbrev cX8_tone : ByteArray := prog_1_method_36_code
def yX8_tone : MethodName := ⟨RX8, "tone", "(II)I"⟩
abbrev cX8_harsh : ByteArray := prog_1_method_37_code
def yX8_harsh : MethodName := ⟨RX8, "harsh", "(II)I"⟩
abbrev cX8_set : ByteArray := prog_1_method_38_code
def yX8_set : MethodName := ⟨RX8, "set", "(I)I"⟩
abbrev cX8_count : ByteArray := prog_1_method_39_code
def yX8_count : MethodName := ⟨RX8, "count", "(I)I"⟩
abbrev cX8_within : ByteArray := prog_1_method_40_code
def yX8_within : MethodName := ⟨RX8, "within", "(III)Z"⟩
abbrev cX8_hasBit : ByteArray := prog_1_method_41_code
def yX8_hasBit : MethodName := ⟨RX8, "hasBit", "(II)Z"⟩
abbrev cX8_nibble : ByteArray := prog_1_method_42_code
def yX8_nibble : MethodName := ⟨RX8, "nibble", "(II)I"⟩
abbrev cX8_nibblesWithin : ByteArray := prog_1_method_43_code
def yX8_nibblesWithin : MethodName := ⟨RX8, "nibblesWithin", "(III)Z"⟩
abbrev cX8_replace : ByteArray := prog_1_method_44_code
def yX8_replace : MethodName := ⟨RX8, "replace", "([III)I"⟩
abbrev cX8_isNote : ByteArray := prog_1_method_45_code
def yX8_isNote : MethodName := ⟨RX8, "isNote", "(I)Z"⟩
abbrev cX8_isMovement : ByteArray := prog_1_method_46_code
def yX8_isMovement : MethodName := ⟨RX8, "isMovement", "(I)Z"⟩
abbrev cX8_isMovementOrLost : ByteArray := prog_1_method_47_code
def yX8_isMovementOrLost : MethodName := ⟨RX8, "isMovementOrLost", "(I)Z"⟩
abbrev cX8_isRegion : ByteArray := prog_1_method_48_code
def yX8_isRegion : MethodName := ⟨RX8, "isRegion", "(I)Z"⟩
abbrev cX8_isRule : ByteArray := prog_1_method_49_code
def yX8_isRule : MethodName := ⟨RX8, "isRule", "(I)Z"⟩
abbrev cX8_isPiper : ByteArray := prog_1_method_50_code
def yX8_isPiper : MethodName := ⟨RX8, "isPiper", "(I)Z"⟩
abbrev cX8_isBand : ByteArray := prog_1_method_51_code
def yX8_isBand : MethodName := ⟨RX8, "isBand", "(I)Z"⟩
abbrev cX8_isMinute : ByteArray := prog_1_method_52_code
def yX8_isMinute : MethodName := ⟨RX8, "isMinute", "(I)Z"⟩
abbrev cX8_isPitch : ByteArray := prog_1_method_53_code
def yX8_isPitch : MethodName := ⟨RX8, "isPitch", "(I)Z"⟩
abbrev cX8_isStep : ByteArray := prog_1_method_54_code
def yX8_isStep : MethodName := ⟨RX8, "isStep", "(I)Z"⟩
abbrev cX8_isSheet : ByteArray := prog_1_method_55_code
def yX8_isSheet : MethodName := ⟨RX8, "isSheet", "(I)Z"⟩
abbrev cX8_isCell : ByteArray := prog_1_method_56_code
def yX8_isCell : MethodName := ⟨RX8, "isCell", "(II)Z"⟩
def RX9 : String := "PiperHouseModel"
def TX9 : u_T := fun k => match k with
  | 0 => ("PiperHouseModel", "gracesOf", "[I", true)
  | 1 => ("PiperHouseModel", "grace", "[I", true)
  | 2 => ("PiperHouseModel", "from", "[I", true)
  | 3 => ("PiperHouseModel", "to", "[I", true)
  | 4 => ("PiperHouseModel", "beat", "I", false)
  | 5 => ("PiperHouseModel", "steps", "I", false)
  | 6 => ("PiperHouseModel", "note", "[I", true)
  | 7 => ("PiperHouseModel", "length", "[I", true)
  | 8 => ("PiperHouseModel", "movement", "[I", true)
  | 9 => ("PiperHouseModel", "heads", "[I", true)
  | 10 => ("PiperHouseModel", "tails", "[I", true)
  | 11 => ("PiperHouseModel", "song", "I", false)
  | 12 => ("PiperHouseModel", "syllable", "[I", true)
  | 13 => ("PiperHouseModel", "goesOn", "[I", true)
  | 14 => ("PiperHouseModel", "parts", "[I", true)
  | 15 => ("PiperHouseModel", "part", "[I", true)
  | 16 => ("PiperHouseModel", "grounds", "I", false)
  | 17 => ("PiperHouseModel", "ground", "[I", true)
  | 18 => ("PiperHouseModel", "sheets", "I", false)
  | 19 => ("PiperHouseModel", "sheetNotes", "I", false)
  | 20 => ("PiperHouseModel", "cadences", "I", false)
  | 21 => ("PiperHouseModel", "sheetRule", "[I", true)
  | 22 => ("PiperHouseModel", "told", "[I", true)
  | 23 => ("PiperHouseModel", "off", "[I", true)
  | 24 => ("PiperHouseModel", "table", "[I", true)
  | 25 => ("PiperHouseModel", "best", "[I", true)
  | 26 => ("PiperHouseModel", "reed", "[I", true)
  | 27 => ("PiperHouseModel", "rise", "[I", true)
  | 28 => ("PiperHouseModel", "warm", "[I", true)
  | 29 => ("PiperHouseModel", "comes", "[I", true)
  | 30 => ("PiperHouseModel", "damp", "I", false)
  | 31 => ("PiperHouseModel", "bestLeast", "I", false)
  | 32 => ("PiperHouseModel", "bestSpread", "I", false)
  | _ => ("PiperHouseModel", "tones", "[I", true)
def tyX9 : Nat → FieldType := fun k => match k with
  | 0 => .array .int
  | 1 => .array .int
  | 2 => .array .int
  | 3 => .array .int
  | 4 => .int
  | 5 => .int
  | 6 => .array .int
  | 7 => .array .int
  | 8 => .array .int
  | 9 => .array .int
  | 10 => .array .int
  | 11 => .int
  | 12 => .array .int
  | 13 => .array .int
  | 14 => .array .int
  | 15 => .array .int
  | 16 => .int
  | 17 => .array .int
  | 18 => .int
  | 19 => .int
  | 20 => .int
  | 21 => .array .int
  | 22 => .array .int
  | 23 => .array .int
  | 24 => .array .int
  | 25 => .array .int
  | 26 => .array .int
  | 27 => .array .int
  | 28 => .array .int
  | 29 => .array .int
  | 30 => .int
  | 31 => .int
  | 32 => .int
  | _ => .array .int
abbrev wsX90 : List Cond := u_ws RX9 TX9 34
theorem nmX9 : ∀ a, a < 34 → ∀ b, b < 34 → a ≠ b → (TX9 a).2.1 ≠ (TX9 b).2.1 := by decide +kernel
theorem tyX9_ok : ∀ k, k < 34 → parseFieldDescriptor (TX9 k).2.2.1 = some (tyX9 k) := by decide +kernel
abbrev cX9_init : ByteArray := prog_11_method_1_code
def yX9_init : MethodName := ⟨RX9, "<init>", "()V"⟩
abbrev cX9_in : ByteArray := prog_11_method_2_code
def yX9_in : MethodName := ⟨RX9, "in", "(III)Z"⟩
abbrev cX9_isNote : ByteArray := prog_11_method_3_code
def yX9_isNote : MethodName := ⟨RX9, "isNote", "(I)Z"⟩
abbrev cX9_isMovement : ByteArray := prog_11_method_4_code
def yX9_isMovement : MethodName := ⟨RX9, "isMovement", "(I)Z"⟩
abbrev cX9_isRegion : ByteArray := prog_11_method_5_code
def yX9_isRegion : MethodName := ⟨RX9, "isRegion", "(I)Z"⟩
abbrev cX9_isRule : ByteArray := prog_11_method_6_code
def yX9_isRule : MethodName := ⟨RX9, "isRule", "(I)Z"⟩
abbrev cX9_isPiper : ByteArray := prog_11_method_7_code
def yX9_isPiper : MethodName := ⟨RX9, "isPiper", "(I)Z"⟩
abbrev cX9_plus : ByteArray := prog_11_method_8_code
def yX9_plus : MethodName := ⟨RX9, "plus", "(II)I"⟩
abbrev cX9_movement : ByteArray := prog_11_method_9_code
def yX9_movement : MethodName := ⟨RX9, "movement", "(III)I"⟩
abbrev cX9_may : ByteArray := prog_11_method_10_code
def yX9_may : MethodName := ⟨RX9, "may", "(III)I"⟩
abbrev cX9_beat : ByteArray := prog_11_method_11_code
def yX9_beat : MethodName := ⟨RX9, "beat", "(I)I"⟩
abbrev cX9_fitsSo : ByteArray := prog_11_method_12_code
def yX9_fitsSo : MethodName := ⟨RX9, "fitsSo", "(III)Z"⟩
abbrev cX9_fits : ByteArray := prog_11_method_13_code
def yX9_fits : MethodName := ⟨RX9, "fits", "(III)I"⟩
abbrev cX9_step : ByteArray := prog_11_method_14_code
def yX9_step : MethodName := ⟨RX9, "step", "(III)I"⟩
abbrev cX9_put : ByteArray := prog_11_method_15_code
def yX9_put : MethodName := ⟨RX9, "put", "(II)I"⟩
abbrev cX9_back : ByteArray := prog_11_method_16_code
def yX9_back : MethodName := ⟨RX9, "back", "()I"⟩
abbrev cX9_holds : ByteArray := prog_11_method_17_code
def yX9_holds : MethodName := ⟨RX9, "holds", "(II)Z"⟩
abbrev cX9_wrong : ByteArray := prog_11_method_18_code
def yX9_wrong : MethodName := ⟨RX9, "wrong", "()I"⟩
abbrev cX9_fillings : ByteArray := prog_11_method_19_code
def yX9_fillings : MethodName := ⟨RX9, "fillings", "()I"⟩
abbrev cX9_quickestOf : ByteArray := prog_11_method_20_code
def yX9_quickestOf : MethodName := ⟨RX9, "quickestOf", "(I)I"⟩
abbrev cX9_quickest : ByteArray := prog_11_method_21_code
def yX9_quickest : MethodName := ⟨RX9, "quickest", "(I)I"⟩
abbrev cX9_graces : ByteArray := prog_11_method_22_code
def yX9_graces : MethodName := ⟨RX9, "graces", "()I"⟩
abbrev cX9_region : ByteArray := prog_11_method_23_code
def yX9_region : MethodName := ⟨RX9, "region", "(IIII)I"⟩
abbrev cX9_sung : ByteArray := prog_11_method_24_code
def yX9_sung : MethodName := ⟨RX9, "sung", "(II)I"⟩
abbrev cX9_syllable : ByteArray := prog_11_method_25_code
def yX9_syllable : MethodName := ⟨RX9, "syllable", "(I)I"⟩
abbrev cX9_hush : ByteArray := prog_11_method_26_code
def yX9_hush : MethodName := ⟨RX9, "hush", "()I"⟩
abbrev cX9_isSung : ByteArray := prog_11_method_27_code
def yX9_isSung : MethodName := ⟨RX9, "isSung", "(IIII)Z"⟩
abbrev cX9_readBy : ByteArray := prog_11_method_28_code
def yX9_readBy : MethodName := ⟨RX9, "readBy", "(I)I"⟩
abbrev cX9_read : ByteArray := prog_11_method_29_code
def yX9_read : MethodName := ⟨RX9, "read", "(I)I"⟩
abbrev cX9_first : ByteArray := prog_11_method_30_code
def yX9_first : MethodName := ⟨RX9, "first", "(II)I"⟩
abbrev cX9_home : ByteArray := prog_11_method_31_code
def yX9_home : MethodName := ⟨RX9, "home", "()I"⟩
abbrev cX9_rule : ByteArray := prog_11_method_32_code
def yX9_rule : MethodName := ⟨RX9, "rule", "(III)I"⟩
abbrev cX9_note : ByteArray := prog_11_method_33_code
def yX9_note : MethodName := ⟨RX9, "note", "(I)I"⟩
abbrev cX9_silence : ByteArray := prog_11_method_34_code
def yX9_silence : MethodName := ⟨RX9, "silence", "()I"⟩
abbrev cX9_cellsOf : ByteArray := prog_11_method_35_code
def yX9_cellsOf : MethodName := ⟨RX9, "cellsOf", "(III)I"⟩
abbrev cX9_cellOf : ByteArray := prog_11_method_36_code
def yX9_cellOf : MethodName := ⟨RX9, "cellOf", "(IIIIII)I"⟩
abbrev cX9_varied : ByteArray := prog_11_method_37_code
def yX9_varied : MethodName := ⟨RX9, "varied", "(III)I"⟩
abbrev cX9_sheet : ByteArray := prog_11_method_38_code
def yX9_sheet : MethodName := ⟨RX9, "sheet", "(III)I"⟩
abbrev cX9_isSheet : ByteArray := prog_11_method_39_code
def yX9_isSheet : MethodName := ⟨RX9, "isSheet", "(I)Z"⟩
abbrev cX9_sizeOf : ByteArray := prog_11_method_40_code
def yX9_sizeOf : MethodName := ⟨RX9, "sizeOf", "(I)I"⟩
abbrev cX9_tell : ByteArray := prog_11_method_41_code
def yX9_tell : MethodName := ⟨RX9, "tell", "(III)I"⟩
abbrev cX9_cells : ByteArray := prog_11_method_42_code
def yX9_cells : MethodName := ⟨RX9, "cells", "(I)I"⟩
abbrev cX9_clear : ByteArray := prog_11_method_43_code
def yX9_clear : MethodName := ⟨RX9, "clear", "()I"⟩
abbrev cX9_findOff : ByteArray := prog_11_method_44_code
def yX9_findOff : MethodName := ⟨RX9, "findOff", "()V"⟩
abbrev cX9_agreeing : ByteArray := prog_11_method_45_code
def yX9_agreeing : MethodName := ⟨RX9, "agreeing", "()I"⟩
abbrev cX9_findTable : ByteArray := prog_11_method_46_code
def yX9_findTable : MethodName := ⟨RX9, "findTable", "(I)I"⟩
abbrev cX9_findBest : ByteArray := prog_11_method_47_code
def yX9_findBest : MethodName := ⟨RX9, "findBest", "()V"⟩
abbrev cX9_least : ByteArray := prog_11_method_48_code
def yX9_least : MethodName := ⟨RX9, "least", "(I)I"⟩
abbrev cX9_blamed : ByteArray := prog_11_method_49_code
def yX9_blamed : MethodName := ⟨RX9, "blamed", "(II)I"⟩
abbrev cX9_piper : ByteArray := prog_11_method_50_code
def yX9_piper : MethodName := ⟨RX9, "piper", "(IIIII)I"⟩
abbrev cX9_damp : ByteArray := prog_11_method_51_code
def yX9_damp : MethodName := ⟨RX9, "damp", "(I)I"⟩
abbrev cX9_pitchFor : ByteArray := prog_11_method_52_code
def yX9_pitchFor : MethodName := ⟨RX9, "pitchFor", "(II)I"⟩
abbrev cX9_pitch : ByteArray := prog_11_method_53_code
def yX9_pitch : MethodName := ⟨RX9, "pitch", "(III)I"⟩
abbrev cX9_longFor : ByteArray := prog_11_method_54_code
def yX9_longFor : MethodName := ⟨RX9, "longFor", "(III)I"⟩
abbrev cX9_spreadFor : ByteArray := prog_11_method_55_code
def yX9_spreadFor : MethodName := ⟨RX9, "spreadFor", "(III)I"⟩
abbrev cX9_findBand : ByteArray := prog_11_method_56_code
def yX9_findBand : MethodName := ⟨RX9, "findBand", "(II)V"⟩
abbrev cX9_wrongBand : ByteArray := prog_11_method_57_code
def yX9_wrongBand : MethodName := ⟨RX9, "wrongBand", "(III)I"⟩
abbrev cX9_band : ByteArray := prog_11_method_58_code
def yX9_band : MethodName := ⟨RX9, "band", "(III)I"⟩
abbrev cX9_begins : ByteArray := prog_11_method_59_code
def yX9_begins : MethodName := ⟨RX9, "begins", "(III)I"⟩
abbrev cX9_tone : ByteArray := prog_11_method_60_code
def yX9_tone : MethodName := ⟨RX9, "tone", "(II)I"⟩
abbrev cX9_harshOf : ByteArray := prog_11_method_61_code
def yX9_harshOf : MethodName := ⟨RX9, "harshOf", "(II)I"⟩
abbrev cX9_harsh : ByteArray := prog_11_method_62_code
def yX9_harsh : MethodName := ⟨RX9, "harsh", "(II)I"⟩
abbrev cX9_set : ByteArray := prog_11_method_63_code
def yX9_set : MethodName := ⟨RX9, "set", "(I)I"⟩
abbrev cX9_count : ByteArray := prog_11_method_64_code
def yX9_count : MethodName := ⟨RX9, "count", "(I)I"⟩
def RJ6 : String := "java/lang/Integer"
def TJ6 : u_T := fun k => match k with
  | _ => ("", "", "", false)
def tyJ6 : Nat → FieldType := fun k => match k with
  | _ => .int
abbrev cJ6_bitCount_0f7a4 : ByteArray := prog_12_method_49_code
def yJ6_bitCount_0f7a4 : MethodName := ⟨RJ6, "bitCount", "(I)I"⟩
def RJ9 : String := "java/lang/Math"
def TJ9 : u_T := fun k => match k with
  | _ => ("", "", "", false)
def tyJ9 : Nat → FieldType := fun k => match k with
  | _ => .int
abbrev cJ9_abs_0f7a4 : ByteArray := prog_13_method_59_code
def yJ9_abs_0f7a4 : MethodName := ⟨RJ9, "abs", "(I)I"⟩
abbrev cJ9_max_7cf53 : ByteArray := prog_13_method_65_code
def yJ9_max_7cf53 : MethodName := ⟨RJ9, "max", "(II)I"⟩
abbrev cJ9_min_7cf53 : ByteArray := prog_13_method_69_code
def yJ9_min_7cf53 : MethodName := ⟨RJ9, "min", "(II)I"⟩
def RJ10 : String := "java/lang/System"
def TJ10 : u_T := fun k => match k with
  | _ => ("", "", "", false)
def tyJ10 : Nat → FieldType := fun k => match k with
  | _ => .int
def RJ7 : String := "java/util/Arrays"
def TJ7 : u_T := fun k => match k with
  | _ => ("", "", "", false)
def tyJ7 : Nat → FieldType := fun k => match k with
  | _ => .int
abbrev cJ7_fill_53178 : ByteArray := prog_15_method_103_code
def yJ7_fill_53178 : MethodName := ⟨RJ7, "fill", "([II)V"⟩
def RL : String := "PiperHouseLaw"
abbrev cL_law : ByteArray := code
def yL_law : MethodName := ⟨RL, "law", "([I)Z"⟩
abbrev vwCl : List vw_C := [(RX0, TX0, 1), (RX1, TX1, 3), (RX2, TX2, 5), (RX3, TX3, 7), (RX4, TX4, 2), (RX5, TX5, 11), (RX6, TX6, 8), (RX7, TX7, 5), (RX8, TX8, 8), (RX9, TX9, 34)]
end
section
theorem dX0_init_0 : decode cX0_init 0 = .ok (.aload_n 0, 1) := by decide +kernel
theorem dX0_init_1 : decode cX0_init 1 = .ok (.invokespecial 3, 3) := by decide +kernel
theorem dX0_init_4 : decode cX0_init 4 = .ok (.aload_n 0, 1) := by decide +kernel
theorem dX0_init_5 : decode cX0_init 5 = .ok (.bipush 9, 2) := by decide +kernel
theorem dX0_init_7 : decode cX0_init 7 = .ok (.newarray .int, 2) := by decide +kernel
theorem dX0_init_9 : decode cX0_init 9 = .ok (.putfield 9, 3) := by decide +kernel
theorem dX0_init_12 : decode cX0_init 12 = .ok (.return_, 1) := by decide +kernel
theorem dX0_harshness_0 : decode cX0_harshness 0 = .ok (.iconst 0, 1) := by decide +kernel
theorem dX0_harshness_1 : decode cX0_harshness 1 = .ok (.istore_n 3, 1) := by decide +kernel
theorem dX0_harshness_2 : decode cX0_harshness 2 = .ok (.iconst 0, 1) := by decide +kernel
theorem dX0_harshness_3 : decode cX0_harshness 3 = .ok (.istore 4, 2) := by decide +kernel
theorem dX0_harshness_5 : decode cX0_harshness 5 = .ok (.iload 4, 2) := by decide +kernel
theorem dX0_harshness_7 : decode cX0_harshness 7 = .ok (.bipush 9, 2) := by decide +kernel
theorem dX0_harshness_9 : decode cX0_harshness 9 = .ok (.if_icmp .ge 26, 3) := by decide +kernel
theorem dX0_harshness_12 : decode cX0_harshness 12 = .ok (.iload_n 3, 1) := by decide +kernel
theorem dX0_harshness_13 : decode cX0_harshness 13 = .ok (.aload_n 0, 1) := by decide +kernel
theorem dX0_harshness_14 : decode cX0_harshness 14 = .ok (.getfield 9, 3) := by decide +kernel
theorem dX0_harshness_17 : decode cX0_harshness 17 = .ok (.iload 4, 2) := by decide +kernel
theorem dX0_harshness_19 : decode cX0_harshness 19 = .ok (.iaload, 1) := by decide +kernel
theorem dX0_harshness_20 : decode cX0_harshness 20 = .ok (.iload_n 2, 1) := by decide +kernel
theorem dX0_harshness_21 : decode cX0_harshness 21 = .ok (.iadd, 1) := by decide +kernel
theorem dX0_harshness_22 : decode cX0_harshness 22 = .ok (.iload_n 1, 1) := by decide +kernel
theorem dX0_harshness_23 : decode cX0_harshness 23 = .ok (.isub, 1) := by decide +kernel
theorem dX0_harshness_24 : decode cX0_harshness 24 = .ok (.invokestatic 15, 3) := by decide +kernel
theorem dX0_harshness_27 : decode cX0_harshness 27 = .ok (.iadd, 1) := by decide +kernel
theorem dX0_harshness_28 : decode cX0_harshness 28 = .ok (.istore_n 3, 1) := by decide +kernel
theorem dX0_harshness_29 : decode cX0_harshness 29 = .ok (.iinc 4 1, 3) := by decide +kernel
theorem dX0_harshness_32 : decode cX0_harshness 32 = .ok (.goto (-27), 3) := by decide +kernel
theorem dX0_harshness_35 : decode cX0_harshness 35 = .ok (.iload_n 3, 1) := by decide +kernel
theorem dX0_harshness_36 : decode cX0_harshness 36 = .ok (.ireturn, 1) := by decide +kernel
theorem dX0_mildest_0 : decode cX0_mildest 0 = .ok (.sipush (-999), 3) := by decide +kernel
theorem dX0_mildest_3 : decode cX0_mildest 3 = .ok (.sipush 999, 3) := by decide +kernel
theorem dX0_mildest_6 : decode cX0_mildest 6 = .ok (.aload_n 0, 1) := by decide +kernel
theorem dX0_mildest_7 : decode cX0_mildest 7 = .ok (.invokevirtual 21, 3) := by decide +kernel
theorem dX0_mildest_10 : decode cX0_mildest 10 = .ok (.iload_n 1, 1) := by decide +kernel
theorem dX0_mildest_11 : decode cX0_mildest 11 = .ok (.iadd, 1) := by decide +kernel
theorem dX0_mildest_12 : decode cX0_mildest 12 = .ok (.invokestatic 25, 3) := by decide +kernel
theorem dX0_mildest_15 : decode cX0_mildest 15 = .ok (.invokestatic 29, 3) := by decide +kernel
theorem dX0_mildest_18 : decode cX0_mildest 18 = .ok (.ireturn, 1) := by decide +kernel
theorem dX0_middleTone_0 : decode cX0_middleTone 0 = .ok (.iconst 0, 1) := by decide +kernel
theorem dX0_middleTone_1 : decode cX0_middleTone 1 = .ok (.istore_n 1, 1) := by decide +kernel
theorem dX0_middleTone_2 : decode cX0_middleTone 2 = .ok (.iload_n 1, 1) := by decide +kernel
theorem dX0_middleTone_3 : decode cX0_middleTone 3 = .ok (.bipush 9, 2) := by decide +kernel
theorem dX0_middleTone_5 : decode cX0_middleTone 5 = .ok (.if_icmp .ge 94, 3) := by decide +kernel
theorem dX0_middleTone_8 : decode cX0_middleTone 8 = .ok (.iconst 0, 1) := by decide +kernel
theorem dX0_middleTone_9 : decode cX0_middleTone 9 = .ok (.istore_n 2, 1) := by decide +kernel
theorem dX0_middleTone_10 : decode cX0_middleTone 10 = .ok (.iconst 0, 1) := by decide +kernel
theorem dX0_middleTone_11 : decode cX0_middleTone 11 = .ok (.istore_n 3, 1) := by decide +kernel
theorem dX0_middleTone_12 : decode cX0_middleTone 12 = .ok (.iconst 0, 1) := by decide +kernel
theorem dX0_middleTone_13 : decode cX0_middleTone 13 = .ok (.istore 4, 2) := by decide +kernel
theorem dX0_middleTone_15 : decode cX0_middleTone 15 = .ok (.iload 4, 2) := by decide +kernel
theorem dX0_middleTone_17 : decode cX0_middleTone 17 = .ok (.bipush 9, 2) := by decide +kernel
theorem dX0_middleTone_19 : decode cX0_middleTone 19 = .ok (.if_icmp .ge 57, 3) := by decide +kernel
theorem dX0_middleTone_22 : decode cX0_middleTone 22 = .ok (.iload_n 2, 1) := by decide +kernel
theorem dX0_middleTone_23 : decode cX0_middleTone 23 = .ok (.aload_n 0, 1) := by decide +kernel
theorem dX0_middleTone_24 : decode cX0_middleTone 24 = .ok (.getfield 9, 3) := by decide +kernel
theorem dX0_middleTone_27 : decode cX0_middleTone 27 = .ok (.iload 4, 2) := by decide +kernel
theorem dX0_middleTone_29 : decode cX0_middleTone 29 = .ok (.iaload, 1) := by decide +kernel
theorem dX0_middleTone_30 : decode cX0_middleTone 30 = .ok (.aload_n 0, 1) := by decide +kernel
theorem dX0_middleTone_31 : decode cX0_middleTone 31 = .ok (.getfield 9, 3) := by decide +kernel
theorem dX0_middleTone_34 : decode cX0_middleTone 34 = .ok (.iload_n 1, 1) := by decide +kernel
theorem dX0_middleTone_35 : decode cX0_middleTone 35 = .ok (.iaload, 1) := by decide +kernel
theorem dX0_middleTone_36 : decode cX0_middleTone 36 = .ok (.if_icmp .ge 7, 3) := by decide +kernel
theorem dX0_middleTone_39 : decode cX0_middleTone 39 = .ok (.iconst 1, 1) := by decide +kernel
theorem dX0_middleTone_40 : decode cX0_middleTone 40 = .ok (.goto 4, 3) := by decide +kernel
theorem dX0_middleTone_43 : decode cX0_middleTone 43 = .ok (.iconst 0, 1) := by decide +kernel
theorem dX0_middleTone_44 : decode cX0_middleTone 44 = .ok (.iadd, 1) := by decide +kernel
theorem dX0_middleTone_45 : decode cX0_middleTone 45 = .ok (.istore_n 2, 1) := by decide +kernel
theorem dX0_middleTone_46 : decode cX0_middleTone 46 = .ok (.iload_n 3, 1) := by decide +kernel
theorem dX0_middleTone_47 : decode cX0_middleTone 47 = .ok (.aload_n 0, 1) := by decide +kernel
theorem dX0_middleTone_48 : decode cX0_middleTone 48 = .ok (.getfield 9, 3) := by decide +kernel
theorem dX0_middleTone_51 : decode cX0_middleTone 51 = .ok (.iload 4, 2) := by decide +kernel
theorem dX0_middleTone_53 : decode cX0_middleTone 53 = .ok (.iaload, 1) := by decide +kernel
theorem dX0_middleTone_54 : decode cX0_middleTone 54 = .ok (.aload_n 0, 1) := by decide +kernel
theorem dX0_middleTone_55 : decode cX0_middleTone 55 = .ok (.getfield 9, 3) := by decide +kernel
theorem dX0_middleTone_58 : decode cX0_middleTone 58 = .ok (.iload_n 1, 1) := by decide +kernel
theorem dX0_middleTone_59 : decode cX0_middleTone 59 = .ok (.iaload, 1) := by decide +kernel
theorem dX0_middleTone_60 : decode cX0_middleTone 60 = .ok (.if_icmp .gt 7, 3) := by decide +kernel
theorem dX0_middleTone_63 : decode cX0_middleTone 63 = .ok (.iconst 1, 1) := by decide +kernel
theorem dX0_middleTone_64 : decode cX0_middleTone 64 = .ok (.goto 4, 3) := by decide +kernel
theorem dX0_middleTone_67 : decode cX0_middleTone 67 = .ok (.iconst 0, 1) := by decide +kernel
theorem dX0_middleTone_68 : decode cX0_middleTone 68 = .ok (.iadd, 1) := by decide +kernel
theorem dX0_middleTone_69 : decode cX0_middleTone 69 = .ok (.istore_n 3, 1) := by decide +kernel
theorem dX0_middleTone_70 : decode cX0_middleTone 70 = .ok (.iinc 4 1, 3) := by decide +kernel
theorem dX0_middleTone_73 : decode cX0_middleTone 73 = .ok (.goto (-58), 3) := by decide +kernel
theorem dX0_middleTone_76 : decode cX0_middleTone 76 = .ok (.iload_n 2, 1) := by decide +kernel
theorem dX0_middleTone_77 : decode cX0_middleTone 77 = .ok (.iconst 4, 1) := by decide +kernel
theorem dX0_middleTone_78 : decode cX0_middleTone 78 = .ok (.if_icmp .gt 15, 3) := by decide +kernel
theorem dX0_middleTone_81 : decode cX0_middleTone 81 = .ok (.iload_n 3, 1) := by decide +kernel
theorem dX0_middleTone_82 : decode cX0_middleTone 82 = .ok (.iconst 4, 1) := by decide +kernel
theorem dX0_middleTone_83 : decode cX0_middleTone 83 = .ok (.if_icmp .le 10, 3) := by decide +kernel
theorem dX0_middleTone_86 : decode cX0_middleTone 86 = .ok (.aload_n 0, 1) := by decide +kernel
theorem dX0_middleTone_87 : decode cX0_middleTone 87 = .ok (.getfield 9, 3) := by decide +kernel
theorem dX0_middleTone_90 : decode cX0_middleTone 90 = .ok (.iload_n 1, 1) := by decide +kernel
theorem dX0_middleTone_91 : decode cX0_middleTone 91 = .ok (.iaload, 1) := by decide +kernel
theorem dX0_middleTone_92 : decode cX0_middleTone 92 = .ok (.ireturn, 1) := by decide +kernel
theorem dX0_middleTone_93 : decode cX0_middleTone 93 = .ok (.iinc 1 1, 3) := by decide +kernel
theorem dX0_middleTone_96 : decode cX0_middleTone 96 = .ok (.goto (-94), 3) := by decide +kernel
theorem dX0_middleTone_99 : decode cX0_middleTone 99 = .ok (.iconst 0, 1) := by decide +kernel
theorem dX0_middleTone_100 : decode cX0_middleTone 100 = .ok (.ireturn, 1) := by decide +kernel
theorem dX1_init_0 : decode cX1_init 0 = .ok (.aload_n 0, 1) := by decide +kernel
theorem dX1_init_1 : decode cX1_init 1 = .ok (.invokespecial 3, 3) := by decide +kernel
theorem dX1_init_4 : decode cX1_init 4 = .ok (.aload_n 0, 1) := by decide +kernel
theorem dX1_init_5 : decode cX1_init 5 = .ok (.bipush 16, 2) := by decide +kernel
theorem dX1_init_7 : decode cX1_init 7 = .ok (.newarray .int, 2) := by decide +kernel
theorem dX1_init_9 : decode cX1_init 9 = .ok (.putfield 9, 3) := by decide +kernel
theorem dX1_init_12 : decode cX1_init 12 = .ok (.aload_n 0, 1) := by decide +kernel
theorem dX1_init_13 : decode cX1_init 13 = .ok (.aload_n 1, 1) := by decide +kernel
theorem dX1_init_14 : decode cX1_init 14 = .ok (.putfield 15, 3) := by decide +kernel
theorem dX1_init_17 : decode cX1_init 17 = .ok (.return_, 1) := by decide +kernel
theorem dX1_append_0 : decode cX1_append 0 = .ok (.aload_n 0, 1) := by decide +kernel
theorem dX1_append_1 : decode cX1_append 1 = .ok (.getfield 9, 3) := by decide +kernel
theorem dX1_append_4 : decode cX1_append 4 = .ok (.aload_n 0, 1) := by decide +kernel
theorem dX1_append_5 : decode cX1_append 5 = .ok (.getfield 19, 3) := by decide +kernel
theorem dX1_append_8 : decode cX1_append 8 = .ok (.iload_n 1, 1) := by decide +kernel
theorem dX1_append_9 : decode cX1_append 9 = .ok (.iastore, 1) := by decide +kernel
theorem dX1_append_10 : decode cX1_append 10 = .ok (.aload_n 0, 1) := by decide +kernel
theorem dX1_append_11 : decode cX1_append 11 = .ok (.dup, 1) := by decide +kernel
theorem dX1_append_12 : decode cX1_append 12 = .ok (.getfield 19, 3) := by decide +kernel
theorem dX1_append_15 : decode cX1_append 15 = .ok (.iconst 1, 1) := by decide +kernel
theorem dX1_append_16 : decode cX1_append 16 = .ok (.iadd, 1) := by decide +kernel
theorem dX1_append_17 : decode cX1_append 17 = .ok (.putfield 19, 3) := by decide +kernel
theorem dX1_append_20 : decode cX1_append 20 = .ok (.aload_n 0, 1) := by decide +kernel
theorem dX1_append_21 : decode cX1_append 21 = .ok (.getfield 19, 3) := by decide +kernel
theorem dX1_append_24 : decode cX1_append 24 = .ok (.ireturn, 1) := by decide +kernel
theorem dX1_variationAt_0 : decode cX1_variationAt 0 = .ok (.aload_n 0, 1) := by decide +kernel
theorem dX1_variationAt_1 : decode cX1_variationAt 1 = .ok (.getfield 15, 3) := by decide +kernel
theorem dX1_variationAt_4 : decode cX1_variationAt 4 = .ok (.iload_n 1, 1) := by decide +kernel
theorem dX1_variationAt_5 : decode cX1_variationAt 5 = .ok (.aload_n 0, 1) := by decide +kernel
theorem dX1_variationAt_6 : decode cX1_variationAt 6 = .ok (.getfield 19, 3) := by decide +kernel
theorem dX1_variationAt_9 : decode cX1_variationAt 9 = .ok (.iload_n 2, 1) := by decide +kernel
theorem dX1_variationAt_10 : decode cX1_variationAt 10 = .ok (.iload_n 3, 1) := by decide +kernel
theorem dX1_variationAt_11 : decode cX1_variationAt 11 = .ok (.invokevirtual 23, 3) := by decide +kernel
theorem dX1_variationAt_14 : decode cX1_variationAt 14 = .ok (.istore 4, 2) := by decide +kernel
theorem dX1_variationAt_16 : decode cX1_variationAt 16 = .ok (.iload 4, 2) := by decide +kernel
theorem dX1_variationAt_18 : decode cX1_variationAt 18 = .ok (.bipush 16, 2) := by decide +kernel
theorem dX1_variationAt_20 : decode cX1_variationAt 20 = .ok (.if_icmp .ge 8, 3) := by decide +kernel
theorem dX1_variationAt_23 : decode cX1_variationAt 23 = .ok (.iload 4, 2) := by decide +kernel
theorem dX1_variationAt_25 : decode cX1_variationAt 25 = .ok (.goto 13, 3) := by decide +kernel
theorem dX1_variationAt_28 : decode cX1_variationAt 28 = .ok (.aload_n 0, 1) := by decide +kernel
theorem dX1_variationAt_29 : decode cX1_variationAt 29 = .ok (.getfield 9, 3) := by decide +kernel
theorem dX1_variationAt_32 : decode cX1_variationAt 32 = .ok (.iload 4, 2) := by decide +kernel
theorem dX1_variationAt_34 : decode cX1_variationAt 34 = .ok (.bipush 16, 2) := by decide +kernel
theorem dX1_variationAt_36 : decode cX1_variationAt 36 = .ok (.isub, 1) := by decide +kernel
theorem dX1_variationAt_37 : decode cX1_variationAt 37 = .ok (.iaload, 1) := by decide +kernel
theorem dX1_variationAt_38 : decode cX1_variationAt 38 = .ok (.ireturn, 1) := by decide +kernel
theorem dX2_init_0 : decode cX2_init 0 = .ok (.aload_n 0, 1) := by decide +kernel
theorem dX2_init_1 : decode cX2_init 1 = .ok (.invokespecial 3, 3) := by decide +kernel
theorem dX2_init_4 : decode cX2_init 4 = .ok (.aload_n 0, 1) := by decide +kernel
theorem dX2_init_5 : decode cX2_init 5 = .ok (.bipush 8, 2) := by decide +kernel
theorem dX2_init_7 : decode cX2_init 7 = .ok (.newarray .int, 2) := by decide +kernel
theorem dX2_init_9 : decode cX2_init 9 = .ok (.putfield 9, 3) := by decide +kernel
theorem dX2_init_12 : decode cX2_init 12 = .ok (.aload_n 0, 1) := by decide +kernel
theorem dX2_init_13 : decode cX2_init 13 = .ok (.bipush 8, 2) := by decide +kernel
theorem dX2_init_15 : decode cX2_init 15 = .ok (.iconst 4, 1) := by decide +kernel
theorem dX2_init_16 : decode cX2_init 16 = .ok (.multianewarray 15 2, 4) := by decide +kernel
theorem dX2_init_20 : decode cX2_init 20 = .ok (.putfield 17, 3) := by decide +kernel
theorem dX2_init_23 : decode cX2_init 23 = .ok (.aload_n 0, 1) := by decide +kernel
theorem dX2_init_24 : decode cX2_init 24 = .ok (.bipush 8, 2) := by decide +kernel
theorem dX2_init_26 : decode cX2_init 26 = .ok (.newarray .int, 2) := by decide +kernel
theorem dX2_init_28 : decode cX2_init 28 = .ok (.putfield 20, 3) := by decide +kernel
theorem dX2_init_31 : decode cX2_init 31 = .ok (.aload_n 0, 1) := by decide +kernel
theorem dX2_init_32 : decode cX2_init 32 = .ok (.bipush 8, 2) := by decide +kernel
theorem dX2_init_34 : decode cX2_init 34 = .ok (.newarray .int, 2) := by decide +kernel
theorem dX2_init_36 : decode cX2_init 36 = .ok (.putfield 23, 3) := by decide +kernel
theorem dX2_init_39 : decode cX2_init 39 = .ok (.aload_n 0, 1) := by decide +kernel
theorem dX2_init_40 : decode cX2_init 40 = .ok (.iconst 1, 1) := by decide +kernel
theorem dX2_init_41 : decode cX2_init 41 = .ok (.putfield 26, 3) := by decide +kernel
theorem dX2_init_44 : decode cX2_init 44 = .ok (.aload_n 0, 1) := by decide +kernel
theorem dX2_init_45 : decode cX2_init 45 = .ok (.getfield 20, 3) := by decide +kernel
theorem dX2_init_48 : decode cX2_init 48 = .ok (.iconst 0, 1) := by decide +kernel
theorem dX2_init_49 : decode cX2_init 49 = .ok (.sipush 511, 3) := by decide +kernel
theorem dX2_init_52 : decode cX2_init 52 = .ok (.iastore, 1) := by decide +kernel
theorem dX2_init_53 : decode cX2_init 53 = .ok (.aload_n 0, 1) := by decide +kernel
theorem dX2_init_54 : decode cX2_init 54 = .ok (.getfield 23, 3) := by decide +kernel
theorem dX2_init_57 : decode cX2_init 57 = .ok (.iconst 0, 1) := by decide +kernel
theorem dX2_init_58 : decode cX2_init 58 = .ok (.sipush 511, 3) := by decide +kernel
theorem dX2_init_61 : decode cX2_init 61 = .ok (.iastore, 1) := by decide +kernel
theorem dX2_init_62 : decode cX2_init 62 = .ok (.return_, 1) := by decide +kernel
theorem dX2_become_0 : decode cX2_become 0 = .ok (.aload_n 0, 1) := by decide +kernel
theorem dX2_become_1 : decode cX2_become 1 = .ok (.getfield 9, 3) := by decide +kernel
theorem dX2_become_4 : decode cX2_become 4 = .ok (.iload_n 1, 1) := by decide +kernel
theorem dX2_become_5 : decode cX2_become 5 = .ok (.iload_n 2, 1) := by decide +kernel
theorem dX2_become_6 : decode cX2_become 6 = .ok (.iastore, 1) := by decide +kernel
theorem dX2_become_7 : decode cX2_become 7 = .ok (.iconst 0, 1) := by decide +kernel
theorem dX2_become_8 : decode cX2_become 8 = .ok (.istore 4, 2) := by decide +kernel
theorem dX2_become_10 : decode cX2_become 10 = .ok (.iload 4, 2) := by decide +kernel
theorem dX2_become_12 : decode cX2_become 12 = .ok (.iload_n 2, 1) := by decide +kernel
theorem dX2_become_13 : decode cX2_become 13 = .ok (.if_icmp .ge 24, 3) := by decide +kernel
theorem dX2_become_16 : decode cX2_become 16 = .ok (.aload_n 0, 1) := by decide +kernel
theorem dX2_become_17 : decode cX2_become 17 = .ok (.getfield 17, 3) := by decide +kernel
theorem dX2_become_20 : decode cX2_become 20 = .ok (.iload_n 1, 1) := by decide +kernel
theorem dX2_become_21 : decode cX2_become 21 = .ok (.aaload, 1) := by decide +kernel
theorem dX2_become_22 : decode cX2_become 22 = .ok (.iload 4, 2) := by decide +kernel
theorem dX2_become_24 : decode cX2_become 24 = .ok (.iload_n 3, 1) := by decide +kernel
theorem dX2_become_25 : decode cX2_become 25 = .ok (.iload 4, 2) := by decide +kernel
theorem dX2_become_27 : decode cX2_become 27 = .ok (.invokestatic 30, 3) := by decide +kernel
theorem dX2_become_30 : decode cX2_become 30 = .ok (.iastore, 1) := by decide +kernel
theorem dX2_become_31 : decode cX2_become 31 = .ok (.iinc 4 1, 3) := by decide +kernel
theorem dX2_become_34 : decode cX2_become 34 = .ok (.goto (-24), 3) := by decide +kernel
theorem dX2_become_37 : decode cX2_become 37 = .ok (.return_, 1) := by decide +kernel
theorem dX2_leadsTo_0 : decode cX2_leadsTo 0 = .ok (.iload_n 2, 1) := by decide +kernel
theorem dX2_leadsTo_1 : decode cX2_leadsTo 1 = .ok (.iconst (-1), 1) := by decide +kernel
theorem dX2_leadsTo_2 : decode cX2_leadsTo 2 = .ok (.if_icmp .eq 18, 3) := by decide +kernel
theorem dX2_leadsTo_5 : decode cX2_leadsTo 5 = .ok (.aload_n 0, 1) := by decide +kernel
theorem dX2_leadsTo_6 : decode cX2_leadsTo 6 = .ok (.getfield 20, 3) := by decide +kernel
theorem dX2_leadsTo_9 : decode cX2_leadsTo 9 = .ok (.iload_n 1, 1) := by decide +kernel
theorem dX2_leadsTo_10 : decode cX2_leadsTo 10 = .ok (.iaload, 1) := by decide +kernel
theorem dX2_leadsTo_11 : decode cX2_leadsTo 11 = .ok (.iload_n 2, 1) := by decide +kernel
theorem dX2_leadsTo_12 : decode cX2_leadsTo 12 = .ok (.invokestatic 34, 3) := by decide +kernel
theorem dX2_leadsTo_15 : decode cX2_leadsTo 15 = .ok (.ifCond .ne 5, 3) := by decide +kernel
theorem dX2_leadsTo_18 : decode cX2_leadsTo 18 = .ok (.iconst 0, 1) := by decide +kernel
theorem dX2_leadsTo_19 : decode cX2_leadsTo 19 = .ok (.ireturn, 1) := by decide +kernel
theorem dX2_leadsTo_20 : decode cX2_leadsTo 20 = .ok (.aload_n 0, 1) := by decide +kernel
theorem dX2_leadsTo_21 : decode cX2_leadsTo 21 = .ok (.getfield 9, 3) := by decide +kernel
theorem dX2_leadsTo_24 : decode cX2_leadsTo 24 = .ok (.iload_n 1, 1) := by decide +kernel
theorem dX2_leadsTo_25 : decode cX2_leadsTo 25 = .ok (.iaload, 1) := by decide +kernel
theorem dX2_leadsTo_26 : decode cX2_leadsTo 26 = .ok (.istore_n 3, 1) := by decide +kernel
theorem dX2_leadsTo_27 : decode cX2_leadsTo 27 = .ok (.iload_n 3, 1) := by decide +kernel
theorem dX2_leadsTo_28 : decode cX2_leadsTo 28 = .ok (.ifCond .ne 30, 3) := by decide +kernel
theorem dX2_leadsTo_31 : decode cX2_leadsTo 31 = .ok (.iload_n 2, 1) := by decide +kernel
theorem dX2_leadsTo_32 : decode cX2_leadsTo 32 = .ok (.iconst (-1), 1) := by decide +kernel
theorem dX2_leadsTo_33 : decode cX2_leadsTo 33 = .ok (.if_icmp .ne 12, 3) := by decide +kernel
theorem dX2_leadsTo_36 : decode cX2_leadsTo 36 = .ok (.aload_n 0, 1) := by decide +kernel
theorem dX2_leadsTo_37 : decode cX2_leadsTo 37 = .ok (.getfield 23, 3) := by decide +kernel
theorem dX2_leadsTo_40 : decode cX2_leadsTo 40 = .ok (.iload_n 1, 1) := by decide +kernel
theorem dX2_leadsTo_41 : decode cX2_leadsTo 41 = .ok (.iaload, 1) := by decide +kernel
theorem dX2_leadsTo_42 : decode cX2_leadsTo 42 = .ok (.goto 15, 3) := by decide +kernel
theorem dX2_leadsTo_45 : decode cX2_leadsTo 45 = .ok (.aload_n 0, 1) := by decide +kernel
theorem dX2_leadsTo_46 : decode cX2_leadsTo 46 = .ok (.getfield 23, 3) := by decide +kernel
theorem dX2_leadsTo_49 : decode cX2_leadsTo 49 = .ok (.iload_n 1, 1) := by decide +kernel
theorem dX2_leadsTo_50 : decode cX2_leadsTo 50 = .ok (.iaload, 1) := by decide +kernel
theorem dX2_leadsTo_51 : decode cX2_leadsTo 51 = .ok (.iconst 1, 1) := by decide +kernel
theorem dX2_leadsTo_52 : decode cX2_leadsTo 52 = .ok (.iload_n 2, 1) := by decide +kernel
theorem dX2_leadsTo_53 : decode cX2_leadsTo 53 = .ok (.ishl, 1) := by decide +kernel
theorem dX2_leadsTo_54 : decode cX2_leadsTo 54 = .ok (.iconst (-1), 1) := by decide +kernel
theorem dX2_leadsTo_55 : decode cX2_leadsTo 55 = .ok (.ixor, 1) := by decide +kernel
theorem dX2_leadsTo_56 : decode cX2_leadsTo 56 = .ok (.iand, 1) := by decide +kernel
theorem dX2_leadsTo_57 : decode cX2_leadsTo 57 = .ok (.ireturn, 1) := by decide +kernel
theorem dX2_leadsTo_58 : decode cX2_leadsTo 58 = .ok (.iload_n 2, 1) := by decide +kernel
theorem dX2_leadsTo_59 : decode cX2_leadsTo 59 = .ok (.aload_n 0, 1) := by decide +kernel
theorem dX2_leadsTo_60 : decode cX2_leadsTo 60 = .ok (.getfield 17, 3) := by decide +kernel
theorem dX2_leadsTo_63 : decode cX2_leadsTo 63 = .ok (.iload_n 1, 1) := by decide +kernel
theorem dX2_leadsTo_64 : decode cX2_leadsTo 64 = .ok (.aaload, 1) := by decide +kernel
theorem dX2_leadsTo_65 : decode cX2_leadsTo 65 = .ok (.iconst 0, 1) := by decide +kernel
theorem dX2_leadsTo_66 : decode cX2_leadsTo 66 = .ok (.iaload, 1) := by decide +kernel
theorem dX2_leadsTo_67 : decode cX2_leadsTo 67 = .ok (.if_icmp .eq 11, 3) := by decide +kernel
theorem dX2_leadsTo_70 : decode cX2_leadsTo 70 = .ok (.aload_n 0, 1) := by decide +kernel
theorem dX2_leadsTo_71 : decode cX2_leadsTo 71 = .ok (.iload_n 1, 1) := by decide +kernel
theorem dX2_leadsTo_72 : decode cX2_leadsTo 72 = .ok (.invokevirtual 38, 3) := by decide +kernel
theorem dX2_leadsTo_75 : decode cX2_leadsTo 75 = .ok (.ifCond .eq 5, 3) := by decide +kernel
theorem dX2_leadsTo_78 : decode cX2_leadsTo 78 = .ok (.iconst 0, 1) := by decide +kernel
theorem dX2_leadsTo_79 : decode cX2_leadsTo 79 = .ok (.ireturn, 1) := by decide +kernel
theorem dX2_leadsTo_80 : decode cX2_leadsTo 80 = .ok (.aload_n 0, 1) := by decide +kernel
theorem dX2_leadsTo_81 : decode cX2_leadsTo 81 = .ok (.getfield 23, 3) := by decide +kernel
theorem dX2_leadsTo_84 : decode cX2_leadsTo 84 = .ok (.iload_n 1, 1) := by decide +kernel
theorem dX2_leadsTo_85 : decode cX2_leadsTo 85 = .ok (.iaload, 1) := by decide +kernel
theorem dX2_leadsTo_86 : decode cX2_leadsTo 86 = .ok (.iconst 1, 1) := by decide +kernel
theorem dX2_leadsTo_87 : decode cX2_leadsTo 87 = .ok (.aload_n 0, 1) := by decide +kernel
theorem dX2_leadsTo_88 : decode cX2_leadsTo 88 = .ok (.getfield 17, 3) := by decide +kernel
theorem dX2_leadsTo_91 : decode cX2_leadsTo 91 = .ok (.iload_n 1, 1) := by decide +kernel
theorem dX2_leadsTo_92 : decode cX2_leadsTo 92 = .ok (.aaload, 1) := by decide +kernel
theorem dX2_leadsTo_93 : decode cX2_leadsTo 93 = .ok (.iload_n 3, 1) := by decide +kernel
theorem dX2_leadsTo_94 : decode cX2_leadsTo 94 = .ok (.iconst 1, 1) := by decide +kernel
theorem dX2_leadsTo_95 : decode cX2_leadsTo 95 = .ok (.isub, 1) := by decide +kernel
theorem dX2_leadsTo_96 : decode cX2_leadsTo 96 = .ok (.iaload, 1) := by decide +kernel
theorem dX2_leadsTo_97 : decode cX2_leadsTo 97 = .ok (.ishl, 1) := by decide +kernel
theorem dX2_leadsTo_98 : decode cX2_leadsTo 98 = .ok (.iconst (-1), 1) := by decide +kernel
theorem dX2_leadsTo_99 : decode cX2_leadsTo 99 = .ok (.ixor, 1) := by decide +kernel
theorem dX2_leadsTo_100 : decode cX2_leadsTo 100 = .ok (.iand, 1) := by decide +kernel
theorem dX2_leadsTo_101 : decode cX2_leadsTo 101 = .ok (.ireturn, 1) := by decide +kernel
theorem dX2_joins_0 : decode cX2_joins 0 = .ok (.aload_n 0, 1) := by decide +kernel
theorem dX2_joins_1 : decode cX2_joins 1 = .ok (.iload_n 1, 1) := by decide +kernel
theorem dX2_joins_2 : decode cX2_joins 2 = .ok (.iload_n 2, 1) := by decide +kernel
theorem dX2_joins_3 : decode cX2_joins 3 = .ok (.invokevirtual 42, 3) := by decide +kernel
theorem dX2_joins_6 : decode cX2_joins 6 = .ok (.iload_n 3, 1) := by decide +kernel
theorem dX2_joins_7 : decode cX2_joins 7 = .ok (.invokestatic 34, 3) := by decide +kernel
theorem dX2_joins_10 : decode cX2_joins 10 = .ok (.ireturn, 1) := by decide +kernel
theorem dX2_leavesTime_0 : decode cX2_leavesTime 0 = .ok (.iload_n 2, 1) := by decide +kernel
theorem dX2_leavesTime_1 : decode cX2_leavesTime 1 = .ok (.aload_n 0, 1) := by decide +kernel
theorem dX2_leavesTime_2 : decode cX2_leavesTime 2 = .ok (.getfield 26, 3) := by decide +kernel
theorem dX2_leavesTime_5 : decode cX2_leavesTime 5 = .ok (.aload_n 0, 1) := by decide +kernel
theorem dX2_leavesTime_6 : decode cX2_leavesTime 6 = .ok (.getfield 9, 3) := by decide +kernel
theorem dX2_leavesTime_9 : decode cX2_leavesTime 9 = .ok (.iload_n 1, 1) := by decide +kernel
theorem dX2_leavesTime_10 : decode cX2_leavesTime 10 = .ok (.iaload, 1) := by decide +kernel
theorem dX2_leavesTime_11 : decode cX2_leavesTime 11 = .ok (.imul, 1) := by decide +kernel
theorem dX2_leavesTime_12 : decode cX2_leavesTime 12 = .ok (.if_icmp .le 7, 3) := by decide +kernel
theorem dX2_leavesTime_15 : decode cX2_leavesTime 15 = .ok (.iconst 1, 1) := by decide +kernel
theorem dX2_leavesTime_16 : decode cX2_leavesTime 16 = .ok (.goto 4, 3) := by decide +kernel
theorem dX2_leavesTime_19 : decode cX2_leavesTime 19 = .ok (.iconst 0, 1) := by decide +kernel
theorem dX2_leavesTime_20 : decode cX2_leavesTime 20 = .ok (.ireturn, 1) := by decide +kernel
theorem dX2_repeatsGrace_0 : decode cX2_repeatsGrace 0 = .ok (.iconst 1, 1) := by decide +kernel
theorem dX2_repeatsGrace_1 : decode cX2_repeatsGrace 1 = .ok (.istore_n 2, 1) := by decide +kernel
theorem dX2_repeatsGrace_2 : decode cX2_repeatsGrace 2 = .ok (.iload_n 2, 1) := by decide +kernel
theorem dX2_repeatsGrace_3 : decode cX2_repeatsGrace 3 = .ok (.aload_n 0, 1) := by decide +kernel
theorem dX2_repeatsGrace_4 : decode cX2_repeatsGrace 4 = .ok (.getfield 9, 3) := by decide +kernel
theorem dX2_repeatsGrace_7 : decode cX2_repeatsGrace 7 = .ok (.iload_n 1, 1) := by decide +kernel
theorem dX2_repeatsGrace_8 : decode cX2_repeatsGrace 8 = .ok (.iaload, 1) := by decide +kernel
theorem dX2_repeatsGrace_9 : decode cX2_repeatsGrace 9 = .ok (.if_icmp .ge 32, 3) := by decide +kernel
theorem dX2_repeatsGrace_12 : decode cX2_repeatsGrace 12 = .ok (.aload_n 0, 1) := by decide +kernel
theorem dX2_repeatsGrace_13 : decode cX2_repeatsGrace 13 = .ok (.getfield 17, 3) := by decide +kernel
theorem dX2_repeatsGrace_16 : decode cX2_repeatsGrace 16 = .ok (.iload_n 1, 1) := by decide +kernel
theorem dX2_repeatsGrace_17 : decode cX2_repeatsGrace 17 = .ok (.aaload, 1) := by decide +kernel
theorem dX2_repeatsGrace_18 : decode cX2_repeatsGrace 18 = .ok (.iload_n 2, 1) := by decide +kernel
theorem dX2_repeatsGrace_19 : decode cX2_repeatsGrace 19 = .ok (.iaload, 1) := by decide +kernel
theorem dX2_repeatsGrace_20 : decode cX2_repeatsGrace 20 = .ok (.aload_n 0, 1) := by decide +kernel
theorem dX2_repeatsGrace_21 : decode cX2_repeatsGrace 21 = .ok (.getfield 17, 3) := by decide +kernel
theorem dX2_repeatsGrace_24 : decode cX2_repeatsGrace 24 = .ok (.iload_n 1, 1) := by decide +kernel
theorem dX2_repeatsGrace_25 : decode cX2_repeatsGrace 25 = .ok (.aaload, 1) := by decide +kernel
theorem dX2_repeatsGrace_26 : decode cX2_repeatsGrace 26 = .ok (.iload_n 2, 1) := by decide +kernel
theorem dX2_repeatsGrace_27 : decode cX2_repeatsGrace 27 = .ok (.iconst 1, 1) := by decide +kernel
theorem dX2_repeatsGrace_28 : decode cX2_repeatsGrace 28 = .ok (.isub, 1) := by decide +kernel
theorem dX2_repeatsGrace_29 : decode cX2_repeatsGrace 29 = .ok (.iaload, 1) := by decide +kernel
theorem dX2_repeatsGrace_30 : decode cX2_repeatsGrace 30 = .ok (.if_icmp .ne 5, 3) := by decide +kernel
theorem dX2_repeatsGrace_33 : decode cX2_repeatsGrace 33 = .ok (.iconst 1, 1) := by decide +kernel
theorem dX2_repeatsGrace_34 : decode cX2_repeatsGrace 34 = .ok (.ireturn, 1) := by decide +kernel
theorem dX2_repeatsGrace_35 : decode cX2_repeatsGrace 35 = .ok (.iinc 2 1, 3) := by decide +kernel
theorem dX2_repeatsGrace_38 : decode cX2_repeatsGrace 38 = .ok (.goto (-36), 3) := by decide +kernel
theorem dX2_repeatsGrace_41 : decode cX2_repeatsGrace 41 = .ok (.iconst 0, 1) := by decide +kernel
theorem dX2_repeatsGrace_42 : decode cX2_repeatsGrace 42 = .ok (.ireturn, 1) := by decide +kernel
theorem dX3_init_0 : decode cX3_init 0 = .ok (.aload_n 0, 1) := by decide +kernel
theorem dX3_init_1 : decode cX3_init 1 = .ok (.invokespecial 3, 3) := by decide +kernel
theorem dX3_init_4 : decode cX3_init 4 = .ok (.aload_n 0, 1) := by decide +kernel
theorem dX3_init_5 : decode cX3_init 5 = .ok (.bipush 6, 2) := by decide +kernel
theorem dX3_init_7 : decode cX3_init 7 = .ok (.newarray .int, 2) := by decide +kernel
theorem dX3_init_9 : decode cX3_init 9 = .ok (.putfield 9, 3) := by decide +kernel
theorem dX3_init_12 : decode cX3_init 12 = .ok (.aload_n 0, 1) := by decide +kernel
theorem dX3_init_13 : decode cX3_init 13 = .ok (.bipush 6, 2) := by decide +kernel
theorem dX3_init_15 : decode cX3_init 15 = .ok (.newarray .int, 2) := by decide +kernel
theorem dX3_init_17 : decode cX3_init 17 = .ok (.putfield 15, 3) := by decide +kernel
theorem dX3_init_20 : decode cX3_init 20 = .ok (.aload_n 0, 1) := by decide +kernel
theorem dX3_init_21 : decode cX3_init 21 = .ok (.bipush 6, 2) := by decide +kernel
theorem dX3_init_23 : decode cX3_init 23 = .ok (.newarray .int, 2) := by decide +kernel
theorem dX3_init_25 : decode cX3_init 25 = .ok (.putfield 18, 3) := by decide +kernel
theorem dX3_init_28 : decode cX3_init 28 = .ok (.aload_n 0, 1) := by decide +kernel
theorem dX3_init_29 : decode cX3_init 29 = .ok (.bipush 6, 2) := by decide +kernel
theorem dX3_init_31 : decode cX3_init 31 = .ok (.newarray .int, 2) := by decide +kernel
theorem dX3_init_33 : decode cX3_init 33 = .ok (.putfield 21, 3) := by decide +kernel
theorem dX3_init_36 : decode cX3_init 36 = .ok (.aload_n 0, 1) := by decide +kernel
theorem dX3_init_37 : decode cX3_init 37 = .ok (.getfield 18, 3) := by decide +kernel
theorem dX3_init_40 : decode cX3_init 40 = .ok (.iconst 1, 1) := by decide +kernel
theorem dX3_init_41 : decode cX3_init 41 = .ok (.invokestatic 24, 3) := by decide +kernel
theorem dX3_init_44 : decode cX3_init 44 = .ok (.return_, 1) := by decide +kernel
theorem dX3_become_0 : decode cX3_become 0 = .ok (.aload_n 0, 1) := by decide +kernel
theorem dX3_become_1 : decode cX3_become 1 = .ok (.getfield 9, 3) := by decide +kernel
theorem dX3_become_4 : decode cX3_become 4 = .ok (.iload_n 1, 1) := by decide +kernel
theorem dX3_become_5 : decode cX3_become 5 = .ok (.iload_n 2, 1) := by decide +kernel
theorem dX3_become_6 : decode cX3_become 6 = .ok (.iastore, 1) := by decide +kernel
theorem dX3_become_7 : decode cX3_become 7 = .ok (.aload_n 0, 1) := by decide +kernel
theorem dX3_become_8 : decode cX3_become 8 = .ok (.getfield 15, 3) := by decide +kernel
theorem dX3_become_11 : decode cX3_become 11 = .ok (.iload_n 1, 1) := by decide +kernel
theorem dX3_become_12 : decode cX3_become 12 = .ok (.iload_n 3, 1) := by decide +kernel
theorem dX3_become_13 : decode cX3_become 13 = .ok (.iastore, 1) := by decide +kernel
theorem dX3_become_14 : decode cX3_become 14 = .ok (.aload_n 0, 1) := by decide +kernel
theorem dX3_become_15 : decode cX3_become 15 = .ok (.getfield 18, 3) := by decide +kernel
theorem dX3_become_18 : decode cX3_become 18 = .ok (.iload_n 1, 1) := by decide +kernel
theorem dX3_become_19 : decode cX3_become 19 = .ok (.iload 4, 2) := by decide +kernel
theorem dX3_become_21 : decode cX3_become 21 = .ok (.iastore, 1) := by decide +kernel
theorem dX3_become_22 : decode cX3_become 22 = .ok (.aload_n 0, 1) := by decide +kernel
theorem dX3_become_23 : decode cX3_become 23 = .ok (.getfield 21, 3) := by decide +kernel
theorem dX3_become_26 : decode cX3_become 26 = .ok (.iload_n 1, 1) := by decide +kernel
theorem dX3_become_27 : decode cX3_become 27 = .ok (.iload 5, 2) := by decide +kernel
theorem dX3_become_29 : decode cX3_become 29 = .ok (.iastore, 1) := by decide +kernel
theorem dX3_become_30 : decode cX3_become 30 = .ok (.return_, 1) := by decide +kernel
theorem dX3_pitchAfter_0 : decode cX3_pitchAfter 0 = .ok (.aload_n 0, 1) := by decide +kernel
theorem dX3_pitchAfter_1 : decode cX3_pitchAfter 1 = .ok (.getfield 9, 3) := by decide +kernel
theorem dX3_pitchAfter_4 : decode cX3_pitchAfter 4 = .ok (.iload_n 1, 1) := by decide +kernel
theorem dX3_pitchAfter_5 : decode cX3_pitchAfter 5 = .ok (.iaload, 1) := by decide +kernel
theorem dX3_pitchAfter_6 : decode cX3_pitchAfter 6 = .ok (.aload_n 0, 1) := by decide +kernel
theorem dX3_pitchAfter_7 : decode cX3_pitchAfter 7 = .ok (.iload_n 1, 1) := by decide +kernel
theorem dX3_pitchAfter_8 : decode cX3_pitchAfter 8 = .ok (.invokevirtual 30, 3) := by decide +kernel
theorem dX3_pitchAfter_11 : decode cX3_pitchAfter 11 = .ok (.iload_n 2, 1) := by decide +kernel
theorem dX3_pitchAfter_12 : decode cX3_pitchAfter 12 = .ok (.aload_n 0, 1) := by decide +kernel
theorem dX3_pitchAfter_13 : decode cX3_pitchAfter 13 = .ok (.getfield 18, 3) := by decide +kernel
theorem dX3_pitchAfter_16 : decode cX3_pitchAfter 16 = .ok (.iload_n 1, 1) := by decide +kernel
theorem dX3_pitchAfter_17 : decode cX3_pitchAfter 17 = .ok (.iaload, 1) := by decide +kernel
theorem dX3_pitchAfter_18 : decode cX3_pitchAfter 18 = .ok (.invokestatic 34, 3) := by decide +kernel
theorem dX3_pitchAfter_21 : decode cX3_pitchAfter 21 = .ok (.imul, 1) := by decide +kernel
theorem dX3_pitchAfter_22 : decode cX3_pitchAfter 22 = .ok (.iadd, 1) := by decide +kernel
theorem dX3_pitchAfter_23 : decode cX3_pitchAfter 23 = .ok (.ireturn, 1) := by decide +kernel
theorem dX3_allCome_0 : decode cX3_allCome 0 = .ok (.iconst 0, 1) := by decide +kernel
theorem dX3_allCome_1 : decode cX3_allCome 1 = .ok (.istore_n 3, 1) := by decide +kernel
theorem dX3_allCome_2 : decode cX3_allCome 2 = .ok (.iload_n 3, 1) := by decide +kernel
theorem dX3_allCome_3 : decode cX3_allCome 3 = .ok (.bipush 6, 2) := by decide +kernel
theorem dX3_allCome_5 : decode cX3_allCome 5 = .ok (.if_icmp .ge 29, 3) := by decide +kernel
theorem dX3_allCome_8 : decode cX3_allCome 8 = .ok (.iload_n 1, 1) := by decide +kernel
theorem dX3_allCome_9 : decode cX3_allCome 9 = .ok (.iload_n 3, 1) := by decide +kernel
theorem dX3_allCome_10 : decode cX3_allCome 10 = .ok (.invokestatic 40, 3) := by decide +kernel
theorem dX3_allCome_13 : decode cX3_allCome 13 = .ok (.ifCond .eq 15, 3) := by decide +kernel
theorem dX3_allCome_16 : decode cX3_allCome 16 = .ok (.aload_n 0, 1) := by decide +kernel
theorem dX3_allCome_17 : decode cX3_allCome 17 = .ok (.getfield 21, 3) := by decide +kernel
theorem dX3_allCome_20 : decode cX3_allCome 20 = .ok (.iload_n 3, 1) := by decide +kernel
theorem dX3_allCome_21 : decode cX3_allCome 21 = .ok (.iaload, 1) := by decide +kernel
theorem dX3_allCome_22 : decode cX3_allCome 22 = .ok (.iload_n 2, 1) := by decide +kernel
theorem dX3_allCome_23 : decode cX3_allCome 23 = .ok (.if_icmp .le 5, 3) := by decide +kernel
theorem dX3_allCome_26 : decode cX3_allCome 26 = .ok (.iconst 0, 1) := by decide +kernel
theorem dX3_allCome_27 : decode cX3_allCome 27 = .ok (.ireturn, 1) := by decide +kernel
theorem dX3_allCome_28 : decode cX3_allCome 28 = .ok (.iinc 3 1, 3) := by decide +kernel
theorem dX3_allCome_31 : decode cX3_allCome 31 = .ok (.goto (-29), 3) := by decide +kernel
theorem dX3_allCome_34 : decode cX3_allCome 34 = .ok (.iconst 1, 1) := by decide +kernel
theorem dX3_allCome_35 : decode cX3_allCome 35 = .ok (.ireturn, 1) := by decide +kernel
theorem dX3_tuneBand_0 : decode cX3_tuneBand 0 = .ok (.aload_n 0, 1) := by decide +kernel
theorem dX3_tuneBand_1 : decode cX3_tuneBand 1 = .ok (.ldc 44, 2) := by decide +kernel
theorem dX3_tuneBand_3 : decode cX3_tuneBand 3 = .ok (.putfield 45, 3) := by decide +kernel
theorem dX3_tuneBand_6 : decode cX3_tuneBand 6 = .ok (.aload_n 0, 1) := by decide +kernel
theorem dX3_tuneBand_7 : decode cX3_tuneBand 7 = .ok (.iconst 0, 1) := by decide +kernel
theorem dX3_tuneBand_8 : decode cX3_tuneBand 8 = .ok (.putfield 49, 3) := by decide +kernel
theorem dX3_tuneBand_11 : decode cX3_tuneBand 11 = .ok (.iconst 0, 1) := by decide +kernel
theorem dX3_tuneBand_12 : decode cX3_tuneBand 12 = .ok (.istore_n 3, 1) := by decide +kernel
theorem dX3_tuneBand_13 : decode cX3_tuneBand 13 = .ok (.iload_n 3, 1) := by decide +kernel
theorem dX3_tuneBand_14 : decode cX3_tuneBand 14 = .ok (.bipush 6, 2) := by decide +kernel
theorem dX3_tuneBand_16 : decode cX3_tuneBand 16 = .ok (.if_icmp .ge 54, 3) := by decide +kernel
theorem dX3_tuneBand_19 : decode cX3_tuneBand 19 = .ok (.iload_n 1, 1) := by decide +kernel
theorem dX3_tuneBand_20 : decode cX3_tuneBand 20 = .ok (.iload_n 3, 1) := by decide +kernel
theorem dX3_tuneBand_21 : decode cX3_tuneBand 21 = .ok (.invokestatic 40, 3) := by decide +kernel
theorem dX3_tuneBand_24 : decode cX3_tuneBand 24 = .ok (.ifCond .eq 40, 3) := by decide +kernel
theorem dX3_tuneBand_27 : decode cX3_tuneBand 27 = .ok (.aload_n 0, 1) := by decide +kernel
theorem dX3_tuneBand_28 : decode cX3_tuneBand 28 = .ok (.iload_n 3, 1) := by decide +kernel
theorem dX3_tuneBand_29 : decode cX3_tuneBand 29 = .ok (.iload_n 2, 1) := by decide +kernel
theorem dX3_tuneBand_30 : decode cX3_tuneBand 30 = .ok (.invokevirtual 52, 3) := by decide +kernel
theorem dX3_tuneBand_33 : decode cX3_tuneBand 33 = .ok (.istore 4, 2) := by decide +kernel
theorem dX3_tuneBand_35 : decode cX3_tuneBand 35 = .ok (.iconst 0, 1) := by decide +kernel
theorem dX3_tuneBand_36 : decode cX3_tuneBand 36 = .ok (.istore 5, 2) := by decide +kernel
theorem dX3_tuneBand_38 : decode cX3_tuneBand 38 = .ok (.iload 5, 2) := by decide +kernel
theorem dX3_tuneBand_40 : decode cX3_tuneBand 40 = .ok (.iload 4, 2) := by decide +kernel
theorem dX3_tuneBand_42 : decode cX3_tuneBand 42 = .ok (.if_icmp .gt 22, 3) := by decide +kernel
theorem dX3_tuneBand_45 : decode cX3_tuneBand 45 = .ok (.aload_n 0, 1) := by decide +kernel
theorem dX3_tuneBand_46 : decode cX3_tuneBand 46 = .ok (.iload_n 1, 1) := by decide +kernel
theorem dX3_tuneBand_47 : decode cX3_tuneBand 47 = .ok (.iload_n 2, 1) := by decide +kernel
theorem dX3_tuneBand_48 : decode cX3_tuneBand 48 = .ok (.aload_n 0, 1) := by decide +kernel
theorem dX3_tuneBand_49 : decode cX3_tuneBand 49 = .ok (.iload_n 3, 1) := by decide +kernel
theorem dX3_tuneBand_50 : decode cX3_tuneBand 50 = .ok (.iload 5, 2) := by decide +kernel
theorem dX3_tuneBand_52 : decode cX3_tuneBand 52 = .ok (.invokevirtual 55, 3) := by decide +kernel
theorem dX3_tuneBand_55 : decode cX3_tuneBand 55 = .ok (.invokevirtual 58, 3) := by decide +kernel
theorem dX3_tuneBand_58 : decode cX3_tuneBand 58 = .ok (.iinc 5 1, 3) := by decide +kernel
theorem dX3_tuneBand_61 : decode cX3_tuneBand 61 = .ok (.goto (-23), 3) := by decide +kernel
theorem dX3_tuneBand_64 : decode cX3_tuneBand 64 = .ok (.iinc 3 1, 3) := by decide +kernel
theorem dX3_tuneBand_67 : decode cX3_tuneBand 67 = .ok (.goto (-54), 3) := by decide +kernel
theorem dX3_tuneBand_70 : decode cX3_tuneBand 70 = .ok (.return_, 1) := by decide +kernel
theorem dX3_minutesToReach_0 : decode cX3_minutesToReach 0 = .ok (.iload_n 2, 1) := by decide +kernel
theorem dX3_minutesToReach_1 : decode cX3_minutesToReach 1 = .ok (.aload_n 0, 1) := by decide +kernel
theorem dX3_minutesToReach_2 : decode cX3_minutesToReach 2 = .ok (.getfield 9, 3) := by decide +kernel
theorem dX3_minutesToReach_5 : decode cX3_minutesToReach 5 = .ok (.iload_n 1, 1) := by decide +kernel
theorem dX3_minutesToReach_6 : decode cX3_minutesToReach 6 = .ok (.iaload, 1) := by decide +kernel
theorem dX3_minutesToReach_7 : decode cX3_minutesToReach 7 = .ok (.if_icmp .gt 5, 3) := by decide +kernel
theorem dX3_minutesToReach_10 : decode cX3_minutesToReach 10 = .ok (.iconst 0, 1) := by decide +kernel
theorem dX3_minutesToReach_11 : decode cX3_minutesToReach 11 = .ok (.ireturn, 1) := by decide +kernel
theorem dX3_minutesToReach_12 : decode cX3_minutesToReach 12 = .ok (.aload_n 0, 1) := by decide +kernel
theorem dX3_minutesToReach_13 : decode cX3_minutesToReach 13 = .ok (.iload_n 1, 1) := by decide +kernel
theorem dX3_minutesToReach_14 : decode cX3_minutesToReach 14 = .ok (.invokevirtual 30, 3) := by decide +kernel
theorem dX3_minutesToReach_17 : decode cX3_minutesToReach 17 = .ok (.istore 4, 2) := by decide +kernel
theorem dX3_minutesToReach_19 : decode cX3_minutesToReach 19 = .ok (.iload 4, 2) := by decide +kernel
theorem dX3_minutesToReach_21 : decode cX3_minutesToReach 21 = .ok (.ifCond .ne 5, 3) := by decide +kernel
theorem dX3_minutesToReach_24 : decode cX3_minutesToReach 24 = .ok (.iconst (-1), 1) := by decide +kernel
theorem dX3_minutesToReach_25 : decode cX3_minutesToReach 25 = .ok (.ireturn, 1) := by decide +kernel
theorem dX3_minutesToReach_26 : decode cX3_minutesToReach 26 = .ok (.iload_n 2, 1) := by decide +kernel
theorem dX3_minutesToReach_27 : decode cX3_minutesToReach 27 = .ok (.aload_n 0, 1) := by decide +kernel
theorem dX3_minutesToReach_28 : decode cX3_minutesToReach 28 = .ok (.getfield 9, 3) := by decide +kernel
theorem dX3_minutesToReach_31 : decode cX3_minutesToReach 31 = .ok (.iload_n 1, 1) := by decide +kernel
theorem dX3_minutesToReach_32 : decode cX3_minutesToReach 32 = .ok (.iaload, 1) := by decide +kernel
theorem dX3_minutesToReach_33 : decode cX3_minutesToReach 33 = .ok (.isub, 1) := by decide +kernel
theorem dX3_minutesToReach_34 : decode cX3_minutesToReach 34 = .ok (.iload 4, 2) := by decide +kernel
theorem dX3_minutesToReach_36 : decode cX3_minutesToReach 36 = .ok (.iadd, 1) := by decide +kernel
theorem dX3_minutesToReach_37 : decode cX3_minutesToReach 37 = .ok (.iconst 1, 1) := by decide +kernel
theorem dX3_minutesToReach_38 : decode cX3_minutesToReach 38 = .ok (.isub, 1) := by decide +kernel
theorem dX3_minutesToReach_39 : decode cX3_minutesToReach 39 = .ok (.iload 4, 2) := by decide +kernel
theorem dX3_minutesToReach_41 : decode cX3_minutesToReach 41 = .ok (.idiv, 1) := by decide +kernel
theorem dX3_minutesToReach_42 : decode cX3_minutesToReach 42 = .ok (.istore 5, 2) := by decide +kernel
theorem dX3_minutesToReach_44 : decode cX3_minutesToReach 44 = .ok (.iload 5, 2) := by decide +kernel
theorem dX3_minutesToReach_46 : decode cX3_minutesToReach 46 = .ok (.aload_n 0, 1) := by decide +kernel
theorem dX3_minutesToReach_47 : decode cX3_minutesToReach 47 = .ok (.iload_n 1, 1) := by decide +kernel
theorem dX3_minutesToReach_48 : decode cX3_minutesToReach 48 = .ok (.iload_n 3, 1) := by decide +kernel
theorem dX3_minutesToReach_49 : decode cX3_minutesToReach 49 = .ok (.invokevirtual 52, 3) := by decide +kernel
theorem dX3_minutesToReach_52 : decode cX3_minutesToReach 52 = .ok (.if_icmp .gt 8, 3) := by decide +kernel
theorem dX3_minutesToReach_55 : decode cX3_minutesToReach 55 = .ok (.iload 5, 2) := by decide +kernel
theorem dX3_minutesToReach_57 : decode cX3_minutesToReach 57 = .ok (.goto 4, 3) := by decide +kernel
theorem dX3_minutesToReach_60 : decode cX3_minutesToReach 60 = .ok (.iconst (-1), 1) := by decide +kernel
theorem dX3_minutesToReach_61 : decode cX3_minutesToReach 61 = .ok (.ireturn, 1) := by decide +kernel
theorem dX3_tryLow_0 : decode cX3_tryLow 0 = .ok (.iload_n 3, 1) := by decide +kernel
theorem dX3_tryLow_1 : decode cX3_tryLow 1 = .ok (.istore 4, 2) := by decide +kernel
theorem dX3_tryLow_3 : decode cX3_tryLow 3 = .ok (.iconst 0, 1) := by decide +kernel
theorem dX3_tryLow_4 : decode cX3_tryLow 4 = .ok (.istore 5, 2) := by decide +kernel
theorem dX3_tryLow_6 : decode cX3_tryLow 6 = .ok (.iload 5, 2) := by decide +kernel
theorem dX3_tryLow_8 : decode cX3_tryLow 8 = .ok (.bipush 6, 2) := by decide +kernel
theorem dX3_tryLow_10 : decode cX3_tryLow 10 = .ok (.if_icmp .ge 50, 3) := by decide +kernel
theorem dX3_tryLow_13 : decode cX3_tryLow 13 = .ok (.iload_n 1, 1) := by decide +kernel
theorem dX3_tryLow_14 : decode cX3_tryLow 14 = .ok (.iload 5, 2) := by decide +kernel
theorem dX3_tryLow_16 : decode cX3_tryLow 16 = .ok (.invokestatic 40, 3) := by decide +kernel
theorem dX3_tryLow_19 : decode cX3_tryLow 19 = .ok (.ifCond .eq 35, 3) := by decide +kernel
theorem dX3_tryLow_22 : decode cX3_tryLow 22 = .ok (.aload_n 0, 1) := by decide +kernel
theorem dX3_tryLow_23 : decode cX3_tryLow 23 = .ok (.iload 5, 2) := by decide +kernel
theorem dX3_tryLow_25 : decode cX3_tryLow 25 = .ok (.iload_n 3, 1) := by decide +kernel
theorem dX3_tryLow_26 : decode cX3_tryLow 26 = .ok (.iload_n 2, 1) := by decide +kernel
theorem dX3_tryLow_27 : decode cX3_tryLow 27 = .ok (.invokevirtual 62, 3) := by decide +kernel
theorem dX3_tryLow_30 : decode cX3_tryLow 30 = .ok (.istore 6, 2) := by decide +kernel
theorem dX3_tryLow_32 : decode cX3_tryLow 32 = .ok (.iload 6, 2) := by decide +kernel
theorem dX3_tryLow_34 : decode cX3_tryLow 34 = .ok (.iconst (-1), 1) := by decide +kernel
theorem dX3_tryLow_35 : decode cX3_tryLow 35 = .ok (.if_icmp .ne 4, 3) := by decide +kernel
theorem dX3_tryLow_38 : decode cX3_tryLow 38 = .ok (.return_, 1) := by decide +kernel
theorem dX3_tryLow_39 : decode cX3_tryLow 39 = .ok (.iload 4, 2) := by decide +kernel
theorem dX3_tryLow_41 : decode cX3_tryLow 41 = .ok (.aload_n 0, 1) := by decide +kernel
theorem dX3_tryLow_42 : decode cX3_tryLow 42 = .ok (.iload 5, 2) := by decide +kernel
theorem dX3_tryLow_44 : decode cX3_tryLow 44 = .ok (.iload 6, 2) := by decide +kernel
theorem dX3_tryLow_46 : decode cX3_tryLow 46 = .ok (.invokevirtual 55, 3) := by decide +kernel
theorem dX3_tryLow_49 : decode cX3_tryLow 49 = .ok (.invokestatic 66, 3) := by decide +kernel
theorem dX3_tryLow_52 : decode cX3_tryLow 52 = .ok (.istore 4, 2) := by decide +kernel
theorem dX3_tryLow_54 : decode cX3_tryLow 54 = .ok (.iinc 5 1, 3) := by decide +kernel
theorem dX3_tryLow_57 : decode cX3_tryLow 57 = .ok (.goto (-51), 3) := by decide +kernel
theorem dX3_tryLow_60 : decode cX3_tryLow 60 = .ok (.iload 4, 2) := by decide +kernel
theorem dX3_tryLow_62 : decode cX3_tryLow 62 = .ok (.iload_n 3, 1) := by decide +kernel
theorem dX3_tryLow_63 : decode cX3_tryLow 63 = .ok (.isub, 1) := by decide +kernel
theorem dX3_tryLow_64 : decode cX3_tryLow 64 = .ok (.istore 5, 2) := by decide +kernel
theorem dX3_tryLow_66 : decode cX3_tryLow 66 = .ok (.iload 5, 2) := by decide +kernel
theorem dX3_tryLow_68 : decode cX3_tryLow 68 = .ok (.aload_n 0, 1) := by decide +kernel
theorem dX3_tryLow_69 : decode cX3_tryLow 69 = .ok (.getfield 45, 3) := by decide +kernel
theorem dX3_tryLow_72 : decode cX3_tryLow 72 = .ok (.if_icmp .lt 20, 3) := by decide +kernel
theorem dX3_tryLow_75 : decode cX3_tryLow 75 = .ok (.iload 5, 2) := by decide +kernel
theorem dX3_tryLow_77 : decode cX3_tryLow 77 = .ok (.aload_n 0, 1) := by decide +kernel
theorem dX3_tryLow_78 : decode cX3_tryLow 78 = .ok (.getfield 45, 3) := by decide +kernel
theorem dX3_tryLow_81 : decode cX3_tryLow 81 = .ok (.if_icmp .ne 22, 3) := by decide +kernel
theorem dX3_tryLow_84 : decode cX3_tryLow 84 = .ok (.iload_n 3, 1) := by decide +kernel
theorem dX3_tryLow_85 : decode cX3_tryLow 85 = .ok (.aload_n 0, 1) := by decide +kernel
theorem dX3_tryLow_86 : decode cX3_tryLow 86 = .ok (.getfield 49, 3) := by decide +kernel
theorem dX3_tryLow_89 : decode cX3_tryLow 89 = .ok (.if_icmp .ge 14, 3) := by decide +kernel
theorem dX3_tryLow_92 : decode cX3_tryLow 92 = .ok (.aload_n 0, 1) := by decide +kernel
theorem dX3_tryLow_93 : decode cX3_tryLow 93 = .ok (.iload 5, 2) := by decide +kernel
theorem dX3_tryLow_95 : decode cX3_tryLow 95 = .ok (.putfield 45, 3) := by decide +kernel
theorem dX3_tryLow_98 : decode cX3_tryLow 98 = .ok (.aload_n 0, 1) := by decide +kernel
theorem dX3_tryLow_99 : decode cX3_tryLow 99 = .ok (.iload_n 3, 1) := by decide +kernel
theorem dX3_tryLow_100 : decode cX3_tryLow 100 = .ok (.putfield 49, 3) := by decide +kernel
theorem dX3_tryLow_103 : decode cX3_tryLow 103 = .ok (.return_, 1) := by decide +kernel
theorem dX3_dampRise_0 : decode cX3_dampRise 0 = .ok (.iconst 0, 1) := by decide +kernel
theorem dX3_dampRise_1 : decode cX3_dampRise 1 = .ok (.aload_n 0, 1) := by decide +kernel
theorem dX3_dampRise_2 : decode cX3_dampRise 2 = .ok (.getfield 15, 3) := by decide +kernel
theorem dX3_dampRise_5 : decode cX3_dampRise 5 = .ok (.iload_n 1, 1) := by decide +kernel
theorem dX3_dampRise_6 : decode cX3_dampRise 6 = .ok (.iaload, 1) := by decide +kernel
theorem dX3_dampRise_7 : decode cX3_dampRise 7 = .ok (.aload_n 0, 1) := by decide +kernel
theorem dX3_dampRise_8 : decode cX3_dampRise 8 = .ok (.getfield 69, 3) := by decide +kernel
theorem dX3_dampRise_11 : decode cX3_dampRise 11 = .ok (.isub, 1) := by decide +kernel
theorem dX3_dampRise_12 : decode cX3_dampRise 12 = .ok (.invokestatic 66, 3) := by decide +kernel
theorem dX3_dampRise_15 : decode cX3_dampRise 15 = .ok (.ireturn, 1) := by decide +kernel
theorem dX3_longestBlown_0 : decode cX3_longestBlown 0 = .ok (.iload_n 2, 1) := by decide +kernel
theorem dX3_longestBlown_1 : decode cX3_longestBlown 1 = .ok (.aload_n 0, 1) := by decide +kernel
theorem dX3_longestBlown_2 : decode cX3_longestBlown 2 = .ok (.getfield 21, 3) := by decide +kernel
theorem dX3_longestBlown_5 : decode cX3_longestBlown 5 = .ok (.iload_n 1, 1) := by decide +kernel
theorem dX3_longestBlown_6 : decode cX3_longestBlown 6 = .ok (.iaload, 1) := by decide +kernel
theorem dX3_longestBlown_7 : decode cX3_longestBlown 7 = .ok (.isub, 1) := by decide +kernel
theorem dX3_longestBlown_8 : decode cX3_longestBlown 8 = .ok (.aload_n 0, 1) := by decide +kernel
theorem dX3_longestBlown_9 : decode cX3_longestBlown 9 = .ok (.getfield 18, 3) := by decide +kernel
theorem dX3_longestBlown_12 : decode cX3_longestBlown 12 = .ok (.iload_n 1, 1) := by decide +kernel
theorem dX3_longestBlown_13 : decode cX3_longestBlown 13 = .ok (.iaload, 1) := by decide +kernel
theorem dX3_longestBlown_14 : decode cX3_longestBlown 14 = .ok (.invokestatic 34, 3) := by decide +kernel
theorem dX3_longestBlown_17 : decode cX3_longestBlown 17 = .ok (.ireturn, 1) := by decide +kernel
theorem dX4_init_0 : decode cX4_init 0 = .ok (.aload_n 0, 1) := by decide +kernel
theorem dX4_init_1 : decode cX4_init 1 = .ok (.invokespecial 3, 3) := by decide +kernel
theorem dX4_init_4 : decode cX4_init 4 = .ok (.aload_n 0, 1) := by decide +kernel
theorem dX4_init_5 : decode cX4_init 5 = .ok (.iconst 5, 1) := by decide +kernel
theorem dX4_init_6 : decode cX4_init 6 = .ok (.newarray .int, 2) := by decide +kernel
theorem dX4_init_8 : decode cX4_init 8 = .ok (.putfield 9, 3) := by decide +kernel
theorem dX4_init_11 : decode cX4_init 11 = .ok (.aload_n 0, 1) := by decide +kernel
theorem dX4_init_12 : decode cX4_init 12 = .ok (.iconst 5, 1) := by decide +kernel
theorem dX4_init_13 : decode cX4_init 13 = .ok (.iconst 4, 1) := by decide +kernel
theorem dX4_init_14 : decode cX4_init 14 = .ok (.multianewarray 15 2, 4) := by decide +kernel
theorem dX4_init_18 : decode cX4_init 18 = .ok (.putfield 17, 3) := by decide +kernel
theorem dX4_init_21 : decode cX4_init 21 = .ok (.iconst 0, 1) := by decide +kernel
theorem dX4_init_22 : decode cX4_init 22 = .ok (.istore_n 1, 1) := by decide +kernel
theorem dX4_init_23 : decode cX4_init 23 = .ok (.iload_n 1, 1) := by decide +kernel
theorem dX4_init_24 : decode cX4_init 24 = .ok (.iconst 5, 1) := by decide +kernel
theorem dX4_init_25 : decode cX4_init 25 = .ok (.if_icmp .ge 26, 3) := by decide +kernel
theorem dX4_init_28 : decode cX4_init 28 = .ok (.aload_n 0, 1) := by decide +kernel
theorem dX4_init_29 : decode cX4_init 29 = .ok (.getfield 9, 3) := by decide +kernel
theorem dX4_init_32 : decode cX4_init 32 = .ok (.iload_n 1, 1) := by decide +kernel
theorem dX4_init_33 : decode cX4_init 33 = .ok (.iconst 1, 1) := by decide +kernel
theorem dX4_init_34 : decode cX4_init 34 = .ok (.iastore, 1) := by decide +kernel
theorem dX4_init_35 : decode cX4_init 35 = .ok (.aload_n 0, 1) := by decide +kernel
theorem dX4_init_36 : decode cX4_init 36 = .ok (.getfield 17, 3) := by decide +kernel
theorem dX4_init_39 : decode cX4_init 39 = .ok (.iload_n 1, 1) := by decide +kernel
theorem dX4_init_40 : decode cX4_init 40 = .ok (.aaload, 1) := by decide +kernel
theorem dX4_init_41 : decode cX4_init 41 = .ok (.iconst 0, 1) := by decide +kernel
theorem dX4_init_42 : decode cX4_init 42 = .ok (.bipush 9, 2) := by decide +kernel
theorem dX4_init_44 : decode cX4_init 44 = .ok (.iastore, 1) := by decide +kernel
theorem dX4_init_45 : decode cX4_init 45 = .ok (.iinc 1 1, 3) := by decide +kernel
theorem dX4_init_48 : decode cX4_init 48 = .ok (.goto (-25), 3) := by decide +kernel
theorem dX4_init_51 : decode cX4_init 51 = .ok (.return_, 1) := by decide +kernel
theorem dX4_become_0 : decode cX4_become 0 = .ok (.aload_n 0, 1) := by decide +kernel
theorem dX4_become_1 : decode cX4_become 1 = .ok (.getfield 9, 3) := by decide +kernel
theorem dX4_become_4 : decode cX4_become 4 = .ok (.iload_n 1, 1) := by decide +kernel
theorem dX4_become_5 : decode cX4_become 5 = .ok (.iload_n 2, 1) := by decide +kernel
theorem dX4_become_6 : decode cX4_become 6 = .ok (.iastore, 1) := by decide +kernel
theorem dX4_become_7 : decode cX4_become 7 = .ok (.iconst 0, 1) := by decide +kernel
theorem dX4_become_8 : decode cX4_become 8 = .ok (.istore 4, 2) := by decide +kernel
theorem dX4_become_10 : decode cX4_become 10 = .ok (.iload 4, 2) := by decide +kernel
theorem dX4_become_12 : decode cX4_become 12 = .ok (.iload_n 2, 1) := by decide +kernel
theorem dX4_become_13 : decode cX4_become 13 = .ok (.if_icmp .ge 24, 3) := by decide +kernel
theorem dX4_become_16 : decode cX4_become 16 = .ok (.aload_n 0, 1) := by decide +kernel
theorem dX4_become_17 : decode cX4_become 17 = .ok (.getfield 17, 3) := by decide +kernel
theorem dX4_become_20 : decode cX4_become 20 = .ok (.iload_n 1, 1) := by decide +kernel
theorem dX4_become_21 : decode cX4_become 21 = .ok (.aaload, 1) := by decide +kernel
theorem dX4_become_22 : decode cX4_become 22 = .ok (.iload 4, 2) := by decide +kernel
theorem dX4_become_24 : decode cX4_become 24 = .ok (.iload_n 3, 1) := by decide +kernel
theorem dX4_become_25 : decode cX4_become 25 = .ok (.iload 4, 2) := by decide +kernel
theorem dX4_become_27 : decode cX4_become 27 = .ok (.invokestatic 20, 3) := by decide +kernel
theorem dX4_become_30 : decode cX4_become 30 = .ok (.iastore, 1) := by decide +kernel
theorem dX4_become_31 : decode cX4_become 31 = .ok (.iinc 4 1, 3) := by decide +kernel
theorem dX4_become_34 : decode cX4_become 34 = .ok (.goto (-24), 3) := by decide +kernel
theorem dX4_become_37 : decode cX4_become 37 = .ok (.return_, 1) := by decide +kernel
theorem dX4_variationSize_0 : decode cX4_variationSize 0 = .ok (.iload_n 3, 1) := by decide +kernel
theorem dX4_variationSize_1 : decode cX4_variationSize 1 = .ok (.invokestatic 24, 3) := by decide +kernel
theorem dX4_variationSize_4 : decode cX4_variationSize 4 = .ok (.istore 4, 2) := by decide +kernel
theorem dX4_variationSize_6 : decode cX4_variationSize 6 = .ok (.iload 4, 2) := by decide +kernel
theorem dX4_variationSize_8 : decode cX4_variationSize 8 = .ok (.iload_n 2, 1) := by decide +kernel
theorem dX4_variationSize_9 : decode cX4_variationSize 9 = .ok (.iload 4, 2) := by decide +kernel
theorem dX4_variationSize_11 : decode cX4_variationSize 11 = .ok (.isub, 1) := by decide +kernel
theorem dX4_variationSize_12 : decode cX4_variationSize 12 = .ok (.aload_n 0, 1) := by decide +kernel
theorem dX4_variationSize_13 : decode cX4_variationSize 13 = .ok (.getfield 9, 3) := by decide +kernel
theorem dX4_variationSize_16 : decode cX4_variationSize 16 = .ok (.iload_n 1, 1) := by decide +kernel
theorem dX4_variationSize_17 : decode cX4_variationSize 17 = .ok (.iaload, 1) := by decide +kernel
theorem dX4_variationSize_18 : decode cX4_variationSize 18 = .ok (.imul, 1) := by decide +kernel
theorem dX4_variationSize_19 : decode cX4_variationSize 19 = .ok (.iadd, 1) := by decide +kernel
theorem dX4_variationSize_20 : decode cX4_variationSize 20 = .ok (.ireturn, 1) := by decide +kernel
theorem dX4_source_0 : decode cX4_source 0 = .ok (.iload 4, 2) := by decide +kernel
theorem dX4_source_2 : decode cX4_source 2 = .ok (.istore 5, 2) := by decide +kernel
theorem dX4_source_4 : decode cX4_source 4 = .ok (.iconst 0, 1) := by decide +kernel
theorem dX4_source_5 : decode cX4_source 5 = .ok (.istore 6, 2) := by decide +kernel
theorem dX4_source_7 : decode cX4_source 7 = .ok (.iload 6, 2) := by decide +kernel
theorem dX4_source_9 : decode cX4_source 9 = .ok (.iload_n 2, 1) := by decide +kernel
theorem dX4_source_10 : decode cX4_source 10 = .ok (.if_icmp .ge 74, 3) := by decide +kernel
theorem dX4_source_13 : decode cX4_source 13 = .ok (.iload_n 3, 1) := by decide +kernel
theorem dX4_source_14 : decode cX4_source 14 = .ok (.iload 6, 2) := by decide +kernel
theorem dX4_source_16 : decode cX4_source 16 = .ok (.invokestatic 30, 3) := by decide +kernel
theorem dX4_source_19 : decode cX4_source 19 = .ok (.istore 7, 2) := by decide +kernel
theorem dX4_source_21 : decode cX4_source 21 = .ok (.iload 7, 2) := by decide +kernel
theorem dX4_source_23 : decode cX4_source 23 = .ok (.ifCond .eq 7, 3) := by decide +kernel
theorem dX4_source_26 : decode cX4_source 26 = .ok (.iconst 1, 1) := by decide +kernel
theorem dX4_source_27 : decode cX4_source 27 = .ok (.goto 9, 3) := by decide +kernel
theorem dX4_source_30 : decode cX4_source 30 = .ok (.aload_n 0, 1) := by decide +kernel
theorem dX4_source_31 : decode cX4_source 31 = .ok (.getfield 9, 3) := by decide +kernel
theorem dX4_source_34 : decode cX4_source 34 = .ok (.iload_n 1, 1) := by decide +kernel
theorem dX4_source_35 : decode cX4_source 35 = .ok (.iaload, 1) := by decide +kernel
theorem dX4_source_36 : decode cX4_source 36 = .ok (.istore 8, 2) := by decide +kernel
theorem dX4_source_38 : decode cX4_source 38 = .ok (.iload 5, 2) := by decide +kernel
theorem dX4_source_40 : decode cX4_source 40 = .ok (.iload 8, 2) := by decide +kernel
theorem dX4_source_42 : decode cX4_source 42 = .ok (.if_icmp .ge 29, 3) := by decide +kernel
theorem dX4_source_45 : decode cX4_source 45 = .ok (.iload 7, 2) := by decide +kernel
theorem dX4_source_47 : decode cX4_source 47 = .ok (.ifCond .eq 8, 3) := by decide +kernel
theorem dX4_source_50 : decode cX4_source 50 = .ok (.bipush 9, 2) := by decide +kernel
theorem dX4_source_52 : decode cX4_source 52 = .ok (.goto 12, 3) := by decide +kernel
theorem dX4_source_55 : decode cX4_source 55 = .ok (.aload_n 0, 1) := by decide +kernel
theorem dX4_source_56 : decode cX4_source 56 = .ok (.getfield 17, 3) := by decide +kernel
theorem dX4_source_59 : decode cX4_source 59 = .ok (.iload_n 1, 1) := by decide +kernel
theorem dX4_source_60 : decode cX4_source 60 = .ok (.aaload, 1) := by decide +kernel
theorem dX4_source_61 : decode cX4_source 61 = .ok (.iload 5, 2) := by decide +kernel
theorem dX4_source_63 : decode cX4_source 63 = .ok (.iaload, 1) := by decide +kernel
theorem dX4_source_64 : decode cX4_source 64 = .ok (.iload 6, 2) := by decide +kernel
theorem dX4_source_66 : decode cX4_source 66 = .ok (.iload_n 2, 1) := by decide +kernel
theorem dX4_source_67 : decode cX4_source 67 = .ok (.invokestatic 34, 3) := by decide +kernel
theorem dX4_source_70 : decode cX4_source 70 = .ok (.ireturn, 1) := by decide +kernel
theorem dX4_source_71 : decode cX4_source 71 = .ok (.iload 5, 2) := by decide +kernel
theorem dX4_source_73 : decode cX4_source 73 = .ok (.iload 8, 2) := by decide +kernel
theorem dX4_source_75 : decode cX4_source 75 = .ok (.isub, 1) := by decide +kernel
theorem dX4_source_76 : decode cX4_source 76 = .ok (.istore 5, 2) := by decide +kernel
theorem dX4_source_78 : decode cX4_source 78 = .ok (.iinc 6 1, 3) := by decide +kernel
theorem dX4_source_81 : decode cX4_source 81 = .ok (.goto (-74), 3) := by decide +kernel
theorem dX4_source_84 : decode cX4_source 84 = .ok (.iconst (-1), 1) := by decide +kernel
theorem dX4_source_85 : decode cX4_source 85 = .ok (.ireturn, 1) := by decide +kernel
theorem dX4_sourceOf_0 : decode cX4_sourceOf 0 = .ok (.iload_n 0, 1) := by decide +kernel
theorem dX4_sourceOf_1 : decode cX4_sourceOf 1 = .ok (.bipush 9, 2) := by decide +kernel
theorem dX4_sourceOf_3 : decode cX4_sourceOf 3 = .ok (.if_icmp .ne 8, 3) := by decide +kernel
theorem dX4_sourceOf_6 : decode cX4_sourceOf 6 = .ok (.bipush 16, 2) := by decide +kernel
theorem dX4_sourceOf_8 : decode cX4_sourceOf 8 = .ok (.iload_n 1, 1) := by decide +kernel
theorem dX4_sourceOf_9 : decode cX4_sourceOf 9 = .ok (.iadd, 1) := by decide +kernel
theorem dX4_sourceOf_10 : decode cX4_sourceOf 10 = .ok (.ireturn, 1) := by decide +kernel
theorem dX4_sourceOf_11 : decode cX4_sourceOf 11 = .ok (.iload_n 0, 1) := by decide +kernel
theorem dX4_sourceOf_12 : decode cX4_sourceOf 12 = .ok (.bipush 10, 2) := by decide +kernel
theorem dX4_sourceOf_14 : decode cX4_sourceOf 14 = .ok (.if_icmp .ne 21, 3) := by decide +kernel
theorem dX4_sourceOf_17 : decode cX4_sourceOf 17 = .ok (.bipush 16, 2) := by decide +kernel
theorem dX4_sourceOf_19 : decode cX4_sourceOf 19 = .ok (.iload_n 1, 1) := by decide +kernel
theorem dX4_sourceOf_20 : decode cX4_sourceOf 20 = .ok (.iconst 1, 1) := by decide +kernel
theorem dX4_sourceOf_21 : decode cX4_sourceOf 21 = .ok (.iadd, 1) := by decide +kernel
theorem dX4_sourceOf_22 : decode cX4_sourceOf 22 = .ok (.iload_n 2, 1) := by decide +kernel
theorem dX4_sourceOf_23 : decode cX4_sourceOf 23 = .ok (.if_icmp .ge 9, 3) := by decide +kernel
theorem dX4_sourceOf_26 : decode cX4_sourceOf 26 = .ok (.iload_n 1, 1) := by decide +kernel
theorem dX4_sourceOf_27 : decode cX4_sourceOf 27 = .ok (.iconst 1, 1) := by decide +kernel
theorem dX4_sourceOf_28 : decode cX4_sourceOf 28 = .ok (.iadd, 1) := by decide +kernel
theorem dX4_sourceOf_29 : decode cX4_sourceOf 29 = .ok (.goto 4, 3) := by decide +kernel
theorem dX4_sourceOf_32 : decode cX4_sourceOf 32 = .ok (.iconst 0, 1) := by decide +kernel
theorem dX4_sourceOf_33 : decode cX4_sourceOf 33 = .ok (.iadd, 1) := by decide +kernel
theorem dX4_sourceOf_34 : decode cX4_sourceOf 34 = .ok (.ireturn, 1) := by decide +kernel
theorem dX4_sourceOf_35 : decode cX4_sourceOf 35 = .ok (.iload_n 0, 1) := by decide +kernel
theorem dX4_sourceOf_36 : decode cX4_sourceOf 36 = .ok (.ireturn, 1) := by decide +kernel
theorem dX5_init_0 : decode cX5_init 0 = .ok (.aload_n 0, 1) := by decide +kernel
theorem dX5_init_1 : decode cX5_init 1 = .ok (.invokespecial 3, 3) := by decide +kernel
theorem dX5_init_4 : decode cX5_init 4 = .ok (.aload_n 0, 1) := by decide +kernel
theorem dX5_init_5 : decode cX5_init 5 = .ok (.iconst 3, 1) := by decide +kernel
theorem dX5_init_6 : decode cX5_init 6 = .ok (.newarray .int, 2) := by decide +kernel
theorem dX5_init_8 : decode cX5_init 8 = .ok (.putfield 9, 3) := by decide +kernel
theorem dX5_init_11 : decode cX5_init 11 = .ok (.aload_n 0, 1) := by decide +kernel
theorem dX5_init_12 : decode cX5_init 12 = .ok (.iconst 3, 1) := by decide +kernel
theorem dX5_init_13 : decode cX5_init 13 = .ok (.newarray .int, 2) := by decide +kernel
theorem dX5_init_15 : decode cX5_init 15 = .ok (.putfield 15, 3) := by decide +kernel
theorem dX5_init_18 : decode cX5_init 18 = .ok (.aload_n 0, 1) := by decide +kernel
theorem dX5_init_19 : decode cX5_init 19 = .ok (.iconst 3, 1) := by decide +kernel
theorem dX5_init_20 : decode cX5_init 20 = .ok (.bipush 64, 2) := by decide +kernel
theorem dX5_init_22 : decode cX5_init 22 = .ok (.multianewarray 18 2, 4) := by decide +kernel
theorem dX5_init_26 : decode cX5_init 26 = .ok (.putfield 20, 3) := by decide +kernel
theorem dX5_init_29 : decode cX5_init 29 = .ok (.aload_n 0, 1) := by decide +kernel
theorem dX5_init_30 : decode cX5_init 30 = .ok (.bipush 16, 2) := by decide +kernel
theorem dX5_init_32 : decode cX5_init 32 = .ok (.bipush 9, 2) := by decide +kernel
theorem dX5_init_34 : decode cX5_init 34 = .ok (.multianewarray 18 2, 4) := by decide +kernel
theorem dX5_init_38 : decode cX5_init 38 = .ok (.putfield 23, 3) := by decide +kernel
theorem dX5_init_41 : decode cX5_init 41 = .ok (.aload_n 0, 1) := by decide +kernel
theorem dX5_init_42 : decode cX5_init 42 = .ok (.bipush 16, 2) := by decide +kernel
theorem dX5_init_44 : decode cX5_init 44 = .ok (.newarray .int, 2) := by decide +kernel
theorem dX5_init_46 : decode cX5_init 46 = .ok (.putfield 26, 3) := by decide +kernel
theorem dX5_init_49 : decode cX5_init 49 = .ok (.aload_n 0, 1) := by decide +kernel
theorem dX5_init_50 : decode cX5_init 50 = .ok (.bipush 16, 2) := by decide +kernel
theorem dX5_init_52 : decode cX5_init 52 = .ok (.newarray .int, 2) := by decide +kernel
theorem dX5_init_54 : decode cX5_init 54 = .ok (.putfield 29, 3) := by decide +kernel
theorem dX5_init_57 : decode cX5_init 57 = .ok (.aload_n 0, 1) := by decide +kernel
theorem dX5_init_58 : decode cX5_init 58 = .ok (.aload_n 1, 1) := by decide +kernel
theorem dX5_init_59 : decode cX5_init 59 = .ok (.putfield 32, 3) := by decide +kernel
theorem dX5_init_62 : decode cX5_init 62 = .ok (.return_, 1) := by decide +kernel
theorem dX5_accept_0 : decode cX5_accept 0 = .ok (.aload_n 0, 1) := by decide +kernel
theorem dX5_accept_1 : decode cX5_accept 1 = .ok (.getfield 36, 3) := by decide +kernel
theorem dX5_accept_4 : decode cX5_accept 4 = .ok (.ifCond .eq 19, 3) := by decide +kernel
theorem dX5_accept_7 : decode cX5_accept 7 = .ok (.iload_n 1, 1) := by decide +kernel
theorem dX5_accept_8 : decode cX5_accept 8 = .ok (.aload_n 0, 1) := by decide +kernel
theorem dX5_accept_9 : decode cX5_accept 9 = .ok (.getfield 40, 3) := by decide +kernel
theorem dX5_accept_12 : decode cX5_accept 12 = .ok (.if_icmp .ne 15, 3) := by decide +kernel
theorem dX5_accept_15 : decode cX5_accept 15 = .ok (.iload_n 2, 1) := by decide +kernel
theorem dX5_accept_16 : decode cX5_accept 16 = .ok (.aload_n 0, 1) := by decide +kernel
theorem dX5_accept_17 : decode cX5_accept 17 = .ok (.getfield 43, 3) := by decide +kernel
theorem dX5_accept_20 : decode cX5_accept 20 = .ok (.if_icmp .ne 7, 3) := by decide +kernel
theorem dX5_accept_23 : decode cX5_accept 23 = .ok (.iconst 1, 1) := by decide +kernel
theorem dX5_accept_24 : decode cX5_accept 24 = .ok (.goto 4, 3) := by decide +kernel
theorem dX5_accept_27 : decode cX5_accept 27 = .ok (.iconst 0, 1) := by decide +kernel
theorem dX5_accept_28 : decode cX5_accept 28 = .ok (.ireturn, 1) := by decide +kernel
theorem dX5_useRule_0 : decode cX5_useRule 0 = .ok (.iconst 0, 1) := by decide +kernel
theorem dX5_useRule_1 : decode cX5_useRule 1 = .ok (.istore_n 2, 1) := by decide +kernel
theorem dX5_useRule_2 : decode cX5_useRule 2 = .ok (.iload_n 2, 1) := by decide +kernel
theorem dX5_useRule_3 : decode cX5_useRule 3 = .ok (.aload_n 0, 1) := by decide +kernel
theorem dX5_useRule_4 : decode cX5_useRule 4 = .ok (.getfield 36, 3) := by decide +kernel
theorem dX5_useRule_7 : decode cX5_useRule 7 = .ok (.if_icmp .ge 21, 3) := by decide +kernel
theorem dX5_useRule_10 : decode cX5_useRule 10 = .ok (.aload_n 0, 1) := by decide +kernel
theorem dX5_useRule_11 : decode cX5_useRule 11 = .ok (.getfield 9, 3) := by decide +kernel
theorem dX5_useRule_14 : decode cX5_useRule 14 = .ok (.iload_n 2, 1) := by decide +kernel
theorem dX5_useRule_15 : decode cX5_useRule 15 = .ok (.iaload, 1) := by decide +kernel
theorem dX5_useRule_16 : decode cX5_useRule 16 = .ok (.iload_n 1, 1) := by decide +kernel
theorem dX5_useRule_17 : decode cX5_useRule 17 = .ok (.if_icmp .ne 5, 3) := by decide +kernel
theorem dX5_useRule_20 : decode cX5_useRule 20 = .ok (.iconst 1, 1) := by decide +kernel
theorem dX5_useRule_21 : decode cX5_useRule 21 = .ok (.ireturn, 1) := by decide +kernel
theorem dX5_useRule_22 : decode cX5_useRule 22 = .ok (.iinc 2 1, 3) := by decide +kernel
theorem dX5_useRule_25 : decode cX5_useRule 25 = .ok (.goto (-23), 3) := by decide +kernel
theorem dX5_useRule_28 : decode cX5_useRule 28 = .ok (.iconst 0, 1) := by decide +kernel
theorem dX5_useRule_29 : decode cX5_useRule 29 = .ok (.ireturn, 1) := by decide +kernel
theorem dX5_append_0 : decode cX5_append 0 = .ok (.aload_n 0, 1) := by decide +kernel
theorem dX5_append_1 : decode cX5_append 1 = .ok (.iload_n 2, 1) := by decide +kernel
theorem dX5_append_2 : decode cX5_append 2 = .ok (.putfield 40, 3) := by decide +kernel
theorem dX5_append_5 : decode cX5_append 5 = .ok (.aload_n 0, 1) := by decide +kernel
theorem dX5_append_6 : decode cX5_append 6 = .ok (.iload_n 3, 1) := by decide +kernel
theorem dX5_append_7 : decode cX5_append 7 = .ok (.putfield 43, 3) := by decide +kernel
theorem dX5_append_10 : decode cX5_append 10 = .ok (.aload_n 0, 1) := by decide +kernel
theorem dX5_append_11 : decode cX5_append 11 = .ok (.getfield 9, 3) := by decide +kernel
theorem dX5_append_14 : decode cX5_append 14 = .ok (.aload_n 0, 1) := by decide +kernel
theorem dX5_append_15 : decode cX5_append 15 = .ok (.getfield 36, 3) := by decide +kernel
theorem dX5_append_18 : decode cX5_append 18 = .ok (.iload_n 1, 1) := by decide +kernel
theorem dX5_append_19 : decode cX5_append 19 = .ok (.iastore, 1) := by decide +kernel
theorem dX5_append_20 : decode cX5_append 20 = .ok (.aload_n 0, 1) := by decide +kernel
theorem dX5_append_21 : decode cX5_append 21 = .ok (.getfield 15, 3) := by decide +kernel
theorem dX5_append_24 : decode cX5_append 24 = .ok (.aload_n 0, 1) := by decide +kernel
theorem dX5_append_25 : decode cX5_append 25 = .ok (.getfield 36, 3) := by decide +kernel
theorem dX5_append_28 : decode cX5_append 28 = .ok (.aload_n 0, 1) := by decide +kernel
theorem dX5_append_29 : decode cX5_append 29 = .ok (.getfield 32, 3) := by decide +kernel
theorem dX5_append_32 : decode cX5_append 32 = .ok (.iload_n 1, 1) := by decide +kernel
theorem dX5_append_33 : decode cX5_append 33 = .ok (.iload_n 2, 1) := by decide +kernel
theorem dX5_append_34 : decode cX5_append 34 = .ok (.iload_n 3, 1) := by decide +kernel
theorem dX5_append_35 : decode cX5_append 35 = .ok (.invokevirtual 46, 3) := by decide +kernel
theorem dX5_append_38 : decode cX5_append 38 = .ok (.iastore, 1) := by decide +kernel
theorem dX5_append_39 : decode cX5_append 39 = .ok (.aload_n 0, 1) := by decide +kernel
theorem dX5_append_40 : decode cX5_append 40 = .ok (.getfield 20, 3) := by decide +kernel
theorem dX5_append_43 : decode cX5_append 43 = .ok (.aload_n 0, 1) := by decide +kernel
theorem dX5_append_44 : decode cX5_append 44 = .ok (.getfield 36, 3) := by decide +kernel
theorem dX5_append_47 : decode cX5_append 47 = .ok (.aaload, 1) := by decide +kernel
theorem dX5_append_48 : decode cX5_append 48 = .ok (.iconst (-1), 1) := by decide +kernel
theorem dX5_append_49 : decode cX5_append 49 = .ok (.invokestatic 52, 3) := by decide +kernel
theorem dX5_append_52 : decode cX5_append 52 = .ok (.aload_n 0, 1) := by decide +kernel
theorem dX5_append_53 : decode cX5_append 53 = .ok (.dup, 1) := by decide +kernel
theorem dX5_append_54 : decode cX5_append 54 = .ok (.getfield 36, 3) := by decide +kernel
theorem dX5_append_57 : decode cX5_append 57 = .ok (.iconst 1, 1) := by decide +kernel
theorem dX5_append_58 : decode cX5_append 58 = .ok (.iadd, 1) := by decide +kernel
theorem dX5_append_59 : decode cX5_append 59 = .ok (.putfield 36, 3) := by decide +kernel
theorem dX5_append_62 : decode cX5_append 62 = .ok (.aload_n 0, 1) := by decide +kernel
theorem dX5_append_63 : decode cX5_append 63 = .ok (.getfield 36, 3) := by decide +kernel
theorem dX5_append_66 : decode cX5_append 66 = .ok (.iconst 1, 1) := by decide +kernel
theorem dX5_append_67 : decode cX5_append 67 = .ok (.isub, 1) := by decide +kernel
theorem dX5_append_68 : decode cX5_append 68 = .ok (.ireturn, 1) := by decide +kernel
theorem dX5_agreeingGrounds_0 : decode cX5_agreeingGrounds 0 = .ok (.aload_n 0, 1) := by decide +kernel
theorem dX5_agreeingGrounds_1 : decode cX5_agreeingGrounds 1 = .ok (.invokevirtual 58, 3) := by decide +kernel
theorem dX5_agreeingGrounds_4 : decode cX5_agreeingGrounds 4 = .ok (.aload_n 0, 1) := by decide +kernel
theorem dX5_agreeingGrounds_5 : decode cX5_agreeingGrounds 5 = .ok (.getfield 61, 3) := by decide +kernel
theorem dX5_agreeingGrounds_8 : decode cX5_agreeingGrounds 8 = .ok (.ifCond .le 5, 3) := by decide +kernel
theorem dX5_agreeingGrounds_11 : decode cX5_agreeingGrounds 11 = .ok (.iconst 0, 1) := by decide +kernel
theorem dX5_agreeingGrounds_12 : decode cX5_agreeingGrounds 12 = .ok (.ireturn, 1) := by decide +kernel
theorem dX5_agreeingGrounds_13 : decode cX5_agreeingGrounds 13 = .ok (.iconst 1, 1) := by decide +kernel
theorem dX5_agreeingGrounds_14 : decode cX5_agreeingGrounds 14 = .ok (.istore_n 1, 1) := by decide +kernel
theorem dX5_agreeingGrounds_15 : decode cX5_agreeingGrounds 15 = .ok (.iconst 0, 1) := by decide +kernel
theorem dX5_agreeingGrounds_16 : decode cX5_agreeingGrounds 16 = .ok (.istore_n 2, 1) := by decide +kernel
theorem dX5_agreeingGrounds_17 : decode cX5_agreeingGrounds 17 = .ok (.iload_n 2, 1) := by decide +kernel
theorem dX5_agreeingGrounds_18 : decode cX5_agreeingGrounds 18 = .ok (.aload_n 0, 1) := by decide +kernel
theorem dX5_agreeingGrounds_19 : decode cX5_agreeingGrounds 19 = .ok (.getfield 40, 3) := by decide +kernel
theorem dX5_agreeingGrounds_22 : decode cX5_agreeingGrounds 22 = .ok (.if_icmp .ge 22, 3) := by decide +kernel
theorem dX5_agreeingGrounds_25 : decode cX5_agreeingGrounds 25 = .ok (.ldc 64, 2) := by decide +kernel
theorem dX5_agreeingGrounds_27 : decode cX5_agreeingGrounds 27 = .ok (.iload_n 1, 1) := by decide +kernel
theorem dX5_agreeingGrounds_28 : decode cX5_agreeingGrounds 28 = .ok (.aload_n 0, 1) := by decide +kernel
theorem dX5_agreeingGrounds_29 : decode cX5_agreeingGrounds 29 = .ok (.iload_n 2, 1) := by decide +kernel
theorem dX5_agreeingGrounds_30 : decode cX5_agreeingGrounds 30 = .ok (.invokevirtual 65, 3) := by decide +kernel
theorem dX5_agreeingGrounds_33 : decode cX5_agreeingGrounds 33 = .ok (.imul, 1) := by decide +kernel
theorem dX5_agreeingGrounds_34 : decode cX5_agreeingGrounds 34 = .ok (.invokestatic 69, 3) := by decide +kernel
theorem dX5_agreeingGrounds_37 : decode cX5_agreeingGrounds 37 = .ok (.istore_n 1, 1) := by decide +kernel
theorem dX5_agreeingGrounds_38 : decode cX5_agreeingGrounds 38 = .ok (.iinc 2 1, 3) := by decide +kernel
theorem dX5_agreeingGrounds_41 : decode cX5_agreeingGrounds 41 = .ok (.goto (-24), 3) := by decide +kernel
theorem dX5_agreeingGrounds_44 : decode cX5_agreeingGrounds 44 = .ok (.iload_n 1, 1) := by decide +kernel
theorem dX5_agreeingGrounds_45 : decode cX5_agreeingGrounds 45 = .ok (.ireturn, 1) := by decide +kernel
theorem dX5_chooseGround_0 : decode cX5_chooseGround 0 = .ok (.aload_n 0, 1) := by decide +kernel
theorem dX5_chooseGround_1 : decode cX5_chooseGround 1 = .ok (.invokevirtual 58, 3) := by decide +kernel
theorem dX5_chooseGround_4 : decode cX5_chooseGround 4 = .ok (.iconst 0, 1) := by decide +kernel
theorem dX5_chooseGround_5 : decode cX5_chooseGround 5 = .ok (.istore_n 1, 1) := by decide +kernel
theorem dX5_chooseGround_6 : decode cX5_chooseGround 6 = .ok (.iload_n 1, 1) := by decide +kernel
theorem dX5_chooseGround_7 : decode cX5_chooseGround 7 = .ok (.aload_n 0, 1) := by decide +kernel
theorem dX5_chooseGround_8 : decode cX5_chooseGround 8 = .ok (.getfield 40, 3) := by decide +kernel
theorem dX5_chooseGround_11 : decode cX5_chooseGround 11 = .ok (.if_icmp .ge 24, 3) := by decide +kernel
theorem dX5_chooseGround_14 : decode cX5_chooseGround 14 = .ok (.aload_n 0, 1) := by decide +kernel
theorem dX5_chooseGround_15 : decode cX5_chooseGround 15 = .ok (.getfield 29, 3) := by decide +kernel
theorem dX5_chooseGround_18 : decode cX5_chooseGround 18 = .ok (.iload_n 1, 1) := by decide +kernel
theorem dX5_chooseGround_19 : decode cX5_chooseGround 19 = .ok (.aload_n 0, 1) := by decide +kernel
theorem dX5_chooseGround_20 : decode cX5_chooseGround 20 = .ok (.getfield 23, 3) := by decide +kernel
theorem dX5_chooseGround_23 : decode cX5_chooseGround 23 = .ok (.iload_n 1, 1) := by decide +kernel
theorem dX5_chooseGround_24 : decode cX5_chooseGround 24 = .ok (.aaload, 1) := by decide +kernel
theorem dX5_chooseGround_25 : decode cX5_chooseGround 25 = .ok (.invokestatic 75, 3) := by decide +kernel
theorem dX5_chooseGround_28 : decode cX5_chooseGround 28 = .ok (.iastore, 1) := by decide +kernel
theorem dX5_chooseGround_29 : decode cX5_chooseGround 29 = .ok (.iinc 1 1, 3) := by decide +kernel
theorem dX5_chooseGround_32 : decode cX5_chooseGround 32 = .ok (.goto (-26), 3) := by decide +kernel
theorem dX5_chooseGround_35 : decode cX5_chooseGround 35 = .ok (.return_, 1) := by decide +kernel
theorem dX5_wrongCells_0 : decode cX5_wrongCells 0 = .ok (.iconst 0, 1) := by decide +kernel
theorem dX5_wrongCells_1 : decode cX5_wrongCells 1 = .ok (.istore_n 2, 1) := by decide +kernel
theorem dX5_wrongCells_2 : decode cX5_wrongCells 2 = .ok (.iconst 0, 1) := by decide +kernel
theorem dX5_wrongCells_3 : decode cX5_wrongCells 3 = .ok (.istore_n 3, 1) := by decide +kernel
theorem dX5_wrongCells_4 : decode cX5_wrongCells 4 = .ok (.iload_n 3, 1) := by decide +kernel
theorem dX5_wrongCells_5 : decode cX5_wrongCells 5 = .ok (.aload_n 0, 1) := by decide +kernel
theorem dX5_wrongCells_6 : decode cX5_wrongCells 6 = .ok (.getfield 15, 3) := by decide +kernel
theorem dX5_wrongCells_9 : decode cX5_wrongCells 9 = .ok (.iload_n 1, 1) := by decide +kernel
theorem dX5_wrongCells_10 : decode cX5_wrongCells 10 = .ok (.iaload, 1) := by decide +kernel
theorem dX5_wrongCells_11 : decode cX5_wrongCells 11 = .ok (.if_icmp .ge 21, 3) := by decide +kernel
theorem dX5_wrongCells_14 : decode cX5_wrongCells 14 = .ok (.aload_n 0, 1) := by decide +kernel
theorem dX5_wrongCells_15 : decode cX5_wrongCells 15 = .ok (.iload_n 1, 1) := by decide +kernel
theorem dX5_wrongCells_16 : decode cX5_wrongCells 16 = .ok (.iload_n 3, 1) := by decide +kernel
theorem dX5_wrongCells_17 : decode cX5_wrongCells 17 = .ok (.invokevirtual 79, 3) := by decide +kernel
theorem dX5_wrongCells_20 : decode cX5_wrongCells 20 = .ok (.ifCond .eq 6, 3) := by decide +kernel
theorem dX5_wrongCells_23 : decode cX5_wrongCells 23 = .ok (.iinc 2 1, 3) := by decide +kernel
theorem dX5_wrongCells_26 : decode cX5_wrongCells 26 = .ok (.iinc 3 1, 3) := by decide +kernel
theorem dX5_wrongCells_29 : decode cX5_wrongCells 29 = .ok (.goto (-25), 3) := by decide +kernel
theorem dX5_wrongCells_32 : decode cX5_wrongCells 32 = .ok (.iload_n 2, 1) := by decide +kernel
theorem dX5_wrongCells_33 : decode cX5_wrongCells 33 = .ok (.ireturn, 1) := by decide +kernel
theorem dX5_isWrong_0 : decode cX5_isWrong 0 = .ok (.aload_n 0, 1) := by decide +kernel
theorem dX5_isWrong_1 : decode cX5_isWrong 1 = .ok (.getfield 32, 3) := by decide +kernel
theorem dX5_isWrong_4 : decode cX5_isWrong 4 = .ok (.aload_n 0, 1) := by decide +kernel
theorem dX5_isWrong_5 : decode cX5_isWrong 5 = .ok (.getfield 9, 3) := by decide +kernel
theorem dX5_isWrong_8 : decode cX5_isWrong 8 = .ok (.iload_n 1, 1) := by decide +kernel
theorem dX5_isWrong_9 : decode cX5_isWrong 9 = .ok (.iaload, 1) := by decide +kernel
theorem dX5_isWrong_10 : decode cX5_isWrong 10 = .ok (.aload_n 0, 1) := by decide +kernel
theorem dX5_isWrong_11 : decode cX5_isWrong 11 = .ok (.getfield 40, 3) := by decide +kernel
theorem dX5_isWrong_14 : decode cX5_isWrong 14 = .ok (.aload_n 0, 1) := by decide +kernel
theorem dX5_isWrong_15 : decode cX5_isWrong 15 = .ok (.getfield 43, 3) := by decide +kernel
theorem dX5_isWrong_18 : decode cX5_isWrong 18 = .ok (.iload_n 2, 1) := by decide +kernel
theorem dX5_isWrong_19 : decode cX5_isWrong 19 = .ok (.invokevirtual 83, 3) := by decide +kernel
theorem dX5_isWrong_22 : decode cX5_isWrong 22 = .ok (.istore_n 3, 1) := by decide +kernel
theorem dX5_isWrong_23 : decode cX5_isWrong 23 = .ok (.iload_n 3, 1) := by decide +kernel
theorem dX5_isWrong_24 : decode cX5_isWrong 24 = .ok (.bipush 16, 2) := by decide +kernel
theorem dX5_isWrong_26 : decode cX5_isWrong 26 = .ok (.if_icmp .ge 7, 3) := by decide +kernel
theorem dX5_isWrong_29 : decode cX5_isWrong 29 = .ok (.iload_n 3, 1) := by decide +kernel
theorem dX5_isWrong_30 : decode cX5_isWrong 30 = .ok (.goto 12, 3) := by decide +kernel
theorem dX5_isWrong_33 : decode cX5_isWrong 33 = .ok (.aload_n 0, 1) := by decide +kernel
theorem dX5_isWrong_34 : decode cX5_isWrong 34 = .ok (.getfield 29, 3) := by decide +kernel
theorem dX5_isWrong_37 : decode cX5_isWrong 37 = .ok (.iload_n 3, 1) := by decide +kernel
theorem dX5_isWrong_38 : decode cX5_isWrong 38 = .ok (.bipush 16, 2) := by decide +kernel
theorem dX5_isWrong_40 : decode cX5_isWrong 40 = .ok (.isub, 1) := by decide +kernel
theorem dX5_isWrong_41 : decode cX5_isWrong 41 = .ok (.iaload, 1) := by decide +kernel
theorem dX5_isWrong_42 : decode cX5_isWrong 42 = .ok (.istore 4, 2) := by decide +kernel
theorem dX5_isWrong_44 : decode cX5_isWrong 44 = .ok (.aload_n 0, 1) := by decide +kernel
theorem dX5_isWrong_45 : decode cX5_isWrong 45 = .ok (.getfield 20, 3) := by decide +kernel
theorem dX5_isWrong_48 : decode cX5_isWrong 48 = .ok (.iload_n 1, 1) := by decide +kernel
theorem dX5_isWrong_49 : decode cX5_isWrong 49 = .ok (.aaload, 1) := by decide +kernel
theorem dX5_isWrong_50 : decode cX5_isWrong 50 = .ok (.iload_n 2, 1) := by decide +kernel
theorem dX5_isWrong_51 : decode cX5_isWrong 51 = .ok (.iaload, 1) := by decide +kernel
theorem dX5_isWrong_52 : decode cX5_isWrong 52 = .ok (.iconst (-1), 1) := by decide +kernel
theorem dX5_isWrong_53 : decode cX5_isWrong 53 = .ok (.if_icmp .eq 20, 3) := by decide +kernel
theorem dX5_isWrong_56 : decode cX5_isWrong 56 = .ok (.aload_n 0, 1) := by decide +kernel
theorem dX5_isWrong_57 : decode cX5_isWrong 57 = .ok (.getfield 20, 3) := by decide +kernel
theorem dX5_isWrong_60 : decode cX5_isWrong 60 = .ok (.iload_n 1, 1) := by decide +kernel
theorem dX5_isWrong_61 : decode cX5_isWrong 61 = .ok (.aaload, 1) := by decide +kernel
theorem dX5_isWrong_62 : decode cX5_isWrong 62 = .ok (.iload_n 2, 1) := by decide +kernel
theorem dX5_isWrong_63 : decode cX5_isWrong 63 = .ok (.iaload, 1) := by decide +kernel
theorem dX5_isWrong_64 : decode cX5_isWrong 64 = .ok (.iload 4, 2) := by decide +kernel
theorem dX5_isWrong_66 : decode cX5_isWrong 66 = .ok (.if_icmp .eq 7, 3) := by decide +kernel
theorem dX5_isWrong_69 : decode cX5_isWrong 69 = .ok (.iconst 1, 1) := by decide +kernel
theorem dX5_isWrong_70 : decode cX5_isWrong 70 = .ok (.goto 4, 3) := by decide +kernel
theorem dX5_isWrong_73 : decode cX5_isWrong 73 = .ok (.iconst 0, 1) := by decide +kernel
theorem dX5_isWrong_74 : decode cX5_isWrong 74 = .ok (.ireturn, 1) := by decide +kernel
theorem dX5_poll_0 : decode cX5_poll 0 = .ok (.aload_n 0, 1) := by decide +kernel
theorem dX5_poll_1 : decode cX5_poll 1 = .ok (.iconst 0, 1) := by decide +kernel
theorem dX5_poll_2 : decode cX5_poll 2 = .ok (.putfield 61, 3) := by decide +kernel
theorem dX5_poll_5 : decode cX5_poll 5 = .ok (.aload_n 0, 1) := by decide +kernel
theorem dX5_poll_6 : decode cX5_poll 6 = .ok (.getfield 26, 3) := by decide +kernel
theorem dX5_poll_9 : decode cX5_poll 9 = .ok (.iconst 0, 1) := by decide +kernel
theorem dX5_poll_10 : decode cX5_poll 10 = .ok (.invokestatic 52, 3) := by decide +kernel
theorem dX5_poll_13 : decode cX5_poll 13 = .ok (.iconst 0, 1) := by decide +kernel
theorem dX5_poll_14 : decode cX5_poll 14 = .ok (.istore_n 1, 1) := by decide +kernel
theorem dX5_poll_15 : decode cX5_poll 15 = .ok (.iload_n 1, 1) := by decide +kernel
theorem dX5_poll_16 : decode cX5_poll 16 = .ok (.bipush 16, 2) := by decide +kernel
theorem dX5_poll_18 : decode cX5_poll 18 = .ok (.if_icmp .ge 19, 3) := by decide +kernel
theorem dX5_poll_21 : decode cX5_poll 21 = .ok (.aload_n 0, 1) := by decide +kernel
theorem dX5_poll_22 : decode cX5_poll 22 = .ok (.getfield 23, 3) := by decide +kernel
theorem dX5_poll_25 : decode cX5_poll 25 = .ok (.iload_n 1, 1) := by decide +kernel
theorem dX5_poll_26 : decode cX5_poll 26 = .ok (.aaload, 1) := by decide +kernel
theorem dX5_poll_27 : decode cX5_poll 27 = .ok (.iconst 0, 1) := by decide +kernel
theorem dX5_poll_28 : decode cX5_poll 28 = .ok (.invokestatic 52, 3) := by decide +kernel
theorem dX5_poll_31 : decode cX5_poll 31 = .ok (.iinc 1 1, 3) := by decide +kernel
theorem dX5_poll_34 : decode cX5_poll 34 = .ok (.goto (-19), 3) := by decide +kernel
theorem dX5_poll_37 : decode cX5_poll 37 = .ok (.iconst 0, 1) := by decide +kernel
theorem dX5_poll_38 : decode cX5_poll 38 = .ok (.istore_n 1, 1) := by decide +kernel
theorem dX5_poll_39 : decode cX5_poll 39 = .ok (.iload_n 1, 1) := by decide +kernel
theorem dX5_poll_40 : decode cX5_poll 40 = .ok (.aload_n 0, 1) := by decide +kernel
theorem dX5_poll_41 : decode cX5_poll 41 = .ok (.getfield 36, 3) := by decide +kernel
theorem dX5_poll_44 : decode cX5_poll 44 = .ok (.if_icmp .ge 73, 3) := by decide +kernel
theorem dX5_poll_47 : decode cX5_poll 47 = .ok (.iconst 0, 1) := by decide +kernel
theorem dX5_poll_48 : decode cX5_poll 48 = .ok (.istore_n 2, 1) := by decide +kernel
theorem dX5_poll_49 : decode cX5_poll 49 = .ok (.iload_n 2, 1) := by decide +kernel
theorem dX5_poll_50 : decode cX5_poll 50 = .ok (.aload_n 0, 1) := by decide +kernel
theorem dX5_poll_51 : decode cX5_poll 51 = .ok (.getfield 15, 3) := by decide +kernel
theorem dX5_poll_54 : decode cX5_poll 54 = .ok (.iload_n 1, 1) := by decide +kernel
theorem dX5_poll_55 : decode cX5_poll 55 = .ok (.iaload, 1) := by decide +kernel
theorem dX5_poll_56 : decode cX5_poll 56 = .ok (.if_icmp .ge 55, 3) := by decide +kernel
theorem dX5_poll_59 : decode cX5_poll 59 = .ok (.aload_n 0, 1) := by decide +kernel
theorem dX5_poll_60 : decode cX5_poll 60 = .ok (.getfield 20, 3) := by decide +kernel
theorem dX5_poll_63 : decode cX5_poll 63 = .ok (.iload_n 1, 1) := by decide +kernel
theorem dX5_poll_64 : decode cX5_poll 64 = .ok (.aaload, 1) := by decide +kernel
theorem dX5_poll_65 : decode cX5_poll 65 = .ok (.iload_n 2, 1) := by decide +kernel
theorem dX5_poll_66 : decode cX5_poll 66 = .ok (.iaload, 1) := by decide +kernel
theorem dX5_poll_67 : decode cX5_poll 67 = .ok (.iconst (-1), 1) := by decide +kernel
theorem dX5_poll_68 : decode cX5_poll 68 = .ok (.if_icmp .eq 37, 3) := by decide +kernel
theorem dX5_poll_71 : decode cX5_poll 71 = .ok (.aload_n 0, 1) := by decide +kernel
theorem dX5_poll_72 : decode cX5_poll 72 = .ok (.aload_n 0, 1) := by decide +kernel
theorem dX5_poll_73 : decode cX5_poll 73 = .ok (.getfield 32, 3) := by decide +kernel
theorem dX5_poll_76 : decode cX5_poll 76 = .ok (.aload_n 0, 1) := by decide +kernel
theorem dX5_poll_77 : decode cX5_poll 77 = .ok (.getfield 9, 3) := by decide +kernel
theorem dX5_poll_80 : decode cX5_poll 80 = .ok (.iload_n 1, 1) := by decide +kernel
theorem dX5_poll_81 : decode cX5_poll 81 = .ok (.iaload, 1) := by decide +kernel
theorem dX5_poll_82 : decode cX5_poll 82 = .ok (.aload_n 0, 1) := by decide +kernel
theorem dX5_poll_83 : decode cX5_poll 83 = .ok (.getfield 40, 3) := by decide +kernel
theorem dX5_poll_86 : decode cX5_poll 86 = .ok (.aload_n 0, 1) := by decide +kernel
theorem dX5_poll_87 : decode cX5_poll 87 = .ok (.getfield 43, 3) := by decide +kernel
theorem dX5_poll_90 : decode cX5_poll 90 = .ok (.iload_n 2, 1) := by decide +kernel
theorem dX5_poll_91 : decode cX5_poll 91 = .ok (.invokevirtual 83, 3) := by decide +kernel
theorem dX5_poll_94 : decode cX5_poll 94 = .ok (.aload_n 0, 1) := by decide +kernel
theorem dX5_poll_95 : decode cX5_poll 95 = .ok (.getfield 20, 3) := by decide +kernel
theorem dX5_poll_98 : decode cX5_poll 98 = .ok (.iload_n 1, 1) := by decide +kernel
theorem dX5_poll_99 : decode cX5_poll 99 = .ok (.aaload, 1) := by decide +kernel
theorem dX5_poll_100 : decode cX5_poll 100 = .ok (.iload_n 2, 1) := by decide +kernel
theorem dX5_poll_101 : decode cX5_poll 101 = .ok (.iaload, 1) := by decide +kernel
theorem dX5_poll_102 : decode cX5_poll 102 = .ok (.invokevirtual 87, 3) := by decide +kernel
theorem dX5_poll_105 : decode cX5_poll 105 = .ok (.iinc 2 1, 3) := by decide +kernel
theorem dX5_poll_108 : decode cX5_poll 108 = .ok (.goto (-59), 3) := by decide +kernel
theorem dX5_poll_111 : decode cX5_poll 111 = .ok (.iinc 1 1, 3) := by decide +kernel
theorem dX5_poll_114 : decode cX5_poll 114 = .ok (.goto (-75), 3) := by decide +kernel
theorem dX5_poll_117 : decode cX5_poll 117 = .ok (.return_, 1) := by decide +kernel
theorem dX5_vote_0 : decode cX5_vote 0 = .ok (.iload_n 1, 1) := by decide +kernel
theorem dX5_vote_1 : decode cX5_vote 1 = .ok (.bipush 16, 2) := by decide +kernel
theorem dX5_vote_3 : decode cX5_vote 3 = .ok (.if_icmp .lt 34, 3) := by decide +kernel
theorem dX5_vote_6 : decode cX5_vote 6 = .ok (.aload_n 0, 1) := by decide +kernel
theorem dX5_vote_7 : decode cX5_vote 7 = .ok (.getfield 26, 3) := by decide +kernel
theorem dX5_vote_10 : decode cX5_vote 10 = .ok (.iload_n 1, 1) := by decide +kernel
theorem dX5_vote_11 : decode cX5_vote 11 = .ok (.bipush 16, 2) := by decide +kernel
theorem dX5_vote_13 : decode cX5_vote 13 = .ok (.isub, 1) := by decide +kernel
theorem dX5_vote_14 : decode cX5_vote 14 = .ok (.dup2, 1) := by decide +kernel
theorem dX5_vote_15 : decode cX5_vote 15 = .ok (.iaload, 1) := by decide +kernel
theorem dX5_vote_16 : decode cX5_vote 16 = .ok (.iconst 1, 1) := by decide +kernel
theorem dX5_vote_17 : decode cX5_vote 17 = .ok (.iadd, 1) := by decide +kernel
theorem dX5_vote_18 : decode cX5_vote 18 = .ok (.iastore, 1) := by decide +kernel
theorem dX5_vote_19 : decode cX5_vote 19 = .ok (.aload_n 0, 1) := by decide +kernel
theorem dX5_vote_20 : decode cX5_vote 20 = .ok (.getfield 23, 3) := by decide +kernel
theorem dX5_vote_23 : decode cX5_vote 23 = .ok (.iload_n 1, 1) := by decide +kernel
theorem dX5_vote_24 : decode cX5_vote 24 = .ok (.bipush 16, 2) := by decide +kernel
theorem dX5_vote_26 : decode cX5_vote 26 = .ok (.isub, 1) := by decide +kernel
theorem dX5_vote_27 : decode cX5_vote 27 = .ok (.aaload, 1) := by decide +kernel
theorem dX5_vote_28 : decode cX5_vote 28 = .ok (.iload_n 2, 1) := by decide +kernel
theorem dX5_vote_29 : decode cX5_vote 29 = .ok (.dup2, 1) := by decide +kernel
theorem dX5_vote_30 : decode cX5_vote 30 = .ok (.iaload, 1) := by decide +kernel
theorem dX5_vote_31 : decode cX5_vote 31 = .ok (.iconst 1, 1) := by decide +kernel
theorem dX5_vote_32 : decode cX5_vote 32 = .ok (.iadd, 1) := by decide +kernel
theorem dX5_vote_33 : decode cX5_vote 33 = .ok (.iastore, 1) := by decide +kernel
end
section
theorem dX5_vote_34 : decode cX5_vote 34 = .ok (.goto 18, 3) := by decide +kernel
theorem dX5_vote_37 : decode cX5_vote 37 = .ok (.iload_n 1, 1) := by decide +kernel
theorem dX5_vote_38 : decode cX5_vote 38 = .ok (.iload_n 2, 1) := by decide +kernel
theorem dX5_vote_39 : decode cX5_vote 39 = .ok (.if_icmp .eq 13, 3) := by decide +kernel
theorem dX5_vote_42 : decode cX5_vote 42 = .ok (.aload_n 0, 1) := by decide +kernel
theorem dX5_vote_43 : decode cX5_vote 43 = .ok (.dup, 1) := by decide +kernel
theorem dX5_vote_44 : decode cX5_vote 44 = .ok (.getfield 61, 3) := by decide +kernel
theorem dX5_vote_47 : decode cX5_vote 47 = .ok (.iconst 1, 1) := by decide +kernel
theorem dX5_vote_48 : decode cX5_vote 48 = .ok (.iadd, 1) := by decide +kernel
theorem dX5_vote_49 : decode cX5_vote 49 = .ok (.putfield 61, 3) := by decide +kernel
theorem dX5_vote_52 : decode cX5_vote 52 = .ok (.return_, 1) := by decide +kernel
theorem dX5_blamelessNotes_0 : decode cX5_blamelessNotes 0 = .ok (.iconst 0, 1) := by decide +kernel
theorem dX5_blamelessNotes_1 : decode cX5_blamelessNotes 1 = .ok (.istore_n 2, 1) := by decide +kernel
theorem dX5_blamelessNotes_2 : decode cX5_blamelessNotes 2 = .ok (.iconst 0, 1) := by decide +kernel
theorem dX5_blamelessNotes_3 : decode cX5_blamelessNotes 3 = .ok (.istore_n 3, 1) := by decide +kernel
theorem dX5_blamelessNotes_4 : decode cX5_blamelessNotes 4 = .ok (.iload_n 3, 1) := by decide +kernel
theorem dX5_blamelessNotes_5 : decode cX5_blamelessNotes 5 = .ok (.bipush 9, 2) := by decide +kernel
theorem dX5_blamelessNotes_7 : decode cX5_blamelessNotes 7 = .ok (.if_icmp .ge 29, 3) := by decide +kernel
theorem dX5_blamelessNotes_10 : decode cX5_blamelessNotes 10 = .ok (.aload_n 0, 1) := by decide +kernel
theorem dX5_blamelessNotes_11 : decode cX5_blamelessNotes 11 = .ok (.getfield 23, 3) := by decide +kernel
theorem dX5_blamelessNotes_14 : decode cX5_blamelessNotes 14 = .ok (.iload_n 1, 1) := by decide +kernel
theorem dX5_blamelessNotes_15 : decode cX5_blamelessNotes 15 = .ok (.aaload, 1) := by decide +kernel
theorem dX5_blamelessNotes_16 : decode cX5_blamelessNotes 16 = .ok (.iload_n 3, 1) := by decide +kernel
theorem dX5_blamelessNotes_17 : decode cX5_blamelessNotes 17 = .ok (.iaload, 1) := by decide +kernel
theorem dX5_blamelessNotes_18 : decode cX5_blamelessNotes 18 = .ok (.aload_n 0, 1) := by decide +kernel
theorem dX5_blamelessNotes_19 : decode cX5_blamelessNotes 19 = .ok (.getfield 26, 3) := by decide +kernel
theorem dX5_blamelessNotes_22 : decode cX5_blamelessNotes 22 = .ok (.iload_n 1, 1) := by decide +kernel
theorem dX5_blamelessNotes_23 : decode cX5_blamelessNotes 23 = .ok (.iaload, 1) := by decide +kernel
theorem dX5_blamelessNotes_24 : decode cX5_blamelessNotes 24 = .ok (.if_icmp .ne 6, 3) := by decide +kernel
theorem dX5_blamelessNotes_27 : decode cX5_blamelessNotes 27 = .ok (.iinc 2 1, 3) := by decide +kernel
theorem dX5_blamelessNotes_30 : decode cX5_blamelessNotes 30 = .ok (.iinc 3 1, 3) := by decide +kernel
theorem dX5_blamelessNotes_33 : decode cX5_blamelessNotes 33 = .ok (.goto (-29), 3) := by decide +kernel
theorem dX5_blamelessNotes_36 : decode cX5_blamelessNotes 36 = .ok (.iload_n 2, 1) := by decide +kernel
theorem dX5_blamelessNotes_37 : decode cX5_blamelessNotes 37 = .ok (.ireturn, 1) := by decide +kernel
theorem dX5_mostVoted_0 : decode cX5_mostVoted 0 = .ok (.iconst 0, 1) := by decide +kernel
theorem dX5_mostVoted_1 : decode cX5_mostVoted 1 = .ok (.istore_n 1, 1) := by decide +kernel
theorem dX5_mostVoted_2 : decode cX5_mostVoted 2 = .ok (.iconst 1, 1) := by decide +kernel
theorem dX5_mostVoted_3 : decode cX5_mostVoted 3 = .ok (.istore_n 2, 1) := by decide +kernel
theorem dX5_mostVoted_4 : decode cX5_mostVoted 4 = .ok (.iload_n 2, 1) := by decide +kernel
theorem dX5_mostVoted_5 : decode cX5_mostVoted 5 = .ok (.bipush 9, 2) := by decide +kernel
theorem dX5_mostVoted_7 : decode cX5_mostVoted 7 = .ok (.if_icmp .ge 20, 3) := by decide +kernel
theorem dX5_mostVoted_10 : decode cX5_mostVoted 10 = .ok (.aload_n 0, 1) := by decide +kernel
theorem dX5_mostVoted_11 : decode cX5_mostVoted 11 = .ok (.iload_n 2, 1) := by decide +kernel
theorem dX5_mostVoted_12 : decode cX5_mostVoted 12 = .ok (.iaload, 1) := by decide +kernel
theorem dX5_mostVoted_13 : decode cX5_mostVoted 13 = .ok (.aload_n 0, 1) := by decide +kernel
theorem dX5_mostVoted_14 : decode cX5_mostVoted 14 = .ok (.iload_n 1, 1) := by decide +kernel
theorem dX5_mostVoted_15 : decode cX5_mostVoted 15 = .ok (.iaload, 1) := by decide +kernel
theorem dX5_mostVoted_16 : decode cX5_mostVoted 16 = .ok (.if_icmp .le 5, 3) := by decide +kernel
theorem dX5_mostVoted_19 : decode cX5_mostVoted 19 = .ok (.iload_n 2, 1) := by decide +kernel
theorem dX5_mostVoted_20 : decode cX5_mostVoted 20 = .ok (.istore_n 1, 1) := by decide +kernel
theorem dX5_mostVoted_21 : decode cX5_mostVoted 21 = .ok (.iinc 2 1, 3) := by decide +kernel
theorem dX5_mostVoted_24 : decode cX5_mostVoted 24 = .ok (.goto (-20), 3) := by decide +kernel
theorem dX5_mostVoted_27 : decode cX5_mostVoted 27 = .ok (.iload_n 1, 1) := by decide +kernel
theorem dX5_mostVoted_28 : decode cX5_mostVoted 28 = .ok (.ireturn, 1) := by decide +kernel
theorem dX6_init_0 : decode cX6_init 0 = .ok (.aload_n 0, 1) := by decide +kernel
theorem dX6_init_1 : decode cX6_init 1 = .ok (.invokespecial 3, 3) := by decide +kernel
theorem dX6_init_4 : decode cX6_init 4 = .ok (.aload_n 0, 1) := by decide +kernel
theorem dX6_init_5 : decode cX6_init 5 = .ok (.iconst 3, 1) := by decide +kernel
theorem dX6_init_6 : decode cX6_init 6 = .ok (.bipush 8, 2) := by decide +kernel
theorem dX6_init_8 : decode cX6_init 8 = .ok (.multianewarray 9 2, 4) := by decide +kernel
theorem dX6_init_12 : decode cX6_init 12 = .ok (.putfield 11, 3) := by decide +kernel
theorem dX6_init_15 : decode cX6_init 15 = .ok (.aload_n 0, 1) := by decide +kernel
theorem dX6_init_16 : decode cX6_init 16 = .ok (.iconst 3, 1) := by decide +kernel
theorem dX6_init_17 : decode cX6_init 17 = .ok (.bipush 9, 2) := by decide +kernel
theorem dX6_init_19 : decode cX6_init 19 = .ok (.multianewarray 9 2, 4) := by decide +kernel
theorem dX6_init_23 : decode cX6_init 23 = .ok (.putfield 16, 3) := by decide +kernel
theorem dX6_init_26 : decode cX6_init 26 = .ok (.aload_n 0, 1) := by decide +kernel
theorem dX6_init_27 : decode cX6_init 27 = .ok (.bipush 12, 2) := by decide +kernel
theorem dX6_init_29 : decode cX6_init 29 = .ok (.newarray .int, 2) := by decide +kernel
theorem dX6_init_31 : decode cX6_init 31 = .ok (.putfield 19, 3) := by decide +kernel
theorem dX6_init_34 : decode cX6_init 34 = .ok (.aload_n 0, 1) := by decide +kernel
theorem dX6_init_35 : decode cX6_init 35 = .ok (.bipush 10, 2) := by decide +kernel
theorem dX6_init_37 : decode cX6_init 37 = .ok (.newarray .int, 2) := by decide +kernel
theorem dX6_init_39 : decode cX6_init 39 = .ok (.putfield 23, 3) := by decide +kernel
theorem dX6_init_42 : decode cX6_init 42 = .ok (.aload_n 0, 1) := by decide +kernel
theorem dX6_init_43 : decode cX6_init 43 = .ok (.bipush 10, 2) := by decide +kernel
theorem dX6_init_45 : decode cX6_init 45 = .ok (.newarray .int, 2) := by decide +kernel
theorem dX6_init_47 : decode cX6_init 47 = .ok (.putfield 26, 3) := by decide +kernel
theorem dX6_init_50 : decode cX6_init 50 = .ok (.aload_n 0, 1) := by decide +kernel
theorem dX6_init_51 : decode cX6_init 51 = .ok (.bipush 12, 2) := by decide +kernel
theorem dX6_init_53 : decode cX6_init 53 = .ok (.newarray .int, 2) := by decide +kernel
theorem dX6_init_55 : decode cX6_init 55 = .ok (.putfield 29, 3) := by decide +kernel
theorem dX6_init_58 : decode cX6_init 58 = .ok (.aload_n 0, 1) := by decide +kernel
theorem dX6_init_59 : decode cX6_init 59 = .ok (.aload_n 1, 1) := by decide +kernel
theorem dX6_init_60 : decode cX6_init 60 = .ok (.putfield 32, 3) := by decide +kernel
theorem dX6_init_63 : decode cX6_init 63 = .ok (.iconst 0, 1) := by decide +kernel
theorem dX6_init_64 : decode cX6_init 64 = .ok (.istore_n 2, 1) := by decide +kernel
theorem dX6_init_65 : decode cX6_init 65 = .ok (.iload_n 2, 1) := by decide +kernel
theorem dX6_init_66 : decode cX6_init 66 = .ok (.iconst 3, 1) := by decide +kernel
theorem dX6_init_67 : decode cX6_init 67 = .ok (.if_icmp .ge 57, 3) := by decide +kernel
theorem dX6_init_70 : decode cX6_init 70 = .ok (.iconst 0, 1) := by decide +kernel
theorem dX6_init_71 : decode cX6_init 71 = .ok (.istore_n 3, 1) := by decide +kernel
theorem dX6_init_72 : decode cX6_init 72 = .ok (.iload_n 3, 1) := by decide +kernel
theorem dX6_init_73 : decode cX6_init 73 = .ok (.bipush 8, 2) := by decide +kernel
theorem dX6_init_75 : decode cX6_init 75 = .ok (.if_icmp .ge 18, 3) := by decide +kernel
theorem dX6_init_78 : decode cX6_init 78 = .ok (.aload_n 0, 1) := by decide +kernel
theorem dX6_init_79 : decode cX6_init 79 = .ok (.getfield 11, 3) := by decide +kernel
theorem dX6_init_82 : decode cX6_init 82 = .ok (.iload_n 2, 1) := by decide +kernel
theorem dX6_init_83 : decode cX6_init 83 = .ok (.aaload, 1) := by decide +kernel
theorem dX6_init_84 : decode cX6_init 84 = .ok (.iload_n 3, 1) := by decide +kernel
theorem dX6_init_85 : decode cX6_init 85 = .ok (.iload_n 3, 1) := by decide +kernel
theorem dX6_init_86 : decode cX6_init 86 = .ok (.iastore, 1) := by decide +kernel
theorem dX6_init_87 : decode cX6_init 87 = .ok (.iinc 3 1, 3) := by decide +kernel
theorem dX6_init_90 : decode cX6_init 90 = .ok (.goto (-18), 3) := by decide +kernel
theorem dX6_init_93 : decode cX6_init 93 = .ok (.iconst 0, 1) := by decide +kernel
theorem dX6_init_94 : decode cX6_init 94 = .ok (.istore_n 3, 1) := by decide +kernel
theorem dX6_init_95 : decode cX6_init 95 = .ok (.iload_n 3, 1) := by decide +kernel
theorem dX6_init_96 : decode cX6_init 96 = .ok (.bipush 9, 2) := by decide +kernel
theorem dX6_init_98 : decode cX6_init 98 = .ok (.if_icmp .ge 20, 3) := by decide +kernel
theorem dX6_init_101 : decode cX6_init 101 = .ok (.aload_n 0, 1) := by decide +kernel
theorem dX6_init_102 : decode cX6_init 102 = .ok (.getfield 16, 3) := by decide +kernel
theorem dX6_init_105 : decode cX6_init 105 = .ok (.iload_n 2, 1) := by decide +kernel
theorem dX6_init_106 : decode cX6_init 106 = .ok (.aaload, 1) := by decide +kernel
theorem dX6_init_107 : decode cX6_init 107 = .ok (.iload_n 3, 1) := by decide +kernel
theorem dX6_init_108 : decode cX6_init 108 = .ok (.iload_n 3, 1) := by decide +kernel
theorem dX6_init_109 : decode cX6_init 109 = .ok (.iconst 3, 1) := by decide +kernel
theorem dX6_init_110 : decode cX6_init 110 = .ok (.idiv, 1) := by decide +kernel
theorem dX6_init_111 : decode cX6_init 111 = .ok (.iastore, 1) := by decide +kernel
theorem dX6_init_112 : decode cX6_init 112 = .ok (.iinc 3 1, 3) := by decide +kernel
theorem dX6_init_115 : decode cX6_init 115 = .ok (.goto (-20), 3) := by decide +kernel
theorem dX6_init_118 : decode cX6_init 118 = .ok (.iinc 2 1, 3) := by decide +kernel
theorem dX6_init_121 : decode cX6_init 121 = .ok (.goto (-56), 3) := by decide +kernel
theorem dX6_init_124 : decode cX6_init 124 = .ok (.return_, 1) := by decide +kernel
theorem dX6_append_0 : decode cX6_append 0 = .ok (.aload_n 0, 1) := by decide +kernel
theorem dX6_append_1 : decode cX6_append 1 = .ok (.getfield 19, 3) := by decide +kernel
theorem dX6_append_4 : decode cX6_append 4 = .ok (.aload_n 0, 1) := by decide +kernel
theorem dX6_append_5 : decode cX6_append 5 = .ok (.getfield 36, 3) := by decide +kernel
theorem dX6_append_8 : decode cX6_append 8 = .ok (.iload_n 1, 1) := by decide +kernel
theorem dX6_append_9 : decode cX6_append 9 = .ok (.iastore, 1) := by decide +kernel
theorem dX6_append_10 : decode cX6_append 10 = .ok (.aload_n 0, 1) := by decide +kernel
theorem dX6_append_11 : decode cX6_append 11 = .ok (.dup, 1) := by decide +kernel
theorem dX6_append_12 : decode cX6_append 12 = .ok (.getfield 36, 3) := by decide +kernel
theorem dX6_append_15 : decode cX6_append 15 = .ok (.iconst 1, 1) := by decide +kernel
theorem dX6_append_16 : decode cX6_append 16 = .ok (.iadd, 1) := by decide +kernel
theorem dX6_append_17 : decode cX6_append 17 = .ok (.putfield 36, 3) := by decide +kernel
theorem dX6_append_20 : decode cX6_append 20 = .ok (.aload_n 0, 1) := by decide +kernel
theorem dX6_append_21 : decode cX6_append 21 = .ok (.getfield 36, 3) := by decide +kernel
theorem dX6_append_24 : decode cX6_append 24 = .ok (.ireturn, 1) := by decide +kernel
theorem dX6_sound_0 : decode cX6_sound 0 = .ok (.iconst 4, 1) := by decide +kernel
theorem dX6_sound_1 : decode cX6_sound 1 = .ok (.aload_n 0, 1) := by decide +kernel
theorem dX6_sound_2 : decode cX6_sound 2 = .ok (.getfield 11, 3) := by decide +kernel
theorem dX6_sound_5 : decode cX6_sound 5 = .ok (.iload_n 1, 1) := by decide +kernel
theorem dX6_sound_6 : decode cX6_sound 6 = .ok (.aaload, 1) := by decide +kernel
theorem dX6_sound_7 : decode cX6_sound 7 = .ok (.iload_n 3, 1) := by decide +kernel
theorem dX6_sound_8 : decode cX6_sound 8 = .ok (.iaload, 1) := by decide +kernel
theorem dX6_sound_9 : decode cX6_sound 9 = .ok (.imul, 1) := by decide +kernel
theorem dX6_sound_10 : decode cX6_sound 10 = .ok (.aload_n 0, 1) := by decide +kernel
theorem dX6_sound_11 : decode cX6_sound 11 = .ok (.getfield 16, 3) := by decide +kernel
theorem dX6_sound_14 : decode cX6_sound 14 = .ok (.iload_n 1, 1) := by decide +kernel
theorem dX6_sound_15 : decode cX6_sound 15 = .ok (.aaload, 1) := by decide +kernel
theorem dX6_sound_16 : decode cX6_sound 16 = .ok (.iload_n 2, 1) := by decide +kernel
theorem dX6_sound_17 : decode cX6_sound 17 = .ok (.iaload, 1) := by decide +kernel
theorem dX6_sound_18 : decode cX6_sound 18 = .ok (.iadd, 1) := by decide +kernel
theorem dX6_sound_19 : decode cX6_sound 19 = .ok (.ireturn, 1) := by decide +kernel
theorem dX6_rows_0 : decode cX6_rows 0 = .ok (.aload_n 0, 1) := by decide +kernel
theorem dX6_rows_1 : decode cX6_rows 1 = .ok (.getfield 23, 3) := by decide +kernel
theorem dX6_rows_4 : decode cX6_rows 4 = .ok (.iconst 0, 1) := by decide +kernel
theorem dX6_rows_5 : decode cX6_rows 5 = .ok (.invokestatic 40, 3) := by decide +kernel
theorem dX6_rows_8 : decode cX6_rows 8 = .ok (.aload_n 0, 1) := by decide +kernel
theorem dX6_rows_9 : decode cX6_rows 9 = .ok (.getfield 23, 3) := by decide +kernel
theorem dX6_rows_12 : decode cX6_rows 12 = .ok (.iconst 0, 1) := by decide +kernel
theorem dX6_rows_13 : decode cX6_rows 13 = .ok (.iconst 1, 1) := by decide +kernel
theorem dX6_rows_14 : decode cX6_rows 14 = .ok (.iastore, 1) := by decide +kernel
theorem dX6_rows_15 : decode cX6_rows 15 = .ok (.iconst 0, 1) := by decide +kernel
theorem dX6_rows_16 : decode cX6_rows 16 = .ok (.istore_n 2, 1) := by decide +kernel
theorem dX6_rows_17 : decode cX6_rows 17 = .ok (.iload_n 2, 1) := by decide +kernel
theorem dX6_rows_18 : decode cX6_rows 18 = .ok (.aload_n 0, 1) := by decide +kernel
theorem dX6_rows_19 : decode cX6_rows 19 = .ok (.getfield 36, 3) := by decide +kernel
theorem dX6_rows_22 : decode cX6_rows 22 = .ok (.if_icmp .ge 15, 3) := by decide +kernel
theorem dX6_rows_25 : decode cX6_rows 25 = .ok (.aload_n 0, 1) := by decide +kernel
theorem dX6_rows_26 : decode cX6_rows 26 = .ok (.iload_n 1, 1) := by decide +kernel
theorem dX6_rows_27 : decode cX6_rows 27 = .ok (.iload_n 2, 1) := by decide +kernel
theorem dX6_rows_28 : decode cX6_rows 28 = .ok (.invokevirtual 46, 3) := by decide +kernel
theorem dX6_rows_31 : decode cX6_rows 31 = .ok (.iinc 2 1, 3) := by decide +kernel
theorem dX6_rows_34 : decode cX6_rows 34 = .ok (.goto (-17), 3) := by decide +kernel
theorem dX6_rows_37 : decode cX6_rows 37 = .ok (.iconst 0, 1) := by decide +kernel
theorem dX6_rows_38 : decode cX6_rows 38 = .ok (.istore_n 2, 1) := by decide +kernel
theorem dX6_rows_39 : decode cX6_rows 39 = .ok (.iconst 0, 1) := by decide +kernel
theorem dX6_rows_40 : decode cX6_rows 40 = .ok (.istore_n 3, 1) := by decide +kernel
theorem dX6_rows_41 : decode cX6_rows 41 = .ok (.iload_n 3, 1) := by decide +kernel
theorem dX6_rows_42 : decode cX6_rows 42 = .ok (.bipush 9, 2) := by decide +kernel
theorem dX6_rows_44 : decode cX6_rows 44 = .ok (.if_icmp .gt 23, 3) := by decide +kernel
theorem dX6_rows_47 : decode cX6_rows 47 = .ok (.ldc 50, 2) := by decide +kernel
theorem dX6_rows_49 : decode cX6_rows 49 = .ok (.iload_n 2, 1) := by decide +kernel
theorem dX6_rows_50 : decode cX6_rows 50 = .ok (.aload_n 0, 1) := by decide +kernel
theorem dX6_rows_51 : decode cX6_rows 51 = .ok (.getfield 23, 3) := by decide +kernel
theorem dX6_rows_54 : decode cX6_rows 54 = .ok (.iload_n 3, 1) := by decide +kernel
theorem dX6_rows_55 : decode cX6_rows 55 = .ok (.iaload, 1) := by decide +kernel
theorem dX6_rows_56 : decode cX6_rows 56 = .ok (.iadd, 1) := by decide +kernel
theorem dX6_rows_57 : decode cX6_rows 57 = .ok (.invokestatic 51, 3) := by decide +kernel
theorem dX6_rows_60 : decode cX6_rows 60 = .ok (.istore_n 2, 1) := by decide +kernel
theorem dX6_rows_61 : decode cX6_rows 61 = .ok (.iinc 3 1, 3) := by decide +kernel
theorem dX6_rows_64 : decode cX6_rows 64 = .ok (.goto (-23), 3) := by decide +kernel
theorem dX6_rows_67 : decode cX6_rows 67 = .ok (.iload_n 2, 1) := by decide +kernel
theorem dX6_rows_68 : decode cX6_rows 68 = .ok (.ireturn, 1) := by decide +kernel
theorem dX6_firstRowAt_0 : decode cX6_firstRowAt 0 = .ok (.iload_n 2, 1) := by decide +kernel
theorem dX6_firstRowAt_1 : decode cX6_firstRowAt 1 = .ok (.aload_n 0, 1) := by decide +kernel
theorem dX6_firstRowAt_2 : decode cX6_firstRowAt 2 = .ok (.getfield 36, 3) := by decide +kernel
theorem dX6_firstRowAt_5 : decode cX6_firstRowAt 5 = .ok (.if_icmp .lt 5, 3) := by decide +kernel
theorem dX6_firstRowAt_8 : decode cX6_firstRowAt 8 = .ok (.iconst (-1), 1) := by decide +kernel
theorem dX6_firstRowAt_9 : decode cX6_firstRowAt 9 = .ok (.ireturn, 1) := by decide +kernel
theorem dX6_firstRowAt_10 : decode cX6_firstRowAt 10 = .ok (.aload_n 0, 1) := by decide +kernel
theorem dX6_firstRowAt_11 : decode cX6_firstRowAt 11 = .ok (.iload_n 1, 1) := by decide +kernel
theorem dX6_firstRowAt_12 : decode cX6_firstRowAt 12 = .ok (.invokevirtual 57, 3) := by decide +kernel
theorem dX6_firstRowAt_15 : decode cX6_firstRowAt 15 = .ok (.iconst (-1), 1) := by decide +kernel
theorem dX6_firstRowAt_16 : decode cX6_firstRowAt 16 = .ok (.istore_n 3, 1) := by decide +kernel
theorem dX6_firstRowAt_17 : decode cX6_firstRowAt 17 = .ok (.iconst (-1), 1) := by decide +kernel
theorem dX6_firstRowAt_18 : decode cX6_firstRowAt 18 = .ok (.istore 4, 2) := by decide +kernel
theorem dX6_firstRowAt_20 : decode cX6_firstRowAt 20 = .ok (.iconst 0, 1) := by decide +kernel
theorem dX6_firstRowAt_21 : decode cX6_firstRowAt 21 = .ok (.istore 5, 2) := by decide +kernel
theorem dX6_firstRowAt_23 : decode cX6_firstRowAt 23 = .ok (.iload 5, 2) := by decide +kernel
theorem dX6_firstRowAt_25 : decode cX6_firstRowAt 25 = .ok (.iload_n 2, 1) := by decide +kernel
theorem dX6_firstRowAt_26 : decode cX6_firstRowAt 26 = .ok (.if_icmp .gt 33, 3) := by decide +kernel
theorem dX6_firstRowAt_29 : decode cX6_firstRowAt 29 = .ok (.aload_n 0, 1) := by decide +kernel
theorem dX6_firstRowAt_30 : decode cX6_firstRowAt 30 = .ok (.iload_n 1, 1) := by decide +kernel
theorem dX6_firstRowAt_31 : decode cX6_firstRowAt 31 = .ok (.iload 5, 2) := by decide +kernel
theorem dX6_firstRowAt_33 : decode cX6_firstRowAt 33 = .ok (.iload_n 3, 1) := by decide +kernel
theorem dX6_firstRowAt_34 : decode cX6_firstRowAt 34 = .ok (.invokevirtual 61, 3) := by decide +kernel
theorem dX6_firstRowAt_37 : decode cX6_firstRowAt 37 = .ok (.istore 4, 2) := by decide +kernel
theorem dX6_firstRowAt_39 : decode cX6_firstRowAt 39 = .ok (.iload 4, 2) := by decide +kernel
theorem dX6_firstRowAt_41 : decode cX6_firstRowAt 41 = .ok (.iconst (-1), 1) := by decide +kernel
theorem dX6_firstRowAt_42 : decode cX6_firstRowAt 42 = .ok (.if_icmp .ne 5, 3) := by decide +kernel
theorem dX6_firstRowAt_45 : decode cX6_firstRowAt 45 = .ok (.iconst (-1), 1) := by decide +kernel
theorem dX6_firstRowAt_46 : decode cX6_firstRowAt 46 = .ok (.ireturn, 1) := by decide +kernel
theorem dX6_firstRowAt_47 : decode cX6_firstRowAt 47 = .ok (.iload 4, 2) := by decide +kernel
theorem dX6_firstRowAt_49 : decode cX6_firstRowAt 49 = .ok (.bipush 16, 2) := by decide +kernel
theorem dX6_firstRowAt_51 : decode cX6_firstRowAt 51 = .ok (.idiv, 1) := by decide +kernel
theorem dX6_firstRowAt_52 : decode cX6_firstRowAt 52 = .ok (.istore_n 3, 1) := by decide +kernel
theorem dX6_firstRowAt_53 : decode cX6_firstRowAt 53 = .ok (.iinc 5 1, 3) := by decide +kernel
theorem dX6_firstRowAt_56 : decode cX6_firstRowAt 56 = .ok (.goto (-33), 3) := by decide +kernel
theorem dX6_firstRowAt_59 : decode cX6_firstRowAt 59 = .ok (.iload 4, 2) := by decide +kernel
theorem dX6_firstRowAt_61 : decode cX6_firstRowAt 61 = .ok (.ireturn, 1) := by decide +kernel
theorem dX6_homeRegion_0 : decode cX6_homeRegion 0 = .ok (.iconst (-1), 1) := by decide +kernel
theorem dX6_homeRegion_1 : decode cX6_homeRegion 1 = .ok (.istore_n 1, 1) := by decide +kernel
theorem dX6_homeRegion_2 : decode cX6_homeRegion 2 = .ok (.iconst 0, 1) := by decide +kernel
theorem dX6_homeRegion_3 : decode cX6_homeRegion 3 = .ok (.istore_n 2, 1) := by decide +kernel
theorem dX6_homeRegion_4 : decode cX6_homeRegion 4 = .ok (.iconst 0, 1) := by decide +kernel
theorem dX6_homeRegion_5 : decode cX6_homeRegion 5 = .ok (.istore_n 3, 1) := by decide +kernel
theorem dX6_homeRegion_6 : decode cX6_homeRegion 6 = .ok (.iload_n 3, 1) := by decide +kernel
theorem dX6_homeRegion_7 : decode cX6_homeRegion 7 = .ok (.iconst 3, 1) := by decide +kernel
theorem dX6_homeRegion_8 : decode cX6_homeRegion 8 = .ok (.if_icmp .ge 37, 3) := by decide +kernel
theorem dX6_homeRegion_11 : decode cX6_homeRegion 11 = .ok (.aload_n 0, 1) := by decide +kernel
theorem dX6_homeRegion_12 : decode cX6_homeRegion 12 = .ok (.iload_n 3, 1) := by decide +kernel
theorem dX6_homeRegion_13 : decode cX6_homeRegion 13 = .ok (.invokevirtual 65, 3) := by decide +kernel
theorem dX6_homeRegion_16 : decode cX6_homeRegion 16 = .ok (.istore 4, 2) := by decide +kernel
theorem dX6_homeRegion_18 : decode cX6_homeRegion 18 = .ok (.iload 4, 2) := by decide +kernel
theorem dX6_homeRegion_20 : decode cX6_homeRegion 20 = .ok (.ifCond .le 19, 3) := by decide +kernel
theorem dX6_homeRegion_23 : decode cX6_homeRegion 23 = .ok (.iload_n 1, 1) := by decide +kernel
theorem dX6_homeRegion_24 : decode cX6_homeRegion 24 = .ok (.iconst (-1), 1) := by decide +kernel
theorem dX6_homeRegion_25 : decode cX6_homeRegion 25 = .ok (.if_icmp .eq 9, 3) := by decide +kernel
theorem dX6_homeRegion_28 : decode cX6_homeRegion 28 = .ok (.iload 4, 2) := by decide +kernel
theorem dX6_homeRegion_30 : decode cX6_homeRegion 30 = .ok (.iload_n 2, 1) := by decide +kernel
theorem dX6_homeRegion_31 : decode cX6_homeRegion 31 = .ok (.if_icmp .ge 8, 3) := by decide +kernel
theorem dX6_homeRegion_34 : decode cX6_homeRegion 34 = .ok (.iload_n 3, 1) := by decide +kernel
theorem dX6_homeRegion_35 : decode cX6_homeRegion 35 = .ok (.istore_n 1, 1) := by decide +kernel
theorem dX6_homeRegion_36 : decode cX6_homeRegion 36 = .ok (.iload 4, 2) := by decide +kernel
theorem dX6_homeRegion_38 : decode cX6_homeRegion 38 = .ok (.istore_n 2, 1) := by decide +kernel
theorem dX6_homeRegion_39 : decode cX6_homeRegion 39 = .ok (.iinc 3 1, 3) := by decide +kernel
theorem dX6_homeRegion_42 : decode cX6_homeRegion 42 = .ok (.goto (-36), 3) := by decide +kernel
theorem dX6_homeRegion_45 : decode cX6_homeRegion 45 = .ok (.iload_n 1, 1) := by decide +kernel
theorem dX6_homeRegion_46 : decode cX6_homeRegion 46 = .ok (.ireturn, 1) := by decide +kernel
theorem dX6_readOn_0 : decode cX6_readOn 0 = .ok (.aload_n 0, 1) := by decide +kernel
theorem dX6_readOn_1 : decode cX6_readOn 1 = .ok (.getfield 26, 3) := by decide +kernel
theorem dX6_readOn_4 : decode cX6_readOn 4 = .ok (.iconst 0, 1) := by decide +kernel
theorem dX6_readOn_5 : decode cX6_readOn 5 = .ok (.invokestatic 40, 3) := by decide +kernel
theorem dX6_readOn_8 : decode cX6_readOn 8 = .ok (.aload_n 0, 1) := by decide +kernel
theorem dX6_readOn_9 : decode cX6_readOn 9 = .ok (.iload_n 1, 1) := by decide +kernel
theorem dX6_readOn_10 : decode cX6_readOn 10 = .ok (.iload_n 2, 1) := by decide +kernel
theorem dX6_readOn_11 : decode cX6_readOn 11 = .ok (.invokevirtual 69, 3) := by decide +kernel
theorem dX6_readOn_14 : decode cX6_readOn 14 = .ok (.istore_n 3, 1) := by decide +kernel
theorem dX6_readOn_15 : decode cX6_readOn 15 = .ok (.iconst (-1), 1) := by decide +kernel
theorem dX6_readOn_16 : decode cX6_readOn 16 = .ok (.istore 4, 2) := by decide +kernel
theorem dX6_readOn_18 : decode cX6_readOn 18 = .ok (.iload 4, 2) := by decide +kernel
theorem dX6_readOn_20 : decode cX6_readOn 20 = .ok (.bipush 9, 2) := by decide +kernel
theorem dX6_readOn_22 : decode cX6_readOn 22 = .ok (.if_icmp .ge 74, 3) := by decide +kernel
theorem dX6_readOn_25 : decode cX6_readOn 25 = .ok (.iconst 0, 1) := by decide +kernel
theorem dX6_readOn_26 : decode cX6_readOn 26 = .ok (.istore 5, 2) := by decide +kernel
theorem dX6_readOn_28 : decode cX6_readOn 28 = .ok (.iload 5, 2) := by decide +kernel
theorem dX6_readOn_30 : decode cX6_readOn 30 = .ok (.bipush 8, 2) := by decide +kernel
theorem dX6_readOn_32 : decode cX6_readOn 32 = .ok (.if_icmp .ge 58, 3) := by decide +kernel
theorem dX6_readOn_35 : decode cX6_readOn 35 = .ok (.aload_n 0, 1) := by decide +kernel
theorem dX6_readOn_36 : decode cX6_readOn 36 = .ok (.getfield 23, 3) := by decide +kernel
theorem dX6_readOn_39 : decode cX6_readOn 39 = .ok (.iload 4, 2) := by decide +kernel
theorem dX6_readOn_41 : decode cX6_readOn 41 = .ok (.iconst 1, 1) := by decide +kernel
theorem dX6_readOn_42 : decode cX6_readOn 42 = .ok (.iadd, 1) := by decide +kernel
theorem dX6_readOn_43 : decode cX6_readOn 43 = .ok (.iaload, 1) := by decide +kernel
theorem dX6_readOn_44 : decode cX6_readOn 44 = .ok (.ifCond .le 40, 3) := by decide +kernel
theorem dX6_readOn_47 : decode cX6_readOn 47 = .ok (.aload_n 0, 1) := by decide +kernel
theorem dX6_readOn_48 : decode cX6_readOn 48 = .ok (.iload_n 1, 1) := by decide +kernel
theorem dX6_readOn_49 : decode cX6_readOn 49 = .ok (.iload_n 2, 1) := by decide +kernel
theorem dX6_readOn_50 : decode cX6_readOn 50 = .ok (.iload 5, 2) := by decide +kernel
theorem dX6_readOn_52 : decode cX6_readOn 52 = .ok (.invokevirtual 72, 3) := by decide +kernel
theorem dX6_readOn_55 : decode cX6_readOn 55 = .ok (.ifCond .eq 29, 3) := by decide +kernel
theorem dX6_readOn_58 : decode cX6_readOn 58 = .ok (.aload_n 0, 1) := by decide +kernel
theorem dX6_readOn_59 : decode cX6_readOn 59 = .ok (.aload_n 0, 1) := by decide +kernel
theorem dX6_readOn_60 : decode cX6_readOn 60 = .ok (.getfield 32, 3) := by decide +kernel
theorem dX6_readOn_63 : decode cX6_readOn 63 = .ok (.iload 5, 2) := by decide +kernel
theorem dX6_readOn_65 : decode cX6_readOn 65 = .ok (.iload 4, 2) := by decide +kernel
theorem dX6_readOn_67 : decode cX6_readOn 67 = .ok (.invokevirtual 76, 3) := by decide +kernel
theorem dX6_readOn_70 : decode cX6_readOn 70 = .ok (.iload_n 3, 1) := by decide +kernel
theorem dX6_readOn_71 : decode cX6_readOn 71 = .ok (.iand, 1) := by decide +kernel
theorem dX6_readOn_72 : decode cX6_readOn 72 = .ok (.aload_n 0, 1) := by decide +kernel
theorem dX6_readOn_73 : decode cX6_readOn 73 = .ok (.getfield 23, 3) := by decide +kernel
theorem dX6_readOn_76 : decode cX6_readOn 76 = .ok (.iload 4, 2) := by decide +kernel
theorem dX6_readOn_78 : decode cX6_readOn 78 = .ok (.iconst 1, 1) := by decide +kernel
theorem dX6_readOn_79 : decode cX6_readOn 79 = .ok (.iadd, 1) := by decide +kernel
theorem dX6_readOn_80 : decode cX6_readOn 80 = .ok (.iaload, 1) := by decide +kernel
theorem dX6_readOn_81 : decode cX6_readOn 81 = .ok (.invokevirtual 81, 3) := by decide +kernel
theorem dX6_readOn_84 : decode cX6_readOn 84 = .ok (.iinc 5 1, 3) := by decide +kernel
theorem dX6_readOn_87 : decode cX6_readOn 87 = .ok (.goto (-59), 3) := by decide +kernel
theorem dX6_readOn_90 : decode cX6_readOn 90 = .ok (.iinc 4 1, 3) := by decide +kernel
theorem dX6_readOn_93 : decode cX6_readOn 93 = .ok (.goto (-75), 3) := by decide +kernel
theorem dX6_readOn_96 : decode cX6_readOn 96 = .ok (.aload_n 0, 1) := by decide +kernel
theorem dX6_readOn_97 : decode cX6_readOn 97 = .ok (.getfield 26, 3) := by decide +kernel
theorem dX6_readOn_100 : decode cX6_readOn 100 = .ok (.iconst 0, 1) := by decide +kernel
theorem dX6_readOn_101 : decode cX6_readOn 101 = .ok (.aload_n 0, 1) := by decide +kernel
theorem dX6_readOn_102 : decode cX6_readOn 102 = .ok (.getfield 23, 3) := by decide +kernel
theorem dX6_readOn_105 : decode cX6_readOn 105 = .ok (.iconst 0, 1) := by decide +kernel
theorem dX6_readOn_106 : decode cX6_readOn 106 = .ok (.bipush 10, 2) := by decide +kernel
theorem dX6_readOn_108 : decode cX6_readOn 108 = .ok (.invokestatic 84, 3) := by decide +kernel
theorem dX6_readOn_111 : decode cX6_readOn 111 = .ok (.return_, 1) := by decide +kernel
theorem dX6_addRows_0 : decode cX6_addRows 0 = .ok (.iconst 0, 1) := by decide +kernel
theorem dX6_addRows_1 : decode cX6_addRows 1 = .ok (.istore_n 3, 1) := by decide +kernel
theorem dX6_addRows_2 : decode cX6_addRows 2 = .ok (.iload_n 3, 1) := by decide +kernel
theorem dX6_addRows_3 : decode cX6_addRows 3 = .ok (.bipush 9, 2) := by decide +kernel
theorem dX6_addRows_5 : decode cX6_addRows 5 = .ok (.if_icmp .ge 40, 3) := by decide +kernel
theorem dX6_addRows_8 : decode cX6_addRows 8 = .ok (.iload_n 1, 1) := by decide +kernel
theorem dX6_addRows_9 : decode cX6_addRows 9 = .ok (.iload_n 3, 1) := by decide +kernel
theorem dX6_addRows_10 : decode cX6_addRows 10 = .ok (.invokestatic 90, 3) := by decide +kernel
theorem dX6_addRows_13 : decode cX6_addRows 13 = .ok (.ifCond .eq 26, 3) := by decide +kernel
theorem dX6_addRows_16 : decode cX6_addRows 16 = .ok (.aload_n 0, 1) := by decide +kernel
theorem dX6_addRows_17 : decode cX6_addRows 17 = .ok (.getfield 26, 3) := by decide +kernel
theorem dX6_addRows_20 : decode cX6_addRows 20 = .ok (.iload_n 3, 1) := by decide +kernel
theorem dX6_addRows_21 : decode cX6_addRows 21 = .ok (.iconst 1, 1) := by decide +kernel
theorem dX6_addRows_22 : decode cX6_addRows 22 = .ok (.iadd, 1) := by decide +kernel
theorem dX6_addRows_23 : decode cX6_addRows 23 = .ok (.ldc 50, 2) := by decide +kernel
theorem dX6_addRows_25 : decode cX6_addRows 25 = .ok (.aload_n 0, 1) := by decide +kernel
theorem dX6_addRows_26 : decode cX6_addRows 26 = .ok (.getfield 26, 3) := by decide +kernel
theorem dX6_addRows_29 : decode cX6_addRows 29 = .ok (.iload_n 3, 1) := by decide +kernel
theorem dX6_addRows_30 : decode cX6_addRows 30 = .ok (.iconst 1, 1) := by decide +kernel
theorem dX6_addRows_31 : decode cX6_addRows 31 = .ok (.iadd, 1) := by decide +kernel
theorem dX6_addRows_32 : decode cX6_addRows 32 = .ok (.iaload, 1) := by decide +kernel
theorem dX6_addRows_33 : decode cX6_addRows 33 = .ok (.iload_n 2, 1) := by decide +kernel
theorem dX6_addRows_34 : decode cX6_addRows 34 = .ok (.iadd, 1) := by decide +kernel
theorem dX6_addRows_35 : decode cX6_addRows 35 = .ok (.invokestatic 51, 3) := by decide +kernel
theorem dX6_addRows_38 : decode cX6_addRows 38 = .ok (.iastore, 1) := by decide +kernel
theorem dX6_addRows_39 : decode cX6_addRows 39 = .ok (.iinc 3 1, 3) := by decide +kernel
theorem dX6_addRows_42 : decode cX6_addRows 42 = .ok (.goto (-40), 3) := by decide +kernel
theorem dX6_addRows_45 : decode cX6_addRows 45 = .ok (.return_, 1) := by decide +kernel
theorem dX6_hasHead_0 : decode cX6_hasHead 0 = .ok (.aload_n 0, 1) := by decide +kernel
theorem dX6_hasHead_1 : decode cX6_hasHead 1 = .ok (.getfield 11, 3) := by decide +kernel
theorem dX6_hasHead_4 : decode cX6_hasHead 4 = .ok (.iload_n 1, 1) := by decide +kernel
theorem dX6_hasHead_5 : decode cX6_hasHead 5 = .ok (.aaload, 1) := by decide +kernel
theorem dX6_hasHead_6 : decode cX6_hasHead 6 = .ok (.iload_n 3, 1) := by decide +kernel
theorem dX6_hasHead_7 : decode cX6_hasHead 7 = .ok (.iaload, 1) := by decide +kernel
theorem dX6_hasHead_8 : decode cX6_hasHead 8 = .ok (.aload_n 0, 1) := by decide +kernel
theorem dX6_hasHead_9 : decode cX6_hasHead 9 = .ok (.getfield 19, 3) := by decide +kernel
theorem dX6_hasHead_12 : decode cX6_hasHead 12 = .ok (.iload_n 2, 1) := by decide +kernel
theorem dX6_hasHead_13 : decode cX6_hasHead 13 = .ok (.iaload, 1) := by decide +kernel
theorem dX6_hasHead_14 : decode cX6_hasHead 14 = .ok (.iconst 4, 1) := by decide +kernel
theorem dX6_hasHead_15 : decode cX6_hasHead 15 = .ok (.idiv, 1) := by decide +kernel
theorem dX6_hasHead_16 : decode cX6_hasHead 16 = .ok (.if_icmp .ne 7, 3) := by decide +kernel
theorem dX6_hasHead_19 : decode cX6_hasHead 19 = .ok (.iconst 1, 1) := by decide +kernel
theorem dX6_hasHead_20 : decode cX6_hasHead 20 = .ok (.goto 4, 3) := by decide +kernel
theorem dX6_hasHead_23 : decode cX6_hasHead 23 = .ok (.iconst 0, 1) := by decide +kernel
theorem dX6_hasHead_24 : decode cX6_hasHead 24 = .ok (.ireturn, 1) := by decide +kernel
theorem dX6_notesFor_0 : decode cX6_notesFor 0 = .ok (.iconst 0, 1) := by decide +kernel
theorem dX6_notesFor_1 : decode cX6_notesFor 1 = .ok (.istore_n 3, 1) := by decide +kernel
theorem dX6_notesFor_2 : decode cX6_notesFor 2 = .ok (.iconst 0, 1) := by decide +kernel
theorem dX6_notesFor_3 : decode cX6_notesFor 3 = .ok (.istore 4, 2) := by decide +kernel
theorem dX6_notesFor_5 : decode cX6_notesFor 5 = .ok (.iload 4, 2) := by decide +kernel
theorem dX6_notesFor_7 : decode cX6_notesFor 7 = .ok (.bipush 9, 2) := by decide +kernel
theorem dX6_notesFor_9 : decode cX6_notesFor 9 = .ok (.if_icmp .ge 36, 3) := by decide +kernel
theorem dX6_notesFor_12 : decode cX6_notesFor 12 = .ok (.aload_n 0, 1) := by decide +kernel
theorem dX6_notesFor_13 : decode cX6_notesFor 13 = .ok (.getfield 16, 3) := by decide +kernel
theorem dX6_notesFor_16 : decode cX6_notesFor 16 = .ok (.iload_n 1, 1) := by decide +kernel
theorem dX6_notesFor_17 : decode cX6_notesFor 17 = .ok (.aaload, 1) := by decide +kernel
theorem dX6_notesFor_18 : decode cX6_notesFor 18 = .ok (.iload 4, 2) := by decide +kernel
theorem dX6_notesFor_20 : decode cX6_notesFor 20 = .ok (.iaload, 1) := by decide +kernel
theorem dX6_notesFor_21 : decode cX6_notesFor 21 = .ok (.aload_n 0, 1) := by decide +kernel
theorem dX6_notesFor_22 : decode cX6_notesFor 22 = .ok (.getfield 19, 3) := by decide +kernel
theorem dX6_notesFor_25 : decode cX6_notesFor 25 = .ok (.iload_n 2, 1) := by decide +kernel
theorem dX6_notesFor_26 : decode cX6_notesFor 26 = .ok (.iaload, 1) := by decide +kernel
theorem dX6_notesFor_27 : decode cX6_notesFor 27 = .ok (.iconst 4, 1) := by decide +kernel
theorem dX6_notesFor_28 : decode cX6_notesFor 28 = .ok (.irem, 1) := by decide +kernel
theorem dX6_notesFor_29 : decode cX6_notesFor 29 = .ok (.if_icmp .ne 10, 3) := by decide +kernel
theorem dX6_notesFor_32 : decode cX6_notesFor 32 = .ok (.iload_n 3, 1) := by decide +kernel
theorem dX6_notesFor_33 : decode cX6_notesFor 33 = .ok (.iconst 1, 1) := by decide +kernel
theorem dX6_notesFor_34 : decode cX6_notesFor 34 = .ok (.iload 4, 2) := by decide +kernel
theorem dX6_notesFor_36 : decode cX6_notesFor 36 = .ok (.ishl, 1) := by decide +kernel
theorem dX6_notesFor_37 : decode cX6_notesFor 37 = .ok (.ior, 1) := by decide +kernel
theorem dX6_notesFor_38 : decode cX6_notesFor 38 = .ok (.istore_n 3, 1) := by decide +kernel
theorem dX6_notesFor_39 : decode cX6_notesFor 39 = .ok (.iinc 4 1, 3) := by decide +kernel
theorem dX6_notesFor_42 : decode cX6_notesFor 42 = .ok (.goto (-37), 3) := by decide +kernel
theorem dX6_notesFor_45 : decode cX6_notesFor 45 = .ok (.iload_n 3, 1) := by decide +kernel
theorem dX6_notesFor_46 : decode cX6_notesFor 46 = .ok (.ireturn, 1) := by decide +kernel
theorem dX6_markOpen_0 : decode cX6_markOpen 0 = .ok (.aload_n 0, 1) := by decide +kernel
theorem dX6_markOpen_1 : decode cX6_markOpen 1 = .ok (.getfield 36, 3) := by decide +kernel
theorem dX6_markOpen_4 : decode cX6_markOpen 4 = .ok (.iconst 1, 1) := by decide +kernel
theorem dX6_markOpen_5 : decode cX6_markOpen 5 = .ok (.isub, 1) := by decide +kernel
theorem dX6_markOpen_6 : decode cX6_markOpen 6 = .ok (.istore_n 2, 1) := by decide +kernel
theorem dX6_markOpen_7 : decode cX6_markOpen 7 = .ok (.iload_n 2, 1) := by decide +kernel
theorem dX6_markOpen_8 : decode cX6_markOpen 8 = .ok (.ifCond .lt 43, 3) := by decide +kernel
theorem dX6_markOpen_11 : decode cX6_markOpen 11 = .ok (.aload_n 0, 1) := by decide +kernel
theorem dX6_markOpen_12 : decode cX6_markOpen 12 = .ok (.iload_n 1, 1) := by decide +kernel
theorem dX6_markOpen_13 : decode cX6_markOpen 13 = .ok (.iload_n 2, 1) := by decide +kernel
theorem dX6_markOpen_14 : decode cX6_markOpen 14 = .ok (.invokevirtual 69, 3) := by decide +kernel
theorem dX6_markOpen_17 : decode cX6_markOpen 17 = .ok (.istore_n 3, 1) := by decide +kernel
theorem dX6_markOpen_18 : decode cX6_markOpen 18 = .ok (.aload_n 0, 1) := by decide +kernel
theorem dX6_markOpen_19 : decode cX6_markOpen 19 = .ok (.getfield 29, 3) := by decide +kernel
theorem dX6_markOpen_22 : decode cX6_markOpen 22 = .ok (.iload_n 2, 1) := by decide +kernel
theorem dX6_markOpen_23 : decode cX6_markOpen 23 = .ok (.iload_n 2, 1) := by decide +kernel
theorem dX6_markOpen_24 : decode cX6_markOpen 24 = .ok (.aload_n 0, 1) := by decide +kernel
theorem dX6_markOpen_25 : decode cX6_markOpen 25 = .ok (.getfield 36, 3) := by decide +kernel
theorem dX6_markOpen_28 : decode cX6_markOpen 28 = .ok (.iconst 1, 1) := by decide +kernel
theorem dX6_markOpen_29 : decode cX6_markOpen 29 = .ok (.isub, 1) := by decide +kernel
theorem dX6_markOpen_30 : decode cX6_markOpen 30 = .ok (.if_icmp .ne 7, 3) := by decide +kernel
theorem dX6_markOpen_33 : decode cX6_markOpen 33 = .ok (.iload_n 3, 1) := by decide +kernel
theorem dX6_markOpen_34 : decode cX6_markOpen 34 = .ok (.goto 10, 3) := by decide +kernel
theorem dX6_markOpen_37 : decode cX6_markOpen 37 = .ok (.aload_n 0, 1) := by decide +kernel
theorem dX6_markOpen_38 : decode cX6_markOpen 38 = .ok (.iload_n 1, 1) := by decide +kernel
theorem dX6_markOpen_39 : decode cX6_markOpen 39 = .ok (.iload_n 2, 1) := by decide +kernel
theorem dX6_markOpen_40 : decode cX6_markOpen 40 = .ok (.iload_n 3, 1) := by decide +kernel
theorem dX6_markOpen_41 : decode cX6_markOpen 41 = .ok (.invokevirtual 94, 3) := by decide +kernel
theorem dX6_markOpen_44 : decode cX6_markOpen 44 = .ok (.iastore, 1) := by decide +kernel
theorem dX6_markOpen_45 : decode cX6_markOpen 45 = .ok (.iinc 2 (-1), 3) := by decide +kernel
theorem dX6_markOpen_48 : decode cX6_markOpen 48 = .ok (.goto (-41), 3) := by decide +kernel
theorem dX6_markOpen_51 : decode cX6_markOpen 51 = .ok (.return_, 1) := by decide +kernel
theorem dX6_openAmong_0 : decode cX6_openAmong 0 = .ok (.iconst 0, 1) := by decide +kernel
theorem dX6_openAmong_1 : decode cX6_openAmong 1 = .ok (.istore 4, 2) := by decide +kernel
theorem dX6_openAmong_3 : decode cX6_openAmong 3 = .ok (.iconst 0, 1) := by decide +kernel
theorem dX6_openAmong_4 : decode cX6_openAmong 4 = .ok (.istore 5, 2) := by decide +kernel
theorem dX6_openAmong_6 : decode cX6_openAmong 6 = .ok (.iload 5, 2) := by decide +kernel
theorem dX6_openAmong_8 : decode cX6_openAmong 8 = .ok (.bipush 9, 2) := by decide +kernel
theorem dX6_openAmong_10 : decode cX6_openAmong 10 = .ok (.if_icmp .ge 40, 3) := by decide +kernel
theorem dX6_openAmong_13 : decode cX6_openAmong 13 = .ok (.iload_n 3, 1) := by decide +kernel
theorem dX6_openAmong_14 : decode cX6_openAmong 14 = .ok (.iload 5, 2) := by decide +kernel
theorem dX6_openAmong_16 : decode cX6_openAmong 16 = .ok (.invokestatic 90, 3) := by decide +kernel
theorem dX6_openAmong_19 : decode cX6_openAmong 19 = .ok (.ifCond .eq 25, 3) := by decide +kernel
theorem dX6_openAmong_22 : decode cX6_openAmong 22 = .ok (.aload_n 0, 1) := by decide +kernel
theorem dX6_openAmong_23 : decode cX6_openAmong 23 = .ok (.iload_n 1, 1) := by decide +kernel
theorem dX6_openAmong_24 : decode cX6_openAmong 24 = .ok (.iload_n 2, 1) := by decide +kernel
theorem dX6_openAmong_25 : decode cX6_openAmong 25 = .ok (.iconst 1, 1) := by decide +kernel
theorem dX6_openAmong_26 : decode cX6_openAmong 26 = .ok (.iadd, 1) := by decide +kernel
theorem dX6_openAmong_27 : decode cX6_openAmong 27 = .ok (.iload 5, 2) := by decide +kernel
theorem dX6_openAmong_29 : decode cX6_openAmong 29 = .ok (.invokevirtual 97, 3) := by decide +kernel
theorem dX6_openAmong_32 : decode cX6_openAmong 32 = .ok (.ifCond .eq 12, 3) := by decide +kernel
theorem dX6_openAmong_35 : decode cX6_openAmong 35 = .ok (.iload 4, 2) := by decide +kernel
theorem dX6_openAmong_37 : decode cX6_openAmong 37 = .ok (.iconst 1, 1) := by decide +kernel
theorem dX6_openAmong_38 : decode cX6_openAmong 38 = .ok (.iload 5, 2) := by decide +kernel
theorem dX6_openAmong_40 : decode cX6_openAmong 40 = .ok (.ishl, 1) := by decide +kernel
theorem dX6_openAmong_41 : decode cX6_openAmong 41 = .ok (.ior, 1) := by decide +kernel
theorem dX6_openAmong_42 : decode cX6_openAmong 42 = .ok (.istore 4, 2) := by decide +kernel
theorem dX6_openAmong_44 : decode cX6_openAmong 44 = .ok (.iinc 5 1, 3) := by decide +kernel
theorem dX6_openAmong_47 : decode cX6_openAmong 47 = .ok (.goto (-41), 3) := by decide +kernel
theorem dX6_openAmong_50 : decode cX6_openAmong 50 = .ok (.iload 4, 2) := by decide +kernel
theorem dX6_openAmong_52 : decode cX6_openAmong 52 = .ok (.ireturn, 1) := by decide +kernel
theorem dX6_goesOn_0 : decode cX6_goesOn 0 = .ok (.iconst 0, 1) := by decide +kernel
theorem dX6_goesOn_1 : decode cX6_goesOn 1 = .ok (.istore 4, 2) := by decide +kernel
theorem dX6_goesOn_3 : decode cX6_goesOn 3 = .ok (.iload 4, 2) := by decide +kernel
theorem dX6_goesOn_5 : decode cX6_goesOn 5 = .ok (.bipush 8, 2) := by decide +kernel
theorem dX6_goesOn_7 : decode cX6_goesOn 7 = .ok (.if_icmp .ge 42, 3) := by decide +kernel
theorem dX6_goesOn_10 : decode cX6_goesOn 10 = .ok (.aload_n 0, 1) := by decide +kernel
theorem dX6_goesOn_11 : decode cX6_goesOn 11 = .ok (.iload_n 1, 1) := by decide +kernel
theorem dX6_goesOn_12 : decode cX6_goesOn 12 = .ok (.iload_n 2, 1) := by decide +kernel
theorem dX6_goesOn_13 : decode cX6_goesOn 13 = .ok (.iload 4, 2) := by decide +kernel
theorem dX6_goesOn_15 : decode cX6_goesOn 15 = .ok (.invokevirtual 72, 3) := by decide +kernel
theorem dX6_goesOn_18 : decode cX6_goesOn 18 = .ok (.ifCond .eq 25, 3) := by decide +kernel
theorem dX6_goesOn_21 : decode cX6_goesOn 21 = .ok (.aload_n 0, 1) := by decide +kernel
theorem dX6_goesOn_22 : decode cX6_goesOn 22 = .ok (.getfield 32, 3) := by decide +kernel
theorem dX6_goesOn_25 : decode cX6_goesOn 25 = .ok (.iload 4, 2) := by decide +kernel
theorem dX6_goesOn_27 : decode cX6_goesOn 27 = .ok (.iload_n 3, 1) := by decide +kernel
theorem dX6_goesOn_28 : decode cX6_goesOn 28 = .ok (.invokevirtual 76, 3) := by decide +kernel
theorem dX6_goesOn_31 : decode cX6_goesOn 31 = .ok (.aload_n 0, 1) := by decide +kernel
theorem dX6_goesOn_32 : decode cX6_goesOn 32 = .ok (.getfield 29, 3) := by decide +kernel
theorem dX6_goesOn_35 : decode cX6_goesOn 35 = .ok (.iload_n 2, 1) := by decide +kernel
theorem dX6_goesOn_36 : decode cX6_goesOn 36 = .ok (.iaload, 1) := by decide +kernel
theorem dX6_goesOn_37 : decode cX6_goesOn 37 = .ok (.iand, 1) := by decide +kernel
theorem dX6_goesOn_38 : decode cX6_goesOn 38 = .ok (.ifCond .eq 5, 3) := by decide +kernel
theorem dX6_goesOn_41 : decode cX6_goesOn 41 = .ok (.iconst 1, 1) := by decide +kernel
theorem dX6_goesOn_42 : decode cX6_goesOn 42 = .ok (.ireturn, 1) := by decide +kernel
theorem dX6_goesOn_43 : decode cX6_goesOn 43 = .ok (.iinc 4 1, 3) := by decide +kernel
theorem dX6_goesOn_46 : decode cX6_goesOn 46 = .ok (.goto (-43), 3) := by decide +kernel
theorem dX6_goesOn_49 : decode cX6_goesOn 49 = .ok (.iconst 0, 1) := by decide +kernel
theorem dX6_goesOn_50 : decode cX6_goesOn 50 = .ok (.ireturn, 1) := by decide +kernel
theorem dX6_firstStep_0 : decode cX6_firstStep 0 = .ok (.iconst 0, 1) := by decide +kernel
theorem dX6_firstStep_1 : decode cX6_firstStep 1 = .ok (.istore 4, 2) := by decide +kernel
theorem dX6_firstStep_3 : decode cX6_firstStep 3 = .ok (.iload 4, 2) := by decide +kernel
theorem dX6_firstStep_5 : decode cX6_firstStep 5 = .ok (.bipush 9, 2) := by decide +kernel
theorem dX6_firstStep_7 : decode cX6_firstStep 7 = .ok (.if_icmp .ge 74, 3) := by decide +kernel
theorem dX6_firstStep_10 : decode cX6_firstStep 10 = .ok (.iconst 0, 1) := by decide +kernel
theorem dX6_firstStep_11 : decode cX6_firstStep 11 = .ok (.istore 5, 2) := by decide +kernel
theorem dX6_firstStep_13 : decode cX6_firstStep 13 = .ok (.iload 5, 2) := by decide +kernel
theorem dX6_firstStep_15 : decode cX6_firstStep 15 = .ok (.bipush 8, 2) := by decide +kernel
theorem dX6_firstStep_17 : decode cX6_firstStep 17 = .ok (.if_icmp .ge 58, 3) := by decide +kernel
theorem dX6_firstStep_20 : decode cX6_firstStep 20 = .ok (.aload_n 0, 1) := by decide +kernel
theorem dX6_firstStep_21 : decode cX6_firstStep 21 = .ok (.getfield 29, 3) := by decide +kernel
theorem dX6_firstStep_24 : decode cX6_firstStep 24 = .ok (.iload_n 2, 1) := by decide +kernel
theorem dX6_firstStep_25 : decode cX6_firstStep 25 = .ok (.iaload, 1) := by decide +kernel
theorem dX6_firstStep_26 : decode cX6_firstStep 26 = .ok (.iload 4, 2) := by decide +kernel
theorem dX6_firstStep_28 : decode cX6_firstStep 28 = .ok (.invokestatic 90, 3) := by decide +kernel
theorem dX6_firstStep_31 : decode cX6_firstStep 31 = .ok (.ifCond .eq 38, 3) := by decide +kernel
theorem dX6_firstStep_34 : decode cX6_firstStep 34 = .ok (.aload_n 0, 1) := by decide +kernel
theorem dX6_firstStep_35 : decode cX6_firstStep 35 = .ok (.iload_n 1, 1) := by decide +kernel
theorem dX6_firstStep_36 : decode cX6_firstStep 36 = .ok (.iload_n 2, 1) := by decide +kernel
theorem dX6_firstStep_37 : decode cX6_firstStep 37 = .ok (.iload 5, 2) := by decide +kernel
theorem dX6_firstStep_39 : decode cX6_firstStep 39 = .ok (.invokevirtual 72, 3) := by decide +kernel
theorem dX6_firstStep_42 : decode cX6_firstStep 42 = .ok (.ifCond .eq 27, 3) := by decide +kernel
theorem dX6_firstStep_45 : decode cX6_firstStep 45 = .ok (.aload_n 0, 1) := by decide +kernel
theorem dX6_firstStep_46 : decode cX6_firstStep 46 = .ok (.getfield 32, 3) := by decide +kernel
theorem dX6_firstStep_49 : decode cX6_firstStep 49 = .ok (.iload 5, 2) := by decide +kernel
theorem dX6_firstStep_51 : decode cX6_firstStep 51 = .ok (.iload_n 3, 1) := by decide +kernel
theorem dX6_firstStep_52 : decode cX6_firstStep 52 = .ok (.iload 4, 2) := by decide +kernel
theorem dX6_firstStep_54 : decode cX6_firstStep 54 = .ok (.invokevirtual 100, 3) := by decide +kernel
theorem dX6_firstStep_57 : decode cX6_firstStep 57 = .ok (.ifCond .eq 12, 3) := by decide +kernel
theorem dX6_firstStep_60 : decode cX6_firstStep 60 = .ok (.bipush 16, 2) := by decide +kernel
theorem dX6_firstStep_62 : decode cX6_firstStep 62 = .ok (.iload 4, 2) := by decide +kernel
theorem dX6_firstStep_64 : decode cX6_firstStep 64 = .ok (.imul, 1) := by decide +kernel
theorem dX6_firstStep_65 : decode cX6_firstStep 65 = .ok (.iload 5, 2) := by decide +kernel
theorem dX6_firstStep_67 : decode cX6_firstStep 67 = .ok (.iadd, 1) := by decide +kernel
theorem dX6_firstStep_68 : decode cX6_firstStep 68 = .ok (.ireturn, 1) := by decide +kernel
theorem dX6_firstStep_69 : decode cX6_firstStep 69 = .ok (.iinc 5 1, 3) := by decide +kernel
theorem dX6_firstStep_72 : decode cX6_firstStep 72 = .ok (.goto (-59), 3) := by decide +kernel
theorem dX6_firstStep_75 : decode cX6_firstStep 75 = .ok (.iinc 4 1, 3) := by decide +kernel
theorem dX6_firstStep_78 : decode cX6_firstStep 78 = .ok (.goto (-75), 3) := by decide +kernel
theorem dX6_firstStep_81 : decode cX6_firstStep 81 = .ok (.iconst (-1), 1) := by decide +kernel
theorem dX6_firstStep_82 : decode cX6_firstStep 82 = .ok (.ireturn, 1) := by decide +kernel
theorem dX7_init_0 : decode cX7_init 0 = .ok (.aload_n 0, 1) := by decide +kernel
theorem dX7_init_1 : decode cX7_init 1 = .ok (.invokespecial 3, 3) := by decide +kernel
theorem dX7_init_4 : decode cX7_init 4 = .ok (.aload_n 0, 1) := by decide +kernel
theorem dX7_init_5 : decode cX7_init 5 = .ok (.bipush 24, 2) := by decide +kernel
theorem dX7_init_7 : decode cX7_init 7 = .ok (.newarray .int, 2) := by decide +kernel
theorem dX7_init_9 : decode cX7_init 9 = .ok (.putfield 9, 3) := by decide +kernel
theorem dX7_init_12 : decode cX7_init 12 = .ok (.aload_n 0, 1) := by decide +kernel
theorem dX7_init_13 : decode cX7_init 13 = .ok (.bipush 24, 2) := by decide +kernel
theorem dX7_init_15 : decode cX7_init 15 = .ok (.newarray .int, 2) := by decide +kernel
theorem dX7_init_17 : decode cX7_init 17 = .ok (.putfield 15, 3) := by decide +kernel
theorem dX7_init_20 : decode cX7_init 20 = .ok (.aload_n 0, 1) := by decide +kernel
theorem dX7_init_21 : decode cX7_init 21 = .ok (.bipush 24, 2) := by decide +kernel
theorem dX7_init_23 : decode cX7_init 23 = .ok (.newarray .int, 2) := by decide +kernel
theorem dX7_init_25 : decode cX7_init 25 = .ok (.putfield 18, 3) := by decide +kernel
theorem dX7_init_28 : decode cX7_init 28 = .ok (.aload_n 0, 1) := by decide +kernel
theorem dX7_init_29 : decode cX7_init 29 = .ok (.aload_n 1, 1) := by decide +kernel
theorem dX7_init_30 : decode cX7_init 30 = .ok (.putfield 21, 3) := by decide +kernel
theorem dX7_init_33 : decode cX7_init 33 = .ok (.return_, 1) := by decide +kernel
theorem dX7_append_0 : decode cX7_append 0 = .ok (.aload_n 0, 1) := by decide +kernel
theorem dX7_append_1 : decode cX7_append 1 = .ok (.getfield 9, 3) := by decide +kernel
theorem dX7_append_4 : decode cX7_append 4 = .ok (.aload_n 0, 1) := by decide +kernel
theorem dX7_append_5 : decode cX7_append 5 = .ok (.getfield 25, 3) := by decide +kernel
theorem dX7_append_8 : decode cX7_append 8 = .ok (.iload_n 1, 1) := by decide +kernel
theorem dX7_append_9 : decode cX7_append 9 = .ok (.iastore, 1) := by decide +kernel
theorem dX7_append_10 : decode cX7_append 10 = .ok (.aload_n 0, 1) := by decide +kernel
theorem dX7_append_11 : decode cX7_append 11 = .ok (.getfield 15, 3) := by decide +kernel
theorem dX7_append_14 : decode cX7_append 14 = .ok (.aload_n 0, 1) := by decide +kernel
theorem dX7_append_15 : decode cX7_append 15 = .ok (.getfield 25, 3) := by decide +kernel
theorem dX7_append_18 : decode cX7_append 18 = .ok (.iload_n 2, 1) := by decide +kernel
theorem dX7_append_19 : decode cX7_append 19 = .ok (.iastore, 1) := by decide +kernel
theorem dX7_append_20 : decode cX7_append 20 = .ok (.aload_n 0, 1) := by decide +kernel
theorem dX7_append_21 : decode cX7_append 21 = .ok (.getfield 18, 3) := by decide +kernel
theorem dX7_append_24 : decode cX7_append 24 = .ok (.aload_n 0, 1) := by decide +kernel
theorem dX7_append_25 : decode cX7_append 25 = .ok (.getfield 25, 3) := by decide +kernel
theorem dX7_append_28 : decode cX7_append 28 = .ok (.iload_n 3, 1) := by decide +kernel
theorem dX7_append_29 : decode cX7_append 29 = .ok (.iastore, 1) := by decide +kernel
theorem dX7_append_30 : decode cX7_append 30 = .ok (.aload_n 0, 1) := by decide +kernel
theorem dX7_append_31 : decode cX7_append 31 = .ok (.dup, 1) := by decide +kernel
theorem dX7_append_32 : decode cX7_append 32 = .ok (.getfield 25, 3) := by decide +kernel
theorem dX7_append_35 : decode cX7_append 35 = .ok (.iconst 1, 1) := by decide +kernel
theorem dX7_append_36 : decode cX7_append 36 = .ok (.iadd, 1) := by decide +kernel
theorem dX7_append_37 : decode cX7_append 37 = .ok (.putfield 25, 3) := by decide +kernel
theorem dX7_append_40 : decode cX7_append 40 = .ok (.aload_n 0, 1) := by decide +kernel
theorem dX7_append_41 : decode cX7_append 41 = .ok (.getfield 25, 3) := by decide +kernel
theorem dX7_append_44 : decode cX7_append 44 = .ok (.ireturn, 1) := by decide +kernel
theorem dX7_lostOnes_0 : decode cX7_lostOnes 0 = .ok (.iconst 0, 1) := by decide +kernel
theorem dX7_lostOnes_1 : decode cX7_lostOnes 1 = .ok (.istore_n 1, 1) := by decide +kernel
theorem dX7_lostOnes_2 : decode cX7_lostOnes 2 = .ok (.iconst 0, 1) := by decide +kernel
theorem dX7_lostOnes_3 : decode cX7_lostOnes 3 = .ok (.istore_n 2, 1) := by decide +kernel
theorem dX7_lostOnes_4 : decode cX7_lostOnes 4 = .ok (.iload_n 2, 1) := by decide +kernel
theorem dX7_lostOnes_5 : decode cX7_lostOnes 5 = .ok (.aload_n 0, 1) := by decide +kernel
theorem dX7_lostOnes_6 : decode cX7_lostOnes 6 = .ok (.getfield 25, 3) := by decide +kernel
theorem dX7_lostOnes_9 : decode cX7_lostOnes 9 = .ok (.if_icmp .ge 22, 3) := by decide +kernel
theorem dX7_lostOnes_12 : decode cX7_lostOnes 12 = .ok (.aload_n 0, 1) := by decide +kernel
theorem dX7_lostOnes_13 : decode cX7_lostOnes 13 = .ok (.getfield 18, 3) := by decide +kernel
theorem dX7_lostOnes_16 : decode cX7_lostOnes 16 = .ok (.iload_n 2, 1) := by decide +kernel
theorem dX7_lostOnes_17 : decode cX7_lostOnes 17 = .ok (.iaload, 1) := by decide +kernel
theorem dX7_lostOnes_18 : decode cX7_lostOnes 18 = .ok (.iconst (-1), 1) := by decide +kernel
theorem dX7_lostOnes_19 : decode cX7_lostOnes 19 = .ok (.if_icmp .ne 6, 3) := by decide +kernel
theorem dX7_lostOnes_22 : decode cX7_lostOnes 22 = .ok (.iinc 1 1, 3) := by decide +kernel
theorem dX7_lostOnes_25 : decode cX7_lostOnes 25 = .ok (.iinc 2 1, 3) := by decide +kernel
theorem dX7_lostOnes_28 : decode cX7_lostOnes 28 = .ok (.goto (-24), 3) := by decide +kernel
theorem dX7_lostOnes_31 : decode cX7_lostOnes 31 = .ok (.iload_n 1, 1) := by decide +kernel
theorem dX7_lostOnes_32 : decode cX7_lostOnes 32 = .ok (.ireturn, 1) := by decide +kernel
theorem dX7_firstWrong_0 : decode cX7_firstWrong 0 = .ok (.iconst 0, 1) := by decide +kernel
theorem dX7_firstWrong_1 : decode cX7_firstWrong 1 = .ok (.istore_n 1, 1) := by decide +kernel
theorem dX7_firstWrong_2 : decode cX7_firstWrong 2 = .ok (.iload_n 1, 1) := by decide +kernel
theorem dX7_firstWrong_3 : decode cX7_firstWrong 3 = .ok (.aload_n 0, 1) := by decide +kernel
theorem dX7_firstWrong_4 : decode cX7_firstWrong 4 = .ok (.getfield 25, 3) := by decide +kernel
theorem dX7_firstWrong_7 : decode cX7_firstWrong 7 = .ok (.if_icmp .ge 35, 3) := by decide +kernel
theorem dX7_firstWrong_10 : decode cX7_firstWrong 10 = .ok (.aload_n 0, 1) := by decide +kernel
theorem dX7_firstWrong_11 : decode cX7_firstWrong 11 = .ok (.getfield 18, 3) := by decide +kernel
theorem dX7_firstWrong_14 : decode cX7_firstWrong 14 = .ok (.iload_n 1, 1) := by decide +kernel
theorem dX7_firstWrong_15 : decode cX7_firstWrong 15 = .ok (.iaload, 1) := by decide +kernel
theorem dX7_firstWrong_16 : decode cX7_firstWrong 16 = .ok (.iconst (-1), 1) := by decide +kernel
theorem dX7_firstWrong_17 : decode cX7_firstWrong 17 = .ok (.if_icmp .eq 19, 3) := by decide +kernel
theorem dX7_firstWrong_20 : decode cX7_firstWrong 20 = .ok (.aload_n 0, 1) := by decide +kernel
theorem dX7_firstWrong_21 : decode cX7_firstWrong 21 = .ok (.iload_n 1, 1) := by decide +kernel
theorem dX7_firstWrong_22 : decode cX7_firstWrong 22 = .ok (.aload_n 0, 1) := by decide +kernel
theorem dX7_firstWrong_23 : decode cX7_firstWrong 23 = .ok (.getfield 18, 3) := by decide +kernel
theorem dX7_firstWrong_26 : decode cX7_firstWrong 26 = .ok (.iload_n 1, 1) := by decide +kernel
theorem dX7_firstWrong_27 : decode cX7_firstWrong 27 = .ok (.iaload, 1) := by decide +kernel
theorem dX7_firstWrong_28 : decode cX7_firstWrong 28 = .ok (.invokevirtual 29, 3) := by decide +kernel
theorem dX7_firstWrong_31 : decode cX7_firstWrong 31 = .ok (.ifCond .ne 5, 3) := by decide +kernel
theorem dX7_firstWrong_34 : decode cX7_firstWrong 34 = .ok (.iload_n 1, 1) := by decide +kernel
theorem dX7_firstWrong_35 : decode cX7_firstWrong 35 = .ok (.ireturn, 1) := by decide +kernel
theorem dX7_firstWrong_36 : decode cX7_firstWrong 36 = .ok (.iinc 1 1, 3) := by decide +kernel
theorem dX7_firstWrong_39 : decode cX7_firstWrong 39 = .ok (.goto (-37), 3) := by decide +kernel
theorem dX7_firstWrong_42 : decode cX7_firstWrong 42 = .ok (.iconst (-1), 1) := by decide +kernel
theorem dX7_firstWrong_43 : decode cX7_firstWrong 43 = .ok (.ireturn, 1) := by decide +kernel
theorem dX7_fillingCount_0 : decode cX7_fillingCount 0 = .ok (.iconst 1, 1) := by decide +kernel
theorem dX7_fillingCount_1 : decode cX7_fillingCount 1 = .ok (.istore_n 1, 1) := by decide +kernel
theorem dX7_fillingCount_2 : decode cX7_fillingCount 2 = .ok (.iconst 0, 1) := by decide +kernel
theorem dX7_fillingCount_3 : decode cX7_fillingCount 3 = .ok (.istore_n 2, 1) := by decide +kernel
theorem dX7_fillingCount_4 : decode cX7_fillingCount 4 = .ok (.iload_n 2, 1) := by decide +kernel
theorem dX7_fillingCount_5 : decode cX7_fillingCount 5 = .ok (.aload_n 0, 1) := by decide +kernel
theorem dX7_fillingCount_6 : decode cX7_fillingCount 6 = .ok (.getfield 25, 3) := by decide +kernel
theorem dX7_fillingCount_9 : decode cX7_fillingCount 9 = .ok (.if_icmp .ge 22, 3) := by decide +kernel
theorem dX7_fillingCount_12 : decode cX7_fillingCount 12 = .ok (.ldc 33, 2) := by decide +kernel
theorem dX7_fillingCount_14 : decode cX7_fillingCount 14 = .ok (.iload_n 1, 1) := by decide +kernel
theorem dX7_fillingCount_15 : decode cX7_fillingCount 15 = .ok (.aload_n 0, 1) := by decide +kernel
theorem dX7_fillingCount_16 : decode cX7_fillingCount 16 = .ok (.iload_n 2, 1) := by decide +kernel
theorem dX7_fillingCount_17 : decode cX7_fillingCount 17 = .ok (.invokevirtual 34, 3) := by decide +kernel
theorem dX7_fillingCount_20 : decode cX7_fillingCount 20 = .ok (.imul, 1) := by decide +kernel
theorem dX7_fillingCount_21 : decode cX7_fillingCount 21 = .ok (.invokestatic 38, 3) := by decide +kernel
theorem dX7_fillingCount_24 : decode cX7_fillingCount 24 = .ok (.istore_n 1, 1) := by decide +kernel
theorem dX7_fillingCount_25 : decode cX7_fillingCount 25 = .ok (.iinc 2 1, 3) := by decide +kernel
theorem dX7_fillingCount_28 : decode cX7_fillingCount 28 = .ok (.goto (-24), 3) := by decide +kernel
theorem dX7_fillingCount_31 : decode cX7_fillingCount 31 = .ok (.iload_n 1, 1) := by decide +kernel
theorem dX7_fillingCount_32 : decode cX7_fillingCount 32 = .ok (.ireturn, 1) := by decide +kernel
theorem dX7_quickestAt_0 : decode cX7_quickestAt 0 = .ok (.aload_n 0, 1) := by decide +kernel
theorem dX7_quickestAt_1 : decode cX7_quickestAt 1 = .ok (.getfield 18, 3) := by decide +kernel
theorem dX7_quickestAt_4 : decode cX7_quickestAt 4 = .ok (.iload_n 1, 1) := by decide +kernel
theorem dX7_quickestAt_5 : decode cX7_quickestAt 5 = .ok (.iaload, 1) := by decide +kernel
theorem dX7_quickestAt_6 : decode cX7_quickestAt 6 = .ok (.iconst (-1), 1) := by decide +kernel
theorem dX7_quickestAt_7 : decode cX7_quickestAt 7 = .ok (.if_icmp .eq 10, 3) := by decide +kernel
theorem dX7_quickestAt_10 : decode cX7_quickestAt 10 = .ok (.aload_n 0, 1) := by decide +kernel
theorem dX7_quickestAt_11 : decode cX7_quickestAt 11 = .ok (.getfield 18, 3) := by decide +kernel
theorem dX7_quickestAt_14 : decode cX7_quickestAt 14 = .ok (.iload_n 1, 1) := by decide +kernel
theorem dX7_quickestAt_15 : decode cX7_quickestAt 15 = .ok (.iaload, 1) := by decide +kernel
theorem dX7_quickestAt_16 : decode cX7_quickestAt 16 = .ok (.ireturn, 1) := by decide +kernel
theorem dX7_quickestAt_17 : decode cX7_quickestAt 17 = .ok (.iconst (-1), 1) := by decide +kernel
theorem dX7_quickestAt_18 : decode cX7_quickestAt 18 = .ok (.istore_n 2, 1) := by decide +kernel
theorem dX7_quickestAt_19 : decode cX7_quickestAt 19 = .ok (.iconst 0, 1) := by decide +kernel
theorem dX7_quickestAt_20 : decode cX7_quickestAt 20 = .ok (.istore_n 3, 1) := by decide +kernel
theorem dX7_quickestAt_21 : decode cX7_quickestAt 21 = .ok (.iload_n 3, 1) := by decide +kernel
theorem dX7_quickestAt_22 : decode cX7_quickestAt 22 = .ok (.bipush 8, 2) := by decide +kernel
theorem dX7_quickestAt_24 : decode cX7_quickestAt 24 = .ok (.if_icmp .ge 46, 3) := by decide +kernel
theorem dX7_quickestAt_27 : decode cX7_quickestAt 27 = .ok (.aload_n 0, 1) := by decide +kernel
theorem dX7_quickestAt_28 : decode cX7_quickestAt 28 = .ok (.iload_n 1, 1) := by decide +kernel
theorem dX7_quickestAt_29 : decode cX7_quickestAt 29 = .ok (.iload_n 3, 1) := by decide +kernel
theorem dX7_quickestAt_30 : decode cX7_quickestAt 30 = .ok (.invokevirtual 29, 3) := by decide +kernel
theorem dX7_quickestAt_33 : decode cX7_quickestAt 33 = .ok (.ifCond .eq 31, 3) := by decide +kernel
theorem dX7_quickestAt_36 : decode cX7_quickestAt 36 = .ok (.iload_n 2, 1) := by decide +kernel
theorem dX7_quickestAt_37 : decode cX7_quickestAt 37 = .ok (.iconst (-1), 1) := by decide +kernel
theorem dX7_quickestAt_38 : decode cX7_quickestAt 38 = .ok (.if_icmp .eq 24, 3) := by decide +kernel
theorem dX7_quickestAt_41 : decode cX7_quickestAt 41 = .ok (.aload_n 0, 1) := by decide +kernel
theorem dX7_quickestAt_42 : decode cX7_quickestAt 42 = .ok (.getfield 21, 3) := by decide +kernel
theorem dX7_quickestAt_45 : decode cX7_quickestAt 45 = .ok (.getfield 44, 3) := by decide +kernel
theorem dX7_quickestAt_48 : decode cX7_quickestAt 48 = .ok (.iload_n 3, 1) := by decide +kernel
theorem dX7_quickestAt_49 : decode cX7_quickestAt 49 = .ok (.iaload, 1) := by decide +kernel
theorem dX7_quickestAt_50 : decode cX7_quickestAt 50 = .ok (.aload_n 0, 1) := by decide +kernel
theorem dX7_quickestAt_51 : decode cX7_quickestAt 51 = .ok (.getfield 21, 3) := by decide +kernel
theorem dX7_quickestAt_54 : decode cX7_quickestAt 54 = .ok (.getfield 44, 3) := by decide +kernel
theorem dX7_quickestAt_57 : decode cX7_quickestAt 57 = .ok (.iload_n 2, 1) := by decide +kernel
theorem dX7_quickestAt_58 : decode cX7_quickestAt 58 = .ok (.iaload, 1) := by decide +kernel
theorem dX7_quickestAt_59 : decode cX7_quickestAt 59 = .ok (.if_icmp .ge 5, 3) := by decide +kernel
theorem dX7_quickestAt_62 : decode cX7_quickestAt 62 = .ok (.iload_n 3, 1) := by decide +kernel
theorem dX7_quickestAt_63 : decode cX7_quickestAt 63 = .ok (.istore_n 2, 1) := by decide +kernel
theorem dX7_quickestAt_64 : decode cX7_quickestAt 64 = .ok (.iinc 3 1, 3) := by decide +kernel
theorem dX7_quickestAt_67 : decode cX7_quickestAt 67 = .ok (.goto (-46), 3) := by decide +kernel
theorem dX7_quickestAt_70 : decode cX7_quickestAt 70 = .ok (.iload_n 2, 1) := by decide +kernel
theorem dX7_quickestAt_71 : decode cX7_quickestAt 71 = .ok (.ireturn, 1) := by decide +kernel
theorem dX7_quickestGraces_0 : decode cX7_quickestGraces 0 = .ok (.iconst 0, 1) := by decide +kernel
theorem dX7_quickestGraces_1 : decode cX7_quickestGraces 1 = .ok (.istore_n 1, 1) := by decide +kernel
theorem dX7_quickestGraces_2 : decode cX7_quickestGraces 2 = .ok (.iconst 0, 1) := by decide +kernel
theorem dX7_quickestGraces_3 : decode cX7_quickestGraces 3 = .ok (.istore_n 2, 1) := by decide +kernel
theorem dX7_quickestGraces_4 : decode cX7_quickestGraces 4 = .ok (.iload_n 2, 1) := by decide +kernel
theorem dX7_quickestGraces_5 : decode cX7_quickestGraces 5 = .ok (.aload_n 0, 1) := by decide +kernel
theorem dX7_quickestGraces_6 : decode cX7_quickestGraces 6 = .ok (.getfield 25, 3) := by decide +kernel
theorem dX7_quickestGraces_9 : decode cX7_quickestGraces 9 = .ok (.if_icmp .ge 36, 3) := by decide +kernel
theorem dX7_quickestGraces_12 : decode cX7_quickestGraces 12 = .ok (.aload_n 0, 1) := by decide +kernel
theorem dX7_quickestGraces_13 : decode cX7_quickestGraces 13 = .ok (.iload_n 2, 1) := by decide +kernel
theorem dX7_quickestGraces_14 : decode cX7_quickestGraces 14 = .ok (.invokevirtual 48, 3) := by decide +kernel
theorem dX7_quickestGraces_17 : decode cX7_quickestGraces 17 = .ok (.istore_n 3, 1) := by decide +kernel
theorem dX7_quickestGraces_18 : decode cX7_quickestGraces 18 = .ok (.iload_n 1, 1) := by decide +kernel
theorem dX7_quickestGraces_19 : decode cX7_quickestGraces 19 = .ok (.iload_n 3, 1) := by decide +kernel
theorem dX7_quickestGraces_20 : decode cX7_quickestGraces 20 = .ok (.iconst (-1), 1) := by decide +kernel
theorem dX7_quickestGraces_21 : decode cX7_quickestGraces 21 = .ok (.if_icmp .ne 7, 3) := by decide +kernel
theorem dX7_quickestGraces_24 : decode cX7_quickestGraces 24 = .ok (.iconst 0, 1) := by decide +kernel
theorem dX7_quickestGraces_25 : decode cX7_quickestGraces 25 = .ok (.goto 12, 3) := by decide +kernel
theorem dX7_quickestGraces_28 : decode cX7_quickestGraces 28 = .ok (.aload_n 0, 1) := by decide +kernel
theorem dX7_quickestGraces_29 : decode cX7_quickestGraces 29 = .ok (.getfield 21, 3) := by decide +kernel
theorem dX7_quickestGraces_32 : decode cX7_quickestGraces 32 = .ok (.getfield 44, 3) := by decide +kernel
theorem dX7_quickestGraces_35 : decode cX7_quickestGraces 35 = .ok (.iload_n 3, 1) := by decide +kernel
theorem dX7_quickestGraces_36 : decode cX7_quickestGraces 36 = .ok (.iaload, 1) := by decide +kernel
theorem dX7_quickestGraces_37 : decode cX7_quickestGraces 37 = .ok (.iadd, 1) := by decide +kernel
theorem dX7_quickestGraces_38 : decode cX7_quickestGraces 38 = .ok (.istore_n 1, 1) := by decide +kernel
theorem dX7_quickestGraces_39 : decode cX7_quickestGraces 39 = .ok (.iinc 2 1, 3) := by decide +kernel
theorem dX7_quickestGraces_42 : decode cX7_quickestGraces 42 = .ok (.goto (-38), 3) := by decide +kernel
theorem dX7_quickestGraces_45 : decode cX7_quickestGraces 45 = .ok (.iload_n 1, 1) := by decide +kernel
theorem dX7_quickestGraces_46 : decode cX7_quickestGraces 46 = .ok (.ireturn, 1) := by decide +kernel
theorem dX7_waysAt_0 : decode cX7_waysAt 0 = .ok (.aload_n 0, 1) := by decide +kernel
theorem dX7_waysAt_1 : decode cX7_waysAt 1 = .ok (.getfield 18, 3) := by decide +kernel
theorem dX7_waysAt_4 : decode cX7_waysAt 4 = .ok (.iload_n 1, 1) := by decide +kernel
theorem dX7_waysAt_5 : decode cX7_waysAt 5 = .ok (.iaload, 1) := by decide +kernel
theorem dX7_waysAt_6 : decode cX7_waysAt 6 = .ok (.iconst (-1), 1) := by decide +kernel
theorem dX7_waysAt_7 : decode cX7_waysAt 7 = .ok (.if_icmp .eq 23, 3) := by decide +kernel
theorem dX7_waysAt_10 : decode cX7_waysAt 10 = .ok (.aload_n 0, 1) := by decide +kernel
theorem dX7_waysAt_11 : decode cX7_waysAt 11 = .ok (.iload_n 1, 1) := by decide +kernel
theorem dX7_waysAt_12 : decode cX7_waysAt 12 = .ok (.aload_n 0, 1) := by decide +kernel
theorem dX7_waysAt_13 : decode cX7_waysAt 13 = .ok (.getfield 18, 3) := by decide +kernel
theorem dX7_waysAt_16 : decode cX7_waysAt 16 = .ok (.iload_n 1, 1) := by decide +kernel
theorem dX7_waysAt_17 : decode cX7_waysAt 17 = .ok (.iaload, 1) := by decide +kernel
theorem dX7_waysAt_18 : decode cX7_waysAt 18 = .ok (.invokevirtual 29, 3) := by decide +kernel
theorem dX7_waysAt_21 : decode cX7_waysAt 21 = .ok (.ifCond .eq 7, 3) := by decide +kernel
theorem dX7_waysAt_24 : decode cX7_waysAt 24 = .ok (.iconst 1, 1) := by decide +kernel
theorem dX7_waysAt_25 : decode cX7_waysAt 25 = .ok (.goto 4, 3) := by decide +kernel
theorem dX7_waysAt_28 : decode cX7_waysAt 28 = .ok (.iconst 0, 1) := by decide +kernel
theorem dX7_waysAt_29 : decode cX7_waysAt 29 = .ok (.ireturn, 1) := by decide +kernel
theorem dX7_waysAt_30 : decode cX7_waysAt 30 = .ok (.iconst 0, 1) := by decide +kernel
theorem dX7_waysAt_31 : decode cX7_waysAt 31 = .ok (.istore_n 2, 1) := by decide +kernel
theorem dX7_waysAt_32 : decode cX7_waysAt 32 = .ok (.iconst 0, 1) := by decide +kernel
theorem dX7_waysAt_33 : decode cX7_waysAt 33 = .ok (.istore_n 3, 1) := by decide +kernel
theorem dX7_waysAt_34 : decode cX7_waysAt 34 = .ok (.iload_n 3, 1) := by decide +kernel
theorem dX7_waysAt_35 : decode cX7_waysAt 35 = .ok (.bipush 8, 2) := by decide +kernel
theorem dX7_waysAt_37 : decode cX7_waysAt 37 = .ok (.if_icmp .ge 21, 3) := by decide +kernel
theorem dX7_waysAt_40 : decode cX7_waysAt 40 = .ok (.aload_n 0, 1) := by decide +kernel
theorem dX7_waysAt_41 : decode cX7_waysAt 41 = .ok (.iload_n 1, 1) := by decide +kernel
theorem dX7_waysAt_42 : decode cX7_waysAt 42 = .ok (.iload_n 3, 1) := by decide +kernel
theorem dX7_waysAt_43 : decode cX7_waysAt 43 = .ok (.invokevirtual 29, 3) := by decide +kernel
theorem dX7_waysAt_46 : decode cX7_waysAt 46 = .ok (.ifCond .eq 6, 3) := by decide +kernel
theorem dX7_waysAt_49 : decode cX7_waysAt 49 = .ok (.iinc 2 1, 3) := by decide +kernel
theorem dX7_waysAt_52 : decode cX7_waysAt 52 = .ok (.iinc 3 1, 3) := by decide +kernel
theorem dX7_waysAt_55 : decode cX7_waysAt 55 = .ok (.goto (-21), 3) := by decide +kernel
theorem dX7_waysAt_58 : decode cX7_waysAt 58 = .ok (.iload_n 2, 1) := by decide +kernel
theorem dX7_waysAt_59 : decode cX7_waysAt 59 = .ok (.ireturn, 1) := by decide +kernel
theorem dX7_holdsWith_0 : decode cX7_holdsWith 0 = .ok (.iload_n 1, 1) := by decide +kernel
theorem dX7_holdsWith_1 : decode cX7_holdsWith 1 = .ok (.ifCond .ne 7, 3) := by decide +kernel
theorem dX7_holdsWith_4 : decode cX7_holdsWith 4 = .ok (.iconst (-1), 1) := by decide +kernel
theorem dX7_holdsWith_5 : decode cX7_holdsWith 5 = .ok (.goto 11, 3) := by decide +kernel
theorem dX7_holdsWith_8 : decode cX7_holdsWith 8 = .ok (.aload_n 0, 1) := by decide +kernel
theorem dX7_holdsWith_9 : decode cX7_holdsWith 9 = .ok (.getfield 9, 3) := by decide +kernel
theorem dX7_holdsWith_12 : decode cX7_holdsWith 12 = .ok (.iload_n 1, 1) := by decide +kernel
theorem dX7_holdsWith_13 : decode cX7_holdsWith 13 = .ok (.iconst 1, 1) := by decide +kernel
theorem dX7_holdsWith_14 : decode cX7_holdsWith 14 = .ok (.isub, 1) := by decide +kernel
theorem dX7_holdsWith_15 : decode cX7_holdsWith 15 = .ok (.iaload, 1) := by decide +kernel
theorem dX7_holdsWith_16 : decode cX7_holdsWith 16 = .ok (.istore_n 3, 1) := by decide +kernel
theorem dX7_holdsWith_17 : decode cX7_holdsWith 17 = .ok (.aload_n 0, 1) := by decide +kernel
theorem dX7_holdsWith_18 : decode cX7_holdsWith 18 = .ok (.getfield 21, 3) := by decide +kernel
theorem dX7_holdsWith_21 : decode cX7_holdsWith 21 = .ok (.iload_n 2, 1) := by decide +kernel
theorem dX7_holdsWith_22 : decode cX7_holdsWith 22 = .ok (.iload_n 3, 1) := by decide +kernel
theorem dX7_holdsWith_23 : decode cX7_holdsWith 23 = .ok (.aload_n 0, 1) := by decide +kernel
theorem dX7_holdsWith_24 : decode cX7_holdsWith 24 = .ok (.getfield 9, 3) := by decide +kernel
theorem dX7_holdsWith_27 : decode cX7_holdsWith 27 = .ok (.iload_n 1, 1) := by decide +kernel
theorem dX7_holdsWith_28 : decode cX7_holdsWith 28 = .ok (.iaload, 1) := by decide +kernel
theorem dX7_holdsWith_29 : decode cX7_holdsWith 29 = .ok (.invokevirtual 51, 3) := by decide +kernel
theorem dX7_holdsWith_32 : decode cX7_holdsWith 32 = .ok (.ifCond .eq 24, 3) := by decide +kernel
theorem dX7_holdsWith_35 : decode cX7_holdsWith 35 = .ok (.aload_n 0, 1) := by decide +kernel
theorem dX7_holdsWith_36 : decode cX7_holdsWith 36 = .ok (.getfield 21, 3) := by decide +kernel
theorem dX7_holdsWith_39 : decode cX7_holdsWith 39 = .ok (.iload_n 2, 1) := by decide +kernel
theorem dX7_holdsWith_40 : decode cX7_holdsWith 40 = .ok (.aload_n 0, 1) := by decide +kernel
theorem dX7_holdsWith_41 : decode cX7_holdsWith 41 = .ok (.getfield 15, 3) := by decide +kernel
theorem dX7_holdsWith_44 : decode cX7_holdsWith 44 = .ok (.iload_n 1, 1) := by decide +kernel
theorem dX7_holdsWith_45 : decode cX7_holdsWith 45 = .ok (.iaload, 1) := by decide +kernel
theorem dX7_holdsWith_46 : decode cX7_holdsWith 46 = .ok (.invokevirtual 55, 3) := by decide +kernel
theorem dX7_holdsWith_49 : decode cX7_holdsWith 49 = .ok (.ifCond .eq 7, 3) := by decide +kernel
theorem dX7_holdsWith_52 : decode cX7_holdsWith 52 = .ok (.iconst 1, 1) := by decide +kernel
theorem dX7_holdsWith_53 : decode cX7_holdsWith 53 = .ok (.goto 4, 3) := by decide +kernel
theorem dX7_holdsWith_56 : decode cX7_holdsWith 56 = .ok (.iconst 0, 1) := by decide +kernel
theorem dX7_holdsWith_57 : decode cX7_holdsWith 57 = .ok (.ireturn, 1) := by decide +kernel
theorem dX8_init_0 : decode cX8_init 0 = .ok (.aload_n 0, 1) := by decide +kernel
theorem dX8_init_1 : decode cX8_init 1 = .ok (.invokespecial 3, 3) := by decide +kernel
theorem dX8_init_4 : decode cX8_init 4 = .ok (.aload_n 0, 1) := by decide +kernel
theorem dX8_init_5 : decode cX8_init 5 = .ok (.new 9, 3) := by decide +kernel
theorem dX8_init_8 : decode cX8_init 8 = .ok (.dup, 1) := by decide +kernel
theorem dX8_init_9 : decode cX8_init 9 = .ok (.invokespecial 11, 3) := by decide +kernel
theorem dX8_init_12 : decode cX8_init 12 = .ok (.putfield 12, 3) := by decide +kernel
theorem dX8_init_15 : decode cX8_init 15 = .ok (.aload_n 0, 1) := by decide +kernel
theorem dX8_init_16 : decode cX8_init 16 = .ok (.new 16, 3) := by decide +kernel
theorem dX8_init_19 : decode cX8_init 19 = .ok (.dup, 1) := by decide +kernel
theorem dX8_init_20 : decode cX8_init 20 = .ok (.aload_n 0, 1) := by decide +kernel
theorem dX8_init_21 : decode cX8_init 21 = .ok (.getfield 12, 3) := by decide +kernel
theorem dX8_init_24 : decode cX8_init 24 = .ok (.invokespecial 18, 3) := by decide +kernel
theorem dX8_init_27 : decode cX8_init 27 = .ok (.putfield 21, 3) := by decide +kernel
theorem dX8_init_30 : decode cX8_init 30 = .ok (.aload_n 0, 1) := by decide +kernel
theorem dX8_init_31 : decode cX8_init 31 = .ok (.new 25, 3) := by decide +kernel
theorem dX8_init_34 : decode cX8_init 34 = .ok (.dup, 1) := by decide +kernel
theorem dX8_init_35 : decode cX8_init 35 = .ok (.aload_n 0, 1) := by decide +kernel
theorem dX8_init_36 : decode cX8_init 36 = .ok (.getfield 12, 3) := by decide +kernel
theorem dX8_init_39 : decode cX8_init 39 = .ok (.invokespecial 27, 3) := by decide +kernel
theorem dX8_init_42 : decode cX8_init 42 = .ok (.putfield 28, 3) := by decide +kernel
theorem dX8_init_45 : decode cX8_init 45 = .ok (.aload_n 0, 1) := by decide +kernel
theorem dX8_init_46 : decode cX8_init 46 = .ok (.new 32, 3) := by decide +kernel
theorem dX8_init_49 : decode cX8_init 49 = .ok (.dup, 1) := by decide +kernel
theorem dX8_init_50 : decode cX8_init 50 = .ok (.invokespecial 34, 3) := by decide +kernel
theorem dX8_init_53 : decode cX8_init 53 = .ok (.putfield 35, 3) := by decide +kernel
theorem dX8_init_56 : decode cX8_init 56 = .ok (.aload_n 0, 1) := by decide +kernel
theorem dX8_init_57 : decode cX8_init 57 = .ok (.new 39, 3) := by decide +kernel
theorem dX8_init_60 : decode cX8_init 60 = .ok (.dup, 1) := by decide +kernel
theorem dX8_init_61 : decode cX8_init 61 = .ok (.aload_n 0, 1) := by decide +kernel
theorem dX8_init_62 : decode cX8_init 62 = .ok (.getfield 35, 3) := by decide +kernel
theorem dX8_init_65 : decode cX8_init 65 = .ok (.invokespecial 41, 3) := by decide +kernel
theorem dX8_init_68 : decode cX8_init 68 = .ok (.putfield 44, 3) := by decide +kernel
theorem dX8_init_71 : decode cX8_init 71 = .ok (.aload_n 0, 1) := by decide +kernel
theorem dX8_init_72 : decode cX8_init 72 = .ok (.new 48, 3) := by decide +kernel
theorem dX8_init_75 : decode cX8_init 75 = .ok (.dup, 1) := by decide +kernel
theorem dX8_init_76 : decode cX8_init 76 = .ok (.aload_n 0, 1) := by decide +kernel
theorem dX8_init_77 : decode cX8_init 77 = .ok (.getfield 35, 3) := by decide +kernel
theorem dX8_init_80 : decode cX8_init 80 = .ok (.invokespecial 50, 3) := by decide +kernel
theorem dX8_init_83 : decode cX8_init 83 = .ok (.putfield 51, 3) := by decide +kernel
theorem dX8_init_86 : decode cX8_init 86 = .ok (.aload_n 0, 1) := by decide +kernel
theorem dX8_init_87 : decode cX8_init 87 = .ok (.new 55, 3) := by decide +kernel
theorem dX8_init_90 : decode cX8_init 90 = .ok (.dup, 1) := by decide +kernel
theorem dX8_init_91 : decode cX8_init 91 = .ok (.invokespecial 57, 3) := by decide +kernel
theorem dX8_init_94 : decode cX8_init 94 = .ok (.putfield 58, 3) := by decide +kernel
theorem dX8_init_97 : decode cX8_init 97 = .ok (.aload_n 0, 1) := by decide +kernel
theorem dX8_init_98 : decode cX8_init 98 = .ok (.new 62, 3) := by decide +kernel
theorem dX8_init_101 : decode cX8_init 101 = .ok (.dup, 1) := by decide +kernel
theorem dX8_init_102 : decode cX8_init 102 = .ok (.invokespecial 64, 3) := by decide +kernel
theorem dX8_init_105 : decode cX8_init 105 = .ok (.putfield 65, 3) := by decide +kernel
theorem dX8_init_108 : decode cX8_init 108 = .ok (.return_, 1) := by decide +kernel
theorem dX8_movement_0 : decode cX8_movement 0 = .ok (.iload_n 1, 1) := by decide +kernel
theorem dX8_movement_1 : decode cX8_movement 1 = .ok (.invokestatic 69, 3) := by decide +kernel
theorem dX8_movement_4 : decode cX8_movement 4 = .ok (.ifCond .ne 6, 3) := by decide +kernel
theorem dX8_movement_7 : decode cX8_movement 7 = .ok (.bipush (-2), 2) := by decide +kernel
theorem dX8_movement_9 : decode cX8_movement 9 = .ok (.ireturn, 1) := by decide +kernel
theorem dX8_movement_10 : decode cX8_movement 10 = .ok (.iload_n 2, 1) := by decide +kernel
theorem dX8_movement_11 : decode cX8_movement 11 = .ok (.iconst 0, 1) := by decide +kernel
theorem dX8_movement_12 : decode cX8_movement 12 = .ok (.iconst 4, 1) := by decide +kernel
theorem dX8_movement_13 : decode cX8_movement 13 = .ok (.invokestatic 73, 3) := by decide +kernel
theorem dX8_movement_16 : decode cX8_movement 16 = .ok (.ifCond .eq 13, 3) := by decide +kernel
theorem dX8_movement_19 : decode cX8_movement 19 = .ok (.iload_n 3, 1) := by decide +kernel
theorem dX8_movement_20 : decode cX8_movement 20 = .ok (.iload_n 2, 1) := by decide +kernel
theorem dX8_movement_21 : decode cX8_movement 21 = .ok (.bipush 8, 2) := by decide +kernel
theorem dX8_movement_23 : decode cX8_movement 23 = .ok (.invokestatic 77, 3) := by decide +kernel
theorem dX8_movement_26 : decode cX8_movement 26 = .ok (.ifCond .ne 6, 3) := by decide +kernel
theorem dX8_movement_29 : decode cX8_movement 29 = .ok (.bipush (-3), 2) := by decide +kernel
theorem dX8_movement_31 : decode cX8_movement 31 = .ok (.ireturn, 1) := by decide +kernel
theorem dX8_movement_32 : decode cX8_movement 32 = .ok (.aload_n 0, 1) := by decide +kernel
theorem dX8_movement_33 : decode cX8_movement 33 = .ok (.getfield 12, 3) := by decide +kernel
theorem dX8_movement_36 : decode cX8_movement 36 = .ok (.iload_n 1, 1) := by decide +kernel
theorem dX8_movement_37 : decode cX8_movement 37 = .ok (.iload_n 2, 1) := by decide +kernel
theorem dX8_movement_38 : decode cX8_movement 38 = .ok (.iload_n 3, 1) := by decide +kernel
theorem dX8_movement_39 : decode cX8_movement 39 = .ok (.invokevirtual 80, 3) := by decide +kernel
theorem dX8_movement_42 : decode cX8_movement 42 = .ok (.iconst 1, 1) := by decide +kernel
theorem dX8_movement_43 : decode cX8_movement 43 = .ok (.ireturn, 1) := by decide +kernel
theorem dX8_may_0 : decode cX8_may 0 = .ok (.iload_n 1, 1) := by decide +kernel
theorem dX8_may_1 : decode cX8_may 1 = .ok (.invokestatic 69, 3) := by decide +kernel
theorem dX8_may_4 : decode cX8_may 4 = .ok (.ifCond .ne 6, 3) := by decide +kernel
theorem dX8_may_7 : decode cX8_may 7 = .ok (.bipush (-2), 2) := by decide +kernel
theorem dX8_may_9 : decode cX8_may 9 = .ok (.ireturn, 1) := by decide +kernel
theorem dX8_may_10 : decode cX8_may 10 = .ok (.iload_n 2, 1) := by decide +kernel
theorem dX8_may_11 : decode cX8_may 11 = .ok (.iconst 0, 1) := by decide +kernel
theorem dX8_may_12 : decode cX8_may 12 = .ok (.iconst 1, 1) := by decide +kernel
theorem dX8_may_13 : decode cX8_may 13 = .ok (.invokestatic 73, 3) := by decide +kernel
theorem dX8_may_16 : decode cX8_may 16 = .ok (.ifCond .eq 14, 3) := by decide +kernel
theorem dX8_may_19 : decode cX8_may 19 = .ok (.iload_n 3, 1) := by decide +kernel
theorem dX8_may_20 : decode cX8_may 20 = .ok (.iconst 0, 1) := by decide +kernel
theorem dX8_may_21 : decode cX8_may 21 = .ok (.sipush 511, 3) := by decide +kernel
theorem dX8_may_24 : decode cX8_may 24 = .ok (.invokestatic 73, 3) := by decide +kernel
theorem dX8_may_27 : decode cX8_may 27 = .ok (.ifCond .ne 6, 3) := by decide +kernel
theorem dX8_may_30 : decode cX8_may 30 = .ok (.bipush (-3), 2) := by decide +kernel
theorem dX8_may_32 : decode cX8_may 32 = .ok (.ireturn, 1) := by decide +kernel
theorem dX8_may_33 : decode cX8_may 33 = .ok (.iload_n 2, 1) := by decide +kernel
theorem dX8_may_34 : decode cX8_may 34 = .ok (.ifCond .ne 13, 3) := by decide +kernel
theorem dX8_may_37 : decode cX8_may 37 = .ok (.aload_n 0, 1) := by decide +kernel
theorem dX8_may_38 : decode cX8_may 38 = .ok (.getfield 12, 3) := by decide +kernel
theorem dX8_may_41 : decode cX8_may 41 = .ok (.getfield 84, 3) := by decide +kernel
theorem dX8_may_44 : decode cX8_may 44 = .ok (.goto 10, 3) := by decide +kernel
theorem dX8_may_47 : decode cX8_may 47 = .ok (.aload_n 0, 1) := by decide +kernel
theorem dX8_may_48 : decode cX8_may 48 = .ok (.getfield 12, 3) := by decide +kernel
theorem dX8_may_51 : decode cX8_may 51 = .ok (.getfield 88, 3) := by decide +kernel
theorem dX8_may_54 : decode cX8_may 54 = .ok (.iload_n 1, 1) := by decide +kernel
theorem dX8_may_55 : decode cX8_may 55 = .ok (.iload_n 3, 1) := by decide +kernel
theorem dX8_may_56 : decode cX8_may 56 = .ok (.invokestatic 91, 3) := by decide +kernel
theorem dX8_may_59 : decode cX8_may 59 = .ok (.ireturn, 1) := by decide +kernel
theorem dX8_beat_0 : decode cX8_beat 0 = .ok (.iload_n 1, 1) := by decide +kernel
theorem dX8_beat_1 : decode cX8_beat 1 = .ok (.iconst 1, 1) := by decide +kernel
theorem dX8_beat_2 : decode cX8_beat 2 = .ok (.iconst 3, 1) := by decide +kernel
theorem dX8_beat_3 : decode cX8_beat 3 = .ok (.invokestatic 73, 3) := by decide +kernel
theorem dX8_beat_6 : decode cX8_beat 6 = .ok (.ifCond .ne 6, 3) := by decide +kernel
theorem dX8_beat_9 : decode cX8_beat 9 = .ok (.bipush (-3), 2) := by decide +kernel
theorem dX8_beat_11 : decode cX8_beat 11 = .ok (.ireturn, 1) := by decide +kernel
theorem dX8_beat_12 : decode cX8_beat 12 = .ok (.aload_n 0, 1) := by decide +kernel
theorem dX8_beat_13 : decode cX8_beat 13 = .ok (.getfield 12, 3) := by decide +kernel
theorem dX8_beat_16 : decode cX8_beat 16 = .ok (.getfield 95, 3) := by decide +kernel
theorem dX8_beat_19 : decode cX8_beat 19 = .ok (.istore_n 2, 1) := by decide +kernel
theorem dX8_beat_20 : decode cX8_beat 20 = .ok (.aload_n 0, 1) := by decide +kernel
theorem dX8_beat_21 : decode cX8_beat 21 = .ok (.getfield 12, 3) := by decide +kernel
theorem dX8_beat_24 : decode cX8_beat 24 = .ok (.iload_n 1, 1) := by decide +kernel
theorem dX8_beat_25 : decode cX8_beat 25 = .ok (.putfield 95, 3) := by decide +kernel
theorem dX8_beat_28 : decode cX8_beat 28 = .ok (.iload_n 2, 1) := by decide +kernel
theorem dX8_beat_29 : decode cX8_beat 29 = .ok (.ireturn, 1) := by decide +kernel
theorem dX8_fits_0 : decode cX8_fits 0 = .ok (.iload_n 1, 1) := by decide +kernel
theorem dX8_fits_1 : decode cX8_fits 1 = .ok (.invokestatic 69, 3) := by decide +kernel
theorem dX8_fits_4 : decode cX8_fits 4 = .ok (.ifCond .eq 22, 3) := by decide +kernel
theorem dX8_fits_7 : decode cX8_fits 7 = .ok (.iload_n 3, 1) := by decide +kernel
theorem dX8_fits_8 : decode cX8_fits 8 = .ok (.invokestatic 99, 3) := by decide +kernel
theorem dX8_fits_11 : decode cX8_fits 11 = .ok (.ifCond .eq 15, 3) := by decide +kernel
theorem dX8_fits_14 : decode cX8_fits 14 = .ok (.iload_n 2, 1) := by decide +kernel
theorem dX8_fits_15 : decode cX8_fits 15 = .ok (.iconst (-1), 1) := by decide +kernel
theorem dX8_fits_16 : decode cX8_fits 16 = .ok (.if_icmp .eq 13, 3) := by decide +kernel
theorem dX8_fits_19 : decode cX8_fits 19 = .ok (.iload_n 2, 1) := by decide +kernel
theorem dX8_fits_20 : decode cX8_fits 20 = .ok (.invokestatic 99, 3) := by decide +kernel
theorem dX8_fits_23 : decode cX8_fits 23 = .ok (.ifCond .ne 6, 3) := by decide +kernel
theorem dX8_fits_26 : decode cX8_fits 26 = .ok (.bipush (-2), 2) := by decide +kernel
theorem dX8_fits_28 : decode cX8_fits 28 = .ok (.ireturn, 1) := by decide +kernel
theorem dX8_fits_29 : decode cX8_fits 29 = .ok (.aload_n 0, 1) := by decide +kernel
theorem dX8_fits_30 : decode cX8_fits 30 = .ok (.getfield 12, 3) := by decide +kernel
theorem dX8_fits_33 : decode cX8_fits 33 = .ok (.iload_n 1, 1) := by decide +kernel
theorem dX8_fits_34 : decode cX8_fits 34 = .ok (.iload_n 2, 1) := by decide +kernel
theorem dX8_fits_35 : decode cX8_fits 35 = .ok (.iload_n 3, 1) := by decide +kernel
theorem dX8_fits_36 : decode cX8_fits 36 = .ok (.invokevirtual 102, 3) := by decide +kernel
theorem dX8_fits_39 : decode cX8_fits 39 = .ok (.ifCond .eq 7, 3) := by decide +kernel
theorem dX8_fits_42 : decode cX8_fits 42 = .ok (.iconst 1, 1) := by decide +kernel
theorem dX8_fits_43 : decode cX8_fits 43 = .ok (.goto 4, 3) := by decide +kernel
theorem dX8_fits_46 : decode cX8_fits 46 = .ok (.iconst 0, 1) := by decide +kernel
theorem dX8_fits_47 : decode cX8_fits 47 = .ok (.ireturn, 1) := by decide +kernel
theorem dX8_step_0 : decode cX8_step 0 = .ok (.iload_n 1, 1) := by decide +kernel
theorem dX8_step_1 : decode cX8_step 1 = .ok (.invokestatic 99, 3) := by decide +kernel
theorem dX8_step_4 : decode cX8_step 4 = .ok (.ifCond .eq 10, 3) := by decide +kernel
theorem dX8_step_7 : decode cX8_step 7 = .ok (.iload_n 3, 1) := by decide +kernel
theorem dX8_step_8 : decode cX8_step 8 = .ok (.invokestatic 105, 3) := by decide +kernel
theorem dX8_step_11 : decode cX8_step 11 = .ok (.ifCond .ne 6, 3) := by decide +kernel
theorem dX8_step_14 : decode cX8_step 14 = .ok (.bipush (-2), 2) := by decide +kernel
theorem dX8_step_16 : decode cX8_step 16 = .ok (.ireturn, 1) := by decide +kernel
theorem dX8_step_17 : decode cX8_step 17 = .ok (.iload_n 2, 1) := by decide +kernel
theorem dX8_step_18 : decode cX8_step 18 = .ok (.iconst 1, 1) := by decide +kernel
theorem dX8_step_19 : decode cX8_step 19 = .ok (.bipush 9, 2) := by decide +kernel
theorem dX8_step_21 : decode cX8_step 21 = .ok (.invokestatic 73, 3) := by decide +kernel
theorem dX8_step_24 : decode cX8_step 24 = .ok (.ifCond .ne 6, 3) := by decide +kernel
theorem dX8_step_27 : decode cX8_step 27 = .ok (.bipush (-3), 2) := by decide +kernel
theorem dX8_step_29 : decode cX8_step 29 = .ok (.ireturn, 1) := by decide +kernel
theorem dX8_step_30 : decode cX8_step 30 = .ok (.aload_n 0, 1) := by decide +kernel
theorem dX8_step_31 : decode cX8_step 31 = .ok (.getfield 21, 3) := by decide +kernel
theorem dX8_step_34 : decode cX8_step 34 = .ok (.getfield 108, 3) := by decide +kernel
theorem dX8_step_37 : decode cX8_step 37 = .ok (.bipush 24, 2) := by decide +kernel
theorem dX8_step_39 : decode cX8_step 39 = .ok (.if_icmp .lt 6, 3) := by decide +kernel
theorem dX8_step_42 : decode cX8_step 42 = .ok (.bipush (-5), 2) := by decide +kernel
theorem dX8_step_44 : decode cX8_step 44 = .ok (.ireturn, 1) := by decide +kernel
theorem dX8_step_45 : decode cX8_step 45 = .ok (.aload_n 0, 1) := by decide +kernel
theorem dX8_step_46 : decode cX8_step 46 = .ok (.getfield 21, 3) := by decide +kernel
theorem dX8_step_49 : decode cX8_step 49 = .ok (.iload_n 1, 1) := by decide +kernel
theorem dX8_step_50 : decode cX8_step 50 = .ok (.iload_n 2, 1) := by decide +kernel
theorem dX8_step_51 : decode cX8_step 51 = .ok (.iload_n 3, 1) := by decide +kernel
theorem dX8_step_52 : decode cX8_step 52 = .ok (.invokevirtual 111, 3) := by decide +kernel
theorem dX8_step_55 : decode cX8_step 55 = .ok (.ireturn, 1) := by decide +kernel
theorem dX8_put_0 : decode cX8_put 0 = .ok (.aload_n 0, 1) := by decide +kernel
theorem dX8_put_1 : decode cX8_put 1 = .ok (.iload_n 1, 1) := by decide +kernel
theorem dX8_put_2 : decode cX8_put 2 = .ok (.invokevirtual 115, 3) := by decide +kernel
theorem dX8_put_5 : decode cX8_put 5 = .ok (.ifCond .eq 10, 3) := by decide +kernel
theorem dX8_put_8 : decode cX8_put 8 = .ok (.iload_n 2, 1) := by decide +kernel
theorem dX8_put_9 : decode cX8_put 9 = .ok (.invokestatic 105, 3) := by decide +kernel
theorem dX8_put_12 : decode cX8_put 12 = .ok (.ifCond .ne 6, 3) := by decide +kernel
theorem dX8_put_15 : decode cX8_put 15 = .ok (.bipush (-2), 2) := by decide +kernel
theorem dX8_put_17 : decode cX8_put 17 = .ok (.ireturn, 1) := by decide +kernel
theorem dX8_put_18 : decode cX8_put 18 = .ok (.aload_n 0, 1) := by decide +kernel
theorem dX8_put_19 : decode cX8_put 19 = .ok (.getfield 21, 3) := by decide +kernel
theorem dX8_put_22 : decode cX8_put 22 = .ok (.getfield 118, 3) := by decide +kernel
theorem dX8_put_25 : decode cX8_put 25 = .ok (.iload_n 1, 1) := by decide +kernel
theorem dX8_put_26 : decode cX8_put 26 = .ok (.iload_n 2, 1) := by decide +kernel
theorem dX8_put_27 : decode cX8_put 27 = .ok (.invokestatic 91, 3) := by decide +kernel
theorem dX8_put_30 : decode cX8_put 30 = .ok (.ireturn, 1) := by decide +kernel
theorem dX8_back_0 : decode cX8_back 0 = .ok (.aload_n 0, 1) := by decide +kernel
theorem dX8_back_1 : decode cX8_back 1 = .ok (.getfield 21, 3) := by decide +kernel
theorem dX8_back_4 : decode cX8_back 4 = .ok (.getfield 108, 3) := by decide +kernel
theorem dX8_back_7 : decode cX8_back 7 = .ok (.ifCond .ne 6, 3) := by decide +kernel
theorem dX8_back_10 : decode cX8_back 10 = .ok (.bipush (-4), 2) := by decide +kernel
theorem dX8_back_12 : decode cX8_back 12 = .ok (.ireturn, 1) := by decide +kernel
theorem dX8_back_13 : decode cX8_back 13 = .ok (.aload_n 0, 1) := by decide +kernel
theorem dX8_back_14 : decode cX8_back 14 = .ok (.getfield 21, 3) := by decide +kernel
theorem dX8_back_17 : decode cX8_back 17 = .ok (.dup, 1) := by decide +kernel
theorem dX8_back_18 : decode cX8_back 18 = .ok (.getfield 108, 3) := by decide +kernel
theorem dX8_back_21 : decode cX8_back 21 = .ok (.iconst 1, 1) := by decide +kernel
theorem dX8_back_22 : decode cX8_back 22 = .ok (.isub, 1) := by decide +kernel
theorem dX8_back_23 : decode cX8_back 23 = .ok (.putfield 108, 3) := by decide +kernel
theorem dX8_back_26 : decode cX8_back 26 = .ok (.aload_n 0, 1) := by decide +kernel
theorem dX8_back_27 : decode cX8_back 27 = .ok (.getfield 21, 3) := by decide +kernel
theorem dX8_back_30 : decode cX8_back 30 = .ok (.getfield 108, 3) := by decide +kernel
theorem dX8_back_33 : decode cX8_back 33 = .ok (.ireturn, 1) := by decide +kernel
theorem dX8_wrong_0 : decode cX8_wrong 0 = .ok (.aload_n 0, 1) := by decide +kernel
theorem dX8_wrong_1 : decode cX8_wrong 1 = .ok (.getfield 21, 3) := by decide +kernel
theorem dX8_wrong_4 : decode cX8_wrong 4 = .ok (.invokevirtual 121, 3) := by decide +kernel
theorem dX8_wrong_7 : decode cX8_wrong 7 = .ok (.ireturn, 1) := by decide +kernel
theorem dX8_fillings_0 : decode cX8_fillings 0 = .ok (.aload_n 0, 1) := by decide +kernel
theorem dX8_fillings_1 : decode cX8_fillings 1 = .ok (.getfield 21, 3) := by decide +kernel
theorem dX8_fillings_4 : decode cX8_fillings 4 = .ok (.invokevirtual 125, 3) := by decide +kernel
theorem dX8_fillings_7 : decode cX8_fillings 7 = .ok (.ireturn, 1) := by decide +kernel
theorem dX8_quickest_0 : decode cX8_quickest 0 = .ok (.aload_n 0, 1) := by decide +kernel
theorem dX8_quickest_1 : decode cX8_quickest 1 = .ok (.iload_n 1, 1) := by decide +kernel
theorem dX8_quickest_2 : decode cX8_quickest 2 = .ok (.invokevirtual 115, 3) := by decide +kernel
theorem dX8_quickest_5 : decode cX8_quickest 5 = .ok (.ifCond .ne 6, 3) := by decide +kernel
end
section
theorem dX8_quickest_8 : decode cX8_quickest 8 = .ok (.bipush (-2), 2) := by decide +kernel
theorem dX8_quickest_10 : decode cX8_quickest 10 = .ok (.ireturn, 1) := by decide +kernel
theorem dX8_quickest_11 : decode cX8_quickest 11 = .ok (.aload_n 0, 1) := by decide +kernel
theorem dX8_quickest_12 : decode cX8_quickest 12 = .ok (.getfield 21, 3) := by decide +kernel
theorem dX8_quickest_15 : decode cX8_quickest 15 = .ok (.invokevirtual 125, 3) := by decide +kernel
theorem dX8_quickest_18 : decode cX8_quickest 18 = .ok (.ifCond .le 14, 3) := by decide +kernel
theorem dX8_quickest_21 : decode cX8_quickest 21 = .ok (.aload_n 0, 1) := by decide +kernel
theorem dX8_quickest_22 : decode cX8_quickest 22 = .ok (.getfield 21, 3) := by decide +kernel
theorem dX8_quickest_25 : decode cX8_quickest 25 = .ok (.iload_n 1, 1) := by decide +kernel
theorem dX8_quickest_26 : decode cX8_quickest 26 = .ok (.invokevirtual 128, 3) := by decide +kernel
theorem dX8_quickest_29 : decode cX8_quickest 29 = .ok (.goto 4, 3) := by decide +kernel
theorem dX8_quickest_32 : decode cX8_quickest 32 = .ok (.iconst (-1), 1) := by decide +kernel
theorem dX8_quickest_33 : decode cX8_quickest 33 = .ok (.ireturn, 1) := by decide +kernel
theorem dX8_graces_0 : decode cX8_graces 0 = .ok (.aload_n 0, 1) := by decide +kernel
theorem dX8_graces_1 : decode cX8_graces 1 = .ok (.getfield 21, 3) := by decide +kernel
theorem dX8_graces_4 : decode cX8_graces 4 = .ok (.invokevirtual 125, 3) := by decide +kernel
theorem dX8_graces_7 : decode cX8_graces 7 = .ok (.ifCond .le 13, 3) := by decide +kernel
theorem dX8_graces_10 : decode cX8_graces 10 = .ok (.aload_n 0, 1) := by decide +kernel
theorem dX8_graces_11 : decode cX8_graces 11 = .ok (.getfield 21, 3) := by decide +kernel
theorem dX8_graces_14 : decode cX8_graces 14 = .ok (.invokevirtual 132, 3) := by decide +kernel
theorem dX8_graces_17 : decode cX8_graces 17 = .ok (.goto 4, 3) := by decide +kernel
theorem dX8_graces_20 : decode cX8_graces 20 = .ok (.iconst (-1), 1) := by decide +kernel
theorem dX8_graces_21 : decode cX8_graces 21 = .ok (.ireturn, 1) := by decide +kernel
theorem dX8_region_0 : decode cX8_region 0 = .ok (.iload_n 1, 1) := by decide +kernel
theorem dX8_region_1 : decode cX8_region 1 = .ok (.invokestatic 135, 3) := by decide +kernel
theorem dX8_region_4 : decode cX8_region 4 = .ok (.ifCond .ne 6, 3) := by decide +kernel
theorem dX8_region_7 : decode cX8_region 7 = .ok (.bipush (-2), 2) := by decide +kernel
theorem dX8_region_9 : decode cX8_region 9 = .ok (.ireturn, 1) := by decide +kernel
theorem dX8_region_10 : decode cX8_region 10 = .ok (.iload_n 2, 1) := by decide +kernel
theorem dX8_region_11 : decode cX8_region 11 = .ok (.iconst 0, 1) := by decide +kernel
theorem dX8_region_12 : decode cX8_region 12 = .ok (.iconst 1, 1) := by decide +kernel
theorem dX8_region_13 : decode cX8_region 13 = .ok (.invokestatic 73, 3) := by decide +kernel
theorem dX8_region_16 : decode cX8_region 16 = .ok (.ifCond .ne 6, 3) := by decide +kernel
theorem dX8_region_19 : decode cX8_region 19 = .ok (.bipush (-3), 2) := by decide +kernel
theorem dX8_region_21 : decode cX8_region 21 = .ok (.ireturn, 1) := by decide +kernel
theorem dX8_region_22 : decode cX8_region 22 = .ok (.iload_n 2, 1) := by decide +kernel
theorem dX8_region_23 : decode cX8_region 23 = .ok (.ifCond .ne 7, 3) := by decide +kernel
theorem dX8_region_26 : decode cX8_region 26 = .ok (.iconst 1, 1) := by decide +kernel
theorem dX8_region_27 : decode cX8_region 27 = .ok (.goto 4, 3) := by decide +kernel
theorem dX8_region_30 : decode cX8_region 30 = .ok (.iconst 0, 1) := by decide +kernel
theorem dX8_region_31 : decode cX8_region 31 = .ok (.istore 5, 2) := by decide +kernel
theorem dX8_region_33 : decode cX8_region 33 = .ok (.iload 5, 2) := by decide +kernel
theorem dX8_region_35 : decode cX8_region 35 = .ok (.ifCond .eq 13, 3) := by decide +kernel
theorem dX8_region_38 : decode cX8_region 38 = .ok (.iload_n 3, 1) := by decide +kernel
theorem dX8_region_39 : decode cX8_region 39 = .ok (.invokestatic 69, 3) := by decide +kernel
theorem dX8_region_42 : decode cX8_region 42 = .ok (.ifCond .ne 16, 3) := by decide +kernel
theorem dX8_region_45 : decode cX8_region 45 = .ok (.goto 10, 3) := by decide +kernel
theorem dX8_region_48 : decode cX8_region 48 = .ok (.iload_n 3, 1) := by decide +kernel
theorem dX8_region_49 : decode cX8_region 49 = .ok (.invokestatic 99, 3) := by decide +kernel
theorem dX8_region_52 : decode cX8_region 52 = .ok (.ifCond .ne 6, 3) := by decide +kernel
theorem dX8_region_55 : decode cX8_region 55 = .ok (.bipush (-2), 2) := by decide +kernel
theorem dX8_region_57 : decode cX8_region 57 = .ok (.ireturn, 1) := by decide +kernel
theorem dX8_region_58 : decode cX8_region 58 = .ok (.iload 4, 2) := by decide +kernel
theorem dX8_region_60 : decode cX8_region 60 = .ok (.iconst 0, 1) := by decide +kernel
theorem dX8_region_61 : decode cX8_region 61 = .ok (.iload 5, 2) := by decide +kernel
theorem dX8_region_63 : decode cX8_region 63 = .ok (.ifCond .eq 8, 3) := by decide +kernel
theorem dX8_region_66 : decode cX8_region 66 = .ok (.bipush 7, 2) := by decide +kernel
theorem dX8_region_68 : decode cX8_region 68 = .ok (.goto 4, 3) := by decide +kernel
theorem dX8_region_71 : decode cX8_region 71 = .ok (.iconst 3, 1) := by decide +kernel
theorem dX8_region_72 : decode cX8_region 72 = .ok (.invokestatic 73, 3) := by decide +kernel
theorem dX8_region_75 : decode cX8_region 75 = .ok (.ifCond .ne 6, 3) := by decide +kernel
theorem dX8_region_78 : decode cX8_region 78 = .ok (.bipush (-3), 2) := by decide +kernel
theorem dX8_region_80 : decode cX8_region 80 = .ok (.ireturn, 1) := by decide +kernel
theorem dX8_region_81 : decode cX8_region 81 = .ok (.iload 5, 2) := by decide +kernel
theorem dX8_region_83 : decode cX8_region 83 = .ok (.ifCond .eq 15, 3) := by decide +kernel
theorem dX8_region_86 : decode cX8_region 86 = .ok (.aload_n 0, 1) := by decide +kernel
theorem dX8_region_87 : decode cX8_region 87 = .ok (.getfield 28, 3) := by decide +kernel
theorem dX8_region_90 : decode cX8_region 90 = .ok (.getfield 138, 3) := by decide +kernel
theorem dX8_region_93 : decode cX8_region 93 = .ok (.iload_n 1, 1) := by decide +kernel
theorem dX8_region_94 : decode cX8_region 94 = .ok (.aaload, 1) := by decide +kernel
theorem dX8_region_95 : decode cX8_region 95 = .ok (.goto 12, 3) := by decide +kernel
theorem dX8_region_98 : decode cX8_region 98 = .ok (.aload_n 0, 1) := by decide +kernel
theorem dX8_region_99 : decode cX8_region 99 = .ok (.getfield 28, 3) := by decide +kernel
theorem dX8_region_102 : decode cX8_region 102 = .ok (.getfield 142, 3) := by decide +kernel
theorem dX8_region_105 : decode cX8_region 105 = .ok (.iload_n 1, 1) := by decide +kernel
theorem dX8_region_106 : decode cX8_region 106 = .ok (.aaload, 1) := by decide +kernel
theorem dX8_region_107 : decode cX8_region 107 = .ok (.iload_n 3, 1) := by decide +kernel
theorem dX8_region_108 : decode cX8_region 108 = .ok (.iload 4, 2) := by decide +kernel
theorem dX8_region_110 : decode cX8_region 110 = .ok (.invokestatic 91, 3) := by decide +kernel
theorem dX8_region_113 : decode cX8_region 113 = .ok (.ireturn, 1) := by decide +kernel
theorem dX8_sung_0 : decode cX8_sung 0 = .ok (.iload_n 1, 1) := by decide +kernel
theorem dX8_sung_1 : decode cX8_sung 1 = .ok (.invokestatic 135, 3) := by decide +kernel
theorem dX8_sung_4 : decode cX8_sung 4 = .ok (.ifCond .eq 11, 3) := by decide +kernel
theorem dX8_sung_7 : decode cX8_sung 7 = .ok (.aload_n 0, 1) := by decide +kernel
theorem dX8_sung_8 : decode cX8_sung 8 = .ok (.iload_n 2, 1) := by decide +kernel
theorem dX8_sung_9 : decode cX8_sung 9 = .ok (.invokevirtual 115, 3) := by decide +kernel
theorem dX8_sung_12 : decode cX8_sung 12 = .ok (.ifCond .ne 6, 3) := by decide +kernel
theorem dX8_sung_15 : decode cX8_sung 15 = .ok (.bipush (-2), 2) := by decide +kernel
theorem dX8_sung_17 : decode cX8_sung 17 = .ok (.ireturn, 1) := by decide +kernel
theorem dX8_sung_18 : decode cX8_sung 18 = .ok (.aload_n 0, 1) := by decide +kernel
theorem dX8_sung_19 : decode cX8_sung 19 = .ok (.getfield 21, 3) := by decide +kernel
theorem dX8_sung_22 : decode cX8_sung 22 = .ok (.getfield 118, 3) := by decide +kernel
theorem dX8_sung_25 : decode cX8_sung 25 = .ok (.iload_n 2, 1) := by decide +kernel
theorem dX8_sung_26 : decode cX8_sung 26 = .ok (.iaload, 1) := by decide +kernel
theorem dX8_sung_27 : decode cX8_sung 27 = .ok (.istore_n 3, 1) := by decide +kernel
theorem dX8_sung_28 : decode cX8_sung 28 = .ok (.iload_n 3, 1) := by decide +kernel
theorem dX8_sung_29 : decode cX8_sung 29 = .ok (.iconst (-1), 1) := by decide +kernel
theorem dX8_sung_30 : decode cX8_sung 30 = .ok (.if_icmp .ne 6, 3) := by decide +kernel
theorem dX8_sung_33 : decode cX8_sung 33 = .ok (.bipush (-4), 2) := by decide +kernel
theorem dX8_sung_35 : decode cX8_sung 35 = .ok (.ireturn, 1) := by decide +kernel
theorem dX8_sung_36 : decode cX8_sung 36 = .ok (.aload_n 0, 1) := by decide +kernel
theorem dX8_sung_37 : decode cX8_sung 37 = .ok (.getfield 28, 3) := by decide +kernel
theorem dX8_sung_40 : decode cX8_sung 40 = .ok (.iload_n 1, 1) := by decide +kernel
theorem dX8_sung_41 : decode cX8_sung 41 = .ok (.aload_n 0, 1) := by decide +kernel
theorem dX8_sung_42 : decode cX8_sung 42 = .ok (.getfield 21, 3) := by decide +kernel
theorem dX8_sung_45 : decode cX8_sung 45 = .ok (.getfield 145, 3) := by decide +kernel
theorem dX8_sung_48 : decode cX8_sung 48 = .ok (.iload_n 2, 1) := by decide +kernel
theorem dX8_sung_49 : decode cX8_sung 49 = .ok (.iaload, 1) := by decide +kernel
theorem dX8_sung_50 : decode cX8_sung 50 = .ok (.iload_n 3, 1) := by decide +kernel
theorem dX8_sung_51 : decode cX8_sung 51 = .ok (.invokevirtual 148, 3) := by decide +kernel
theorem dX8_sung_54 : decode cX8_sung 54 = .ok (.ireturn, 1) := by decide +kernel
theorem dX8_syllable_0 : decode cX8_syllable 0 = .ok (.iload_n 1, 1) := by decide +kernel
theorem dX8_syllable_1 : decode cX8_syllable 1 = .ok (.iconst 0, 1) := by decide +kernel
theorem dX8_syllable_2 : decode cX8_syllable 2 = .ok (.bipush 31, 2) := by decide +kernel
theorem dX8_syllable_4 : decode cX8_syllable 4 = .ok (.invokestatic 73, 3) := by decide +kernel
theorem dX8_syllable_7 : decode cX8_syllable 7 = .ok (.ifCond .ne 6, 3) := by decide +kernel
theorem dX8_syllable_10 : decode cX8_syllable 10 = .ok (.bipush (-3), 2) := by decide +kernel
theorem dX8_syllable_12 : decode cX8_syllable 12 = .ok (.ireturn, 1) := by decide +kernel
theorem dX8_syllable_13 : decode cX8_syllable 13 = .ok (.aload_n 0, 1) := by decide +kernel
theorem dX8_syllable_14 : decode cX8_syllable 14 = .ok (.getfield 28, 3) := by decide +kernel
theorem dX8_syllable_17 : decode cX8_syllable 17 = .ok (.getfield 151, 3) := by decide +kernel
theorem dX8_syllable_20 : decode cX8_syllable 20 = .ok (.bipush 12, 2) := by decide +kernel
theorem dX8_syllable_22 : decode cX8_syllable 22 = .ok (.if_icmp .lt 6, 3) := by decide +kernel
theorem dX8_syllable_25 : decode cX8_syllable 25 = .ok (.bipush (-5), 2) := by decide +kernel
theorem dX8_syllable_27 : decode cX8_syllable 27 = .ok (.ireturn, 1) := by decide +kernel
theorem dX8_syllable_28 : decode cX8_syllable 28 = .ok (.aload_n 0, 1) := by decide +kernel
theorem dX8_syllable_29 : decode cX8_syllable 29 = .ok (.getfield 28, 3) := by decide +kernel
theorem dX8_syllable_32 : decode cX8_syllable 32 = .ok (.iload_n 1, 1) := by decide +kernel
theorem dX8_syllable_33 : decode cX8_syllable 33 = .ok (.invokevirtual 152, 3) := by decide +kernel
theorem dX8_syllable_36 : decode cX8_syllable 36 = .ok (.ireturn, 1) := by decide +kernel
theorem dX8_hush_0 : decode cX8_hush 0 = .ok (.aload_n 0, 1) := by decide +kernel
theorem dX8_hush_1 : decode cX8_hush 1 = .ok (.getfield 28, 3) := by decide +kernel
theorem dX8_hush_4 : decode cX8_hush 4 = .ok (.getfield 151, 3) := by decide +kernel
theorem dX8_hush_7 : decode cX8_hush 7 = .ok (.istore_n 1, 1) := by decide +kernel
theorem dX8_hush_8 : decode cX8_hush 8 = .ok (.aload_n 0, 1) := by decide +kernel
theorem dX8_hush_9 : decode cX8_hush 9 = .ok (.getfield 28, 3) := by decide +kernel
theorem dX8_hush_12 : decode cX8_hush 12 = .ok (.iconst 0, 1) := by decide +kernel
theorem dX8_hush_13 : decode cX8_hush 13 = .ok (.putfield 151, 3) := by decide +kernel
theorem dX8_hush_16 : decode cX8_hush 16 = .ok (.iload_n 1, 1) := by decide +kernel
theorem dX8_hush_17 : decode cX8_hush 17 = .ok (.ireturn, 1) := by decide +kernel
theorem dX8_read_0 : decode cX8_read 0 = .ok (.iload_n 1, 1) := by decide +kernel
theorem dX8_read_1 : decode cX8_read 1 = .ok (.invokestatic 135, 3) := by decide +kernel
theorem dX8_read_4 : decode cX8_read 4 = .ok (.ifCond .ne 6, 3) := by decide +kernel
theorem dX8_read_7 : decode cX8_read 7 = .ok (.bipush (-2), 2) := by decide +kernel
theorem dX8_read_9 : decode cX8_read 9 = .ok (.ireturn, 1) := by decide +kernel
theorem dX8_read_10 : decode cX8_read 10 = .ok (.aload_n 0, 1) := by decide +kernel
theorem dX8_read_11 : decode cX8_read 11 = .ok (.getfield 28, 3) := by decide +kernel
theorem dX8_read_14 : decode cX8_read 14 = .ok (.iload_n 1, 1) := by decide +kernel
theorem dX8_read_15 : decode cX8_read 15 = .ok (.invokevirtual 154, 3) := by decide +kernel
theorem dX8_read_18 : decode cX8_read 18 = .ok (.ireturn, 1) := by decide +kernel
theorem dX8_first_0 : decode cX8_first 0 = .ok (.iload_n 1, 1) := by decide +kernel
theorem dX8_first_1 : decode cX8_first 1 = .ok (.invokestatic 135, 3) := by decide +kernel
theorem dX8_first_4 : decode cX8_first 4 = .ok (.ifCond .ne 6, 3) := by decide +kernel
theorem dX8_first_7 : decode cX8_first 7 = .ok (.bipush (-2), 2) := by decide +kernel
theorem dX8_first_9 : decode cX8_first 9 = .ok (.ireturn, 1) := by decide +kernel
theorem dX8_first_10 : decode cX8_first 10 = .ok (.iload_n 2, 1) := by decide +kernel
theorem dX8_first_11 : decode cX8_first 11 = .ok (.ifCond .ge 6, 3) := by decide +kernel
theorem dX8_first_14 : decode cX8_first 14 = .ok (.bipush (-3), 2) := by decide +kernel
theorem dX8_first_16 : decode cX8_first 16 = .ok (.ireturn, 1) := by decide +kernel
theorem dX8_first_17 : decode cX8_first 17 = .ok (.aload_n 0, 1) := by decide +kernel
theorem dX8_first_18 : decode cX8_first 18 = .ok (.getfield 28, 3) := by decide +kernel
theorem dX8_first_21 : decode cX8_first 21 = .ok (.iload_n 1, 1) := by decide +kernel
theorem dX8_first_22 : decode cX8_first 22 = .ok (.iload_n 2, 1) := by decide +kernel
theorem dX8_first_23 : decode cX8_first 23 = .ok (.invokevirtual 157, 3) := by decide +kernel
theorem dX8_first_26 : decode cX8_first 26 = .ok (.ireturn, 1) := by decide +kernel
theorem dX8_home_0 : decode cX8_home 0 = .ok (.aload_n 0, 1) := by decide +kernel
theorem dX8_home_1 : decode cX8_home 1 = .ok (.getfield 28, 3) := by decide +kernel
theorem dX8_home_4 : decode cX8_home 4 = .ok (.invokevirtual 161, 3) := by decide +kernel
theorem dX8_home_7 : decode cX8_home 7 = .ok (.ireturn, 1) := by decide +kernel
theorem dX8_rule_0 : decode cX8_rule 0 = .ok (.iload_n 1, 1) := by decide +kernel
theorem dX8_rule_1 : decode cX8_rule 1 = .ok (.invokestatic 164, 3) := by decide +kernel
theorem dX8_rule_4 : decode cX8_rule 4 = .ok (.ifCond .ne 6, 3) := by decide +kernel
theorem dX8_rule_7 : decode cX8_rule 7 = .ok (.bipush (-2), 2) := by decide +kernel
theorem dX8_rule_9 : decode cX8_rule 9 = .ok (.ireturn, 1) := by decide +kernel
theorem dX8_rule_10 : decode cX8_rule 10 = .ok (.iload_n 2, 1) := by decide +kernel
theorem dX8_rule_11 : decode cX8_rule 11 = .ok (.iconst 1, 1) := by decide +kernel
theorem dX8_rule_12 : decode cX8_rule 12 = .ok (.iconst 4, 1) := by decide +kernel
theorem dX8_rule_13 : decode cX8_rule 13 = .ok (.invokestatic 73, 3) := by decide +kernel
theorem dX8_rule_16 : decode cX8_rule 16 = .ok (.ifCond .eq 13, 3) := by decide +kernel
theorem dX8_rule_19 : decode cX8_rule 19 = .ok (.iload_n 3, 1) := by decide +kernel
theorem dX8_rule_20 : decode cX8_rule 20 = .ok (.iload_n 2, 1) := by decide +kernel
theorem dX8_rule_21 : decode cX8_rule 21 = .ok (.bipush 10, 2) := by decide +kernel
theorem dX8_rule_23 : decode cX8_rule 23 = .ok (.invokestatic 77, 3) := by decide +kernel
theorem dX8_rule_26 : decode cX8_rule 26 = .ok (.ifCond .ne 6, 3) := by decide +kernel
theorem dX8_rule_29 : decode cX8_rule 29 = .ok (.bipush (-3), 2) := by decide +kernel
theorem dX8_rule_31 : decode cX8_rule 31 = .ok (.ireturn, 1) := by decide +kernel
theorem dX8_rule_32 : decode cX8_rule 32 = .ok (.aload_n 0, 1) := by decide +kernel
theorem dX8_rule_33 : decode cX8_rule 33 = .ok (.getfield 51, 3) := by decide +kernel
theorem dX8_rule_36 : decode cX8_rule 36 = .ok (.iload_n 1, 1) := by decide +kernel
theorem dX8_rule_37 : decode cX8_rule 37 = .ok (.invokevirtual 167, 3) := by decide +kernel
theorem dX8_rule_40 : decode cX8_rule 40 = .ok (.ifCond .eq 6, 3) := by decide +kernel
theorem dX8_rule_43 : decode cX8_rule 43 = .ok (.bipush (-4), 2) := by decide +kernel
theorem dX8_rule_45 : decode cX8_rule 45 = .ok (.ireturn, 1) := by decide +kernel
theorem dX8_rule_46 : decode cX8_rule 46 = .ok (.aload_n 0, 1) := by decide +kernel
theorem dX8_rule_47 : decode cX8_rule 47 = .ok (.getfield 35, 3) := by decide +kernel
theorem dX8_rule_50 : decode cX8_rule 50 = .ok (.iload_n 1, 1) := by decide +kernel
theorem dX8_rule_51 : decode cX8_rule 51 = .ok (.iload_n 2, 1) := by decide +kernel
theorem dX8_rule_52 : decode cX8_rule 52 = .ok (.iload_n 3, 1) := by decide +kernel
theorem dX8_rule_53 : decode cX8_rule 53 = .ok (.invokevirtual 170, 3) := by decide +kernel
theorem dX8_rule_56 : decode cX8_rule 56 = .ok (.iconst 1, 1) := by decide +kernel
theorem dX8_rule_57 : decode cX8_rule 57 = .ok (.ireturn, 1) := by decide +kernel
theorem dX8_note_0 : decode cX8_note 0 = .ok (.iload_n 1, 1) := by decide +kernel
theorem dX8_note_1 : decode cX8_note 1 = .ok (.invokestatic 99, 3) := by decide +kernel
theorem dX8_note_4 : decode cX8_note 4 = .ok (.ifCond .ne 6, 3) := by decide +kernel
theorem dX8_note_7 : decode cX8_note 7 = .ok (.bipush (-2), 2) := by decide +kernel
theorem dX8_note_9 : decode cX8_note 9 = .ok (.ireturn, 1) := by decide +kernel
theorem dX8_note_10 : decode cX8_note 10 = .ok (.aload_n 0, 1) := by decide +kernel
theorem dX8_note_11 : decode cX8_note 11 = .ok (.getfield 44, 3) := by decide +kernel
theorem dX8_note_14 : decode cX8_note 14 = .ok (.getfield 171, 3) := by decide +kernel
theorem dX8_note_17 : decode cX8_note 17 = .ok (.bipush 16, 2) := by decide +kernel
theorem dX8_note_19 : decode cX8_note 19 = .ok (.if_icmp .lt 6, 3) := by decide +kernel
theorem dX8_note_22 : decode cX8_note 22 = .ok (.bipush (-5), 2) := by decide +kernel
theorem dX8_note_24 : decode cX8_note 24 = .ok (.ireturn, 1) := by decide +kernel
theorem dX8_note_25 : decode cX8_note 25 = .ok (.aload_n 0, 1) := by decide +kernel
theorem dX8_note_26 : decode cX8_note 26 = .ok (.getfield 44, 3) := by decide +kernel
theorem dX8_note_29 : decode cX8_note 29 = .ok (.iload_n 1, 1) := by decide +kernel
theorem dX8_note_30 : decode cX8_note 30 = .ok (.invokevirtual 172, 3) := by decide +kernel
theorem dX8_note_33 : decode cX8_note 33 = .ok (.ireturn, 1) := by decide +kernel
theorem dX8_silence_0 : decode cX8_silence 0 = .ok (.aload_n 0, 1) := by decide +kernel
theorem dX8_silence_1 : decode cX8_silence 1 = .ok (.getfield 44, 3) := by decide +kernel
theorem dX8_silence_4 : decode cX8_silence 4 = .ok (.getfield 171, 3) := by decide +kernel
theorem dX8_silence_7 : decode cX8_silence 7 = .ok (.istore_n 1, 1) := by decide +kernel
theorem dX8_silence_8 : decode cX8_silence 8 = .ok (.aload_n 0, 1) := by decide +kernel
theorem dX8_silence_9 : decode cX8_silence 9 = .ok (.getfield 44, 3) := by decide +kernel
theorem dX8_silence_12 : decode cX8_silence 12 = .ok (.iconst 0, 1) := by decide +kernel
theorem dX8_silence_13 : decode cX8_silence 13 = .ok (.putfield 171, 3) := by decide +kernel
theorem dX8_silence_16 : decode cX8_silence 16 = .ok (.iload_n 1, 1) := by decide +kernel
theorem dX8_silence_17 : decode cX8_silence 17 = .ok (.ireturn, 1) := by decide +kernel
theorem dX8_varied_0 : decode cX8_varied 0 = .ok (.iload_n 1, 1) := by decide +kernel
theorem dX8_varied_1 : decode cX8_varied 1 = .ok (.invokestatic 164, 3) := by decide +kernel
theorem dX8_varied_4 : decode cX8_varied 4 = .ok (.ifCond .ne 6, 3) := by decide +kernel
theorem dX8_varied_7 : decode cX8_varied 7 = .ok (.bipush (-2), 2) := by decide +kernel
theorem dX8_varied_9 : decode cX8_varied 9 = .ok (.ireturn, 1) := by decide +kernel
theorem dX8_varied_10 : decode cX8_varied 10 = .ok (.iload_n 2, 1) := by decide +kernel
theorem dX8_varied_11 : decode cX8_varied 11 = .ok (.iconst 0, 1) := by decide +kernel
theorem dX8_varied_12 : decode cX8_varied 12 = .ok (.ldc 173, 2) := by decide +kernel
theorem dX8_varied_14 : decode cX8_varied 14 = .ok (.invokestatic 73, 3) := by decide +kernel
theorem dX8_varied_17 : decode cX8_varied 17 = .ok (.ifCond .eq 7, 3) := by decide +kernel
theorem dX8_varied_20 : decode cX8_varied 20 = .ok (.iload_n 3, 1) := by decide +kernel
theorem dX8_varied_21 : decode cX8_varied 21 = .ok (.ifCond .ge 6, 3) := by decide +kernel
theorem dX8_varied_24 : decode cX8_varied 24 = .ok (.bipush (-3), 2) := by decide +kernel
theorem dX8_varied_26 : decode cX8_varied 26 = .ok (.ireturn, 1) := by decide +kernel
theorem dX8_varied_27 : decode cX8_varied 27 = .ok (.aload_n 0, 1) := by decide +kernel
theorem dX8_varied_28 : decode cX8_varied 28 = .ok (.getfield 44, 3) := by decide +kernel
theorem dX8_varied_31 : decode cX8_varied 31 = .ok (.iload_n 1, 1) := by decide +kernel
theorem dX8_varied_32 : decode cX8_varied 32 = .ok (.iload_n 2, 1) := by decide +kernel
theorem dX8_varied_33 : decode cX8_varied 33 = .ok (.iload_n 3, 1) := by decide +kernel
theorem dX8_varied_34 : decode cX8_varied 34 = .ok (.invokevirtual 174, 3) := by decide +kernel
theorem dX8_varied_37 : decode cX8_varied 37 = .ok (.ireturn, 1) := by decide +kernel
theorem dX8_sheet_0 : decode cX8_sheet 0 = .ok (.iload_n 1, 1) := by decide +kernel
theorem dX8_sheet_1 : decode cX8_sheet 1 = .ok (.invokestatic 164, 3) := by decide +kernel
theorem dX8_sheet_4 : decode cX8_sheet 4 = .ok (.ifCond .ne 6, 3) := by decide +kernel
theorem dX8_sheet_7 : decode cX8_sheet 7 = .ok (.bipush (-2), 2) := by decide +kernel
theorem dX8_sheet_9 : decode cX8_sheet 9 = .ok (.ireturn, 1) := by decide +kernel
theorem dX8_sheet_10 : decode cX8_sheet 10 = .ok (.iload_n 2, 1) := by decide +kernel
theorem dX8_sheet_11 : decode cX8_sheet 11 = .ok (.iconst 1, 1) := by decide +kernel
theorem dX8_sheet_12 : decode cX8_sheet 12 = .ok (.bipush 16, 2) := by decide +kernel
theorem dX8_sheet_14 : decode cX8_sheet 14 = .ok (.invokestatic 73, 3) := by decide +kernel
theorem dX8_sheet_17 : decode cX8_sheet 17 = .ok (.ifCond .eq 16, 3) := by decide +kernel
theorem dX8_sheet_20 : decode cX8_sheet 20 = .ok (.iload_n 3, 1) := by decide +kernel
theorem dX8_sheet_21 : decode cX8_sheet 21 = .ok (.iconst 0, 1) := by decide +kernel
theorem dX8_sheet_22 : decode cX8_sheet 22 = .ok (.iconst 1, 1) := by decide +kernel
theorem dX8_sheet_23 : decode cX8_sheet 23 = .ok (.iload_n 2, 1) := by decide +kernel
theorem dX8_sheet_24 : decode cX8_sheet 24 = .ok (.ishl, 1) := by decide +kernel
theorem dX8_sheet_25 : decode cX8_sheet 25 = .ok (.iconst 1, 1) := by decide +kernel
theorem dX8_sheet_26 : decode cX8_sheet 26 = .ok (.isub, 1) := by decide +kernel
theorem dX8_sheet_27 : decode cX8_sheet 27 = .ok (.invokestatic 73, 3) := by decide +kernel
theorem dX8_sheet_30 : decode cX8_sheet 30 = .ok (.ifCond .ne 6, 3) := by decide +kernel
theorem dX8_sheet_33 : decode cX8_sheet 33 = .ok (.bipush (-3), 2) := by decide +kernel
theorem dX8_sheet_35 : decode cX8_sheet 35 = .ok (.ireturn, 1) := by decide +kernel
theorem dX8_sheet_36 : decode cX8_sheet 36 = .ok (.aload_n 0, 1) := by decide +kernel
theorem dX8_sheet_37 : decode cX8_sheet 37 = .ok (.getfield 51, 3) := by decide +kernel
theorem dX8_sheet_40 : decode cX8_sheet 40 = .ok (.iload_n 2, 1) := by decide +kernel
theorem dX8_sheet_41 : decode cX8_sheet 41 = .ok (.iload_n 3, 1) := by decide +kernel
theorem dX8_sheet_42 : decode cX8_sheet 42 = .ok (.invokevirtual 177, 3) := by decide +kernel
theorem dX8_sheet_45 : decode cX8_sheet 45 = .ok (.ifCond .ne 6, 3) := by decide +kernel
theorem dX8_sheet_48 : decode cX8_sheet 48 = .ok (.bipush (-4), 2) := by decide +kernel
theorem dX8_sheet_50 : decode cX8_sheet 50 = .ok (.ireturn, 1) := by decide +kernel
theorem dX8_sheet_51 : decode cX8_sheet 51 = .ok (.aload_n 0, 1) := by decide +kernel
theorem dX8_sheet_52 : decode cX8_sheet 52 = .ok (.getfield 51, 3) := by decide +kernel
theorem dX8_sheet_55 : decode cX8_sheet 55 = .ok (.getfield 181, 3) := by decide +kernel
theorem dX8_sheet_58 : decode cX8_sheet 58 = .ok (.iconst 3, 1) := by decide +kernel
theorem dX8_sheet_59 : decode cX8_sheet 59 = .ok (.if_icmp .lt 6, 3) := by decide +kernel
theorem dX8_sheet_62 : decode cX8_sheet 62 = .ok (.bipush (-5), 2) := by decide +kernel
theorem dX8_sheet_64 : decode cX8_sheet 64 = .ok (.ireturn, 1) := by decide +kernel
theorem dX8_sheet_65 : decode cX8_sheet 65 = .ok (.aload_n 0, 1) := by decide +kernel
theorem dX8_sheet_66 : decode cX8_sheet 66 = .ok (.getfield 51, 3) := by decide +kernel
theorem dX8_sheet_69 : decode cX8_sheet 69 = .ok (.iload_n 1, 1) := by decide +kernel
theorem dX8_sheet_70 : decode cX8_sheet 70 = .ok (.iload_n 2, 1) := by decide +kernel
theorem dX8_sheet_71 : decode cX8_sheet 71 = .ok (.iload_n 3, 1) := by decide +kernel
theorem dX8_sheet_72 : decode cX8_sheet 72 = .ok (.invokevirtual 182, 3) := by decide +kernel
theorem dX8_sheet_75 : decode cX8_sheet 75 = .ok (.ireturn, 1) := by decide +kernel
theorem dX8_tell_0 : decode cX8_tell 0 = .ok (.aload_n 0, 1) := by decide +kernel
theorem dX8_tell_1 : decode cX8_tell 1 = .ok (.iload_n 1, 1) := by decide +kernel
theorem dX8_tell_2 : decode cX8_tell 2 = .ok (.iload_n 2, 1) := by decide +kernel
theorem dX8_tell_3 : decode cX8_tell 3 = .ok (.invokevirtual 183, 3) := by decide +kernel
theorem dX8_tell_6 : decode cX8_tell 6 = .ok (.ifCond .ne 6, 3) := by decide +kernel
theorem dX8_tell_9 : decode cX8_tell 9 = .ok (.bipush (-2), 2) := by decide +kernel
theorem dX8_tell_11 : decode cX8_tell 11 = .ok (.ireturn, 1) := by decide +kernel
theorem dX8_tell_12 : decode cX8_tell 12 = .ok (.iload_n 3, 1) := by decide +kernel
theorem dX8_tell_13 : decode cX8_tell 13 = .ok (.iconst (-1), 1) := by decide +kernel
theorem dX8_tell_14 : decode cX8_tell 14 = .ok (.if_icmp .eq 13, 3) := by decide +kernel
theorem dX8_tell_17 : decode cX8_tell 17 = .ok (.iload_n 3, 1) := by decide +kernel
theorem dX8_tell_18 : decode cX8_tell 18 = .ok (.invokestatic 99, 3) := by decide +kernel
theorem dX8_tell_21 : decode cX8_tell 21 = .ok (.ifCond .ne 6, 3) := by decide +kernel
theorem dX8_tell_24 : decode cX8_tell 24 = .ok (.bipush (-3), 2) := by decide +kernel
theorem dX8_tell_26 : decode cX8_tell 26 = .ok (.ireturn, 1) := by decide +kernel
theorem dX8_tell_27 : decode cX8_tell 27 = .ok (.aload_n 0, 1) := by decide +kernel
theorem dX8_tell_28 : decode cX8_tell 28 = .ok (.getfield 51, 3) := by decide +kernel
theorem dX8_tell_31 : decode cX8_tell 31 = .ok (.getfield 186, 3) := by decide +kernel
theorem dX8_tell_34 : decode cX8_tell 34 = .ok (.iload_n 1, 1) := by decide +kernel
theorem dX8_tell_35 : decode cX8_tell 35 = .ok (.aaload, 1) := by decide +kernel
theorem dX8_tell_36 : decode cX8_tell 36 = .ok (.iload_n 2, 1) := by decide +kernel
theorem dX8_tell_37 : decode cX8_tell 37 = .ok (.iload_n 3, 1) := by decide +kernel
theorem dX8_tell_38 : decode cX8_tell 38 = .ok (.invokestatic 91, 3) := by decide +kernel
theorem dX8_tell_41 : decode cX8_tell 41 = .ok (.ireturn, 1) := by decide +kernel
theorem dX8_cells_0 : decode cX8_cells 0 = .ok (.aload_n 0, 1) := by decide +kernel
theorem dX8_cells_1 : decode cX8_cells 1 = .ok (.iload_n 1, 1) := by decide +kernel
theorem dX8_cells_2 : decode cX8_cells 2 = .ok (.invokevirtual 189, 3) := by decide +kernel
theorem dX8_cells_5 : decode cX8_cells 5 = .ok (.ifCond .ne 6, 3) := by decide +kernel
theorem dX8_cells_8 : decode cX8_cells 8 = .ok (.bipush (-2), 2) := by decide +kernel
theorem dX8_cells_10 : decode cX8_cells 10 = .ok (.ireturn, 1) := by decide +kernel
theorem dX8_cells_11 : decode cX8_cells 11 = .ok (.aload_n 0, 1) := by decide +kernel
theorem dX8_cells_12 : decode cX8_cells 12 = .ok (.getfield 51, 3) := by decide +kernel
theorem dX8_cells_15 : decode cX8_cells 15 = .ok (.getfield 192, 3) := by decide +kernel
theorem dX8_cells_18 : decode cX8_cells 18 = .ok (.iload_n 1, 1) := by decide +kernel
theorem dX8_cells_19 : decode cX8_cells 19 = .ok (.iaload, 1) := by decide +kernel
theorem dX8_cells_20 : decode cX8_cells 20 = .ok (.ireturn, 1) := by decide +kernel
theorem dX8_clear_0 : decode cX8_clear 0 = .ok (.aload_n 0, 1) := by decide +kernel
theorem dX8_clear_1 : decode cX8_clear 1 = .ok (.getfield 51, 3) := by decide +kernel
theorem dX8_clear_4 : decode cX8_clear 4 = .ok (.getfield 181, 3) := by decide +kernel
theorem dX8_clear_7 : decode cX8_clear 7 = .ok (.istore_n 1, 1) := by decide +kernel
theorem dX8_clear_8 : decode cX8_clear 8 = .ok (.aload_n 0, 1) := by decide +kernel
theorem dX8_clear_9 : decode cX8_clear 9 = .ok (.getfield 51, 3) := by decide +kernel
theorem dX8_clear_12 : decode cX8_clear 12 = .ok (.iconst 0, 1) := by decide +kernel
theorem dX8_clear_13 : decode cX8_clear 13 = .ok (.putfield 181, 3) := by decide +kernel
theorem dX8_clear_16 : decode cX8_clear 16 = .ok (.iload_n 1, 1) := by decide +kernel
theorem dX8_clear_17 : decode cX8_clear 17 = .ok (.ireturn, 1) := by decide +kernel
theorem dX8_agreeing_0 : decode cX8_agreeing 0 = .ok (.aload_n 0, 1) := by decide +kernel
theorem dX8_agreeing_1 : decode cX8_agreeing 1 = .ok (.getfield 51, 3) := by decide +kernel
theorem dX8_agreeing_4 : decode cX8_agreeing 4 = .ok (.getfield 181, 3) := by decide +kernel
theorem dX8_agreeing_7 : decode cX8_agreeing 7 = .ok (.ifCond .ne 6, 3) := by decide +kernel
theorem dX8_agreeing_10 : decode cX8_agreeing 10 = .ok (.bipush (-4), 2) := by decide +kernel
theorem dX8_agreeing_12 : decode cX8_agreeing 12 = .ok (.ireturn, 1) := by decide +kernel
theorem dX8_agreeing_13 : decode cX8_agreeing 13 = .ok (.aload_n 0, 1) := by decide +kernel
theorem dX8_agreeing_14 : decode cX8_agreeing 14 = .ok (.getfield 51, 3) := by decide +kernel
theorem dX8_agreeing_17 : decode cX8_agreeing 17 = .ok (.invokevirtual 195, 3) := by decide +kernel
theorem dX8_agreeing_20 : decode cX8_agreeing 20 = .ok (.ireturn, 1) := by decide +kernel
theorem dX8_least_0 : decode cX8_least 0 = .ok (.aload_n 0, 1) := by decide +kernel
theorem dX8_least_1 : decode cX8_least 1 = .ok (.getfield 51, 3) := by decide +kernel
theorem dX8_least_4 : decode cX8_least 4 = .ok (.getfield 181, 3) := by decide +kernel
theorem dX8_least_7 : decode cX8_least 7 = .ok (.ifCond .ne 6, 3) := by decide +kernel
theorem dX8_least_10 : decode cX8_least 10 = .ok (.bipush (-4), 2) := by decide +kernel
theorem dX8_least_12 : decode cX8_least 12 = .ok (.ireturn, 1) := by decide +kernel
theorem dX8_least_13 : decode cX8_least 13 = .ok (.iload_n 1, 1) := by decide +kernel
theorem dX8_least_14 : decode cX8_least 14 = .ok (.iconst 0, 1) := by decide +kernel
theorem dX8_least_15 : decode cX8_least 15 = .ok (.aload_n 0, 1) := by decide +kernel
theorem dX8_least_16 : decode cX8_least 16 = .ok (.getfield 51, 3) := by decide +kernel
theorem dX8_least_19 : decode cX8_least 19 = .ok (.getfield 198, 3) := by decide +kernel
theorem dX8_least_22 : decode cX8_least 22 = .ok (.iconst 1, 1) := by decide +kernel
theorem dX8_least_23 : decode cX8_least 23 = .ok (.isub, 1) := by decide +kernel
theorem dX8_least_24 : decode cX8_least 24 = .ok (.invokestatic 73, 3) := by decide +kernel
theorem dX8_least_27 : decode cX8_least 27 = .ok (.ifCond .ne 5, 3) := by decide +kernel
theorem dX8_least_30 : decode cX8_least 30 = .ok (.iconst (-1), 1) := by decide +kernel
theorem dX8_least_31 : decode cX8_least 31 = .ok (.ireturn, 1) := by decide +kernel
theorem dX8_least_32 : decode cX8_least 32 = .ok (.aload_n 0, 1) := by decide +kernel
theorem dX8_least_33 : decode cX8_least 33 = .ok (.getfield 51, 3) := by decide +kernel
theorem dX8_least_36 : decode cX8_least 36 = .ok (.invokevirtual 201, 3) := by decide +kernel
theorem dX8_least_39 : decode cX8_least 39 = .ok (.aload_n 0, 1) := by decide +kernel
theorem dX8_least_40 : decode cX8_least 40 = .ok (.getfield 51, 3) := by decide +kernel
theorem dX8_least_43 : decode cX8_least 43 = .ok (.getfield 204, 3) := by decide +kernel
theorem dX8_least_46 : decode cX8_least 46 = .ok (.iload_n 1, 1) := by decide +kernel
theorem dX8_least_47 : decode cX8_least 47 = .ok (.iaload, 1) := by decide +kernel
theorem dX8_least_48 : decode cX8_least 48 = .ok (.ireturn, 1) := by decide +kernel
theorem dX8_blamed_0 : decode cX8_blamed 0 = .ok (.aload_n 0, 1) := by decide +kernel
theorem dX8_blamed_1 : decode cX8_blamed 1 = .ok (.iload_n 1, 1) := by decide +kernel
theorem dX8_blamed_2 : decode cX8_blamed 2 = .ok (.invokevirtual 189, 3) := by decide +kernel
theorem dX8_blamed_5 : decode cX8_blamed 5 = .ok (.ifCond .eq 17, 3) := by decide +kernel
theorem dX8_blamed_8 : decode cX8_blamed 8 = .ok (.iload_n 2, 1) := by decide +kernel
theorem dX8_blamed_9 : decode cX8_blamed 9 = .ok (.iconst (-1), 1) := by decide +kernel
theorem dX8_blamed_10 : decode cX8_blamed 10 = .ok (.if_icmp .eq 15, 3) := by decide +kernel
theorem dX8_blamed_13 : decode cX8_blamed 13 = .ok (.aload_n 0, 1) := by decide +kernel
theorem dX8_blamed_14 : decode cX8_blamed 14 = .ok (.iload_n 1, 1) := by decide +kernel
theorem dX8_blamed_15 : decode cX8_blamed 15 = .ok (.iload_n 2, 1) := by decide +kernel
theorem dX8_blamed_16 : decode cX8_blamed 16 = .ok (.invokevirtual 183, 3) := by decide +kernel
theorem dX8_blamed_19 : decode cX8_blamed 19 = .ok (.ifCond .ne 6, 3) := by decide +kernel
theorem dX8_blamed_22 : decode cX8_blamed 22 = .ok (.bipush (-2), 2) := by decide +kernel
theorem dX8_blamed_24 : decode cX8_blamed 24 = .ok (.ireturn, 1) := by decide +kernel
theorem dX8_blamed_25 : decode cX8_blamed 25 = .ok (.aload_n 0, 1) := by decide +kernel
theorem dX8_blamed_26 : decode cX8_blamed 26 = .ok (.getfield 51, 3) := by decide +kernel
theorem dX8_blamed_29 : decode cX8_blamed 29 = .ok (.invokevirtual 201, 3) := by decide +kernel
theorem dX8_blamed_32 : decode cX8_blamed 32 = .ok (.iload_n 2, 1) := by decide +kernel
theorem dX8_blamed_33 : decode cX8_blamed 33 = .ok (.iconst (-1), 1) := by decide +kernel
theorem dX8_blamed_34 : decode cX8_blamed 34 = .ok (.if_icmp .ne 12, 3) := by decide +kernel
theorem dX8_blamed_37 : decode cX8_blamed 37 = .ok (.aload_n 0, 1) := by decide +kernel
theorem dX8_blamed_38 : decode cX8_blamed 38 = .ok (.getfield 51, 3) := by decide +kernel
theorem dX8_blamed_41 : decode cX8_blamed 41 = .ok (.iload_n 1, 1) := by decide +kernel
theorem dX8_blamed_42 : decode cX8_blamed 42 = .ok (.invokevirtual 207, 3) := by decide +kernel
theorem dX8_blamed_45 : decode cX8_blamed 45 = .ok (.ireturn, 1) := by decide +kernel
theorem dX8_blamed_46 : decode cX8_blamed 46 = .ok (.aload_n 0, 1) := by decide +kernel
theorem dX8_blamed_47 : decode cX8_blamed 47 = .ok (.getfield 51, 3) := by decide +kernel
theorem dX8_blamed_50 : decode cX8_blamed 50 = .ok (.iload_n 1, 1) := by decide +kernel
theorem dX8_blamed_51 : decode cX8_blamed 51 = .ok (.iload_n 2, 1) := by decide +kernel
theorem dX8_blamed_52 : decode cX8_blamed 52 = .ok (.invokevirtual 210, 3) := by decide +kernel
theorem dX8_blamed_55 : decode cX8_blamed 55 = .ok (.ifCond .eq 7, 3) := by decide +kernel
theorem dX8_blamed_58 : decode cX8_blamed 58 = .ok (.iconst 1, 1) := by decide +kernel
theorem dX8_blamed_59 : decode cX8_blamed 59 = .ok (.goto 4, 3) := by decide +kernel
theorem dX8_blamed_62 : decode cX8_blamed 62 = .ok (.iconst 0, 1) := by decide +kernel
theorem dX8_blamed_63 : decode cX8_blamed 63 = .ok (.ireturn, 1) := by decide +kernel
theorem dX8_piper_0 : decode cX8_piper 0 = .ok (.iload_n 1, 1) := by decide +kernel
theorem dX8_piper_1 : decode cX8_piper 1 = .ok (.invokestatic 213, 3) := by decide +kernel
theorem dX8_piper_4 : decode cX8_piper 4 = .ok (.ifCond .ne 6, 3) := by decide +kernel
theorem dX8_piper_7 : decode cX8_piper 7 = .ok (.bipush (-2), 2) := by decide +kernel
theorem dX8_piper_9 : decode cX8_piper 9 = .ok (.ireturn, 1) := by decide +kernel
theorem dX8_piper_10 : decode cX8_piper 10 = .ok (.iload_n 2, 1) := by decide +kernel
theorem dX8_piper_11 : decode cX8_piper 11 = .ok (.bipush (-99), 2) := by decide +kernel
theorem dX8_piper_13 : decode cX8_piper 13 = .ok (.bipush 99, 2) := by decide +kernel
theorem dX8_piper_15 : decode cX8_piper 15 = .ok (.invokestatic 73, 3) := by decide +kernel
theorem dX8_piper_18 : decode cX8_piper 18 = .ok (.ifCond .eq 35, 3) := by decide +kernel
theorem dX8_piper_21 : decode cX8_piper 21 = .ok (.iload_n 3, 1) := by decide +kernel
theorem dX8_piper_22 : decode cX8_piper 22 = .ok (.iconst 0, 1) := by decide +kernel
theorem dX8_piper_23 : decode cX8_piper 23 = .ok (.bipush 9, 2) := by decide +kernel
theorem dX8_piper_25 : decode cX8_piper 25 = .ok (.invokestatic 73, 3) := by decide +kernel
theorem dX8_piper_28 : decode cX8_piper 28 = .ok (.ifCond .eq 25, 3) := by decide +kernel
theorem dX8_piper_31 : decode cX8_piper 31 = .ok (.iload 4, 2) := by decide +kernel
theorem dX8_piper_33 : decode cX8_piper 33 = .ok (.iconst 1, 1) := by decide +kernel
theorem dX8_piper_34 : decode cX8_piper 34 = .ok (.bipush 60, 2) := by decide +kernel
theorem dX8_piper_36 : decode cX8_piper 36 = .ok (.invokestatic 73, 3) := by decide +kernel
theorem dX8_piper_39 : decode cX8_piper 39 = .ok (.ifCond .eq 14, 3) := by decide +kernel
theorem dX8_piper_42 : decode cX8_piper 42 = .ok (.iload 5, 2) := by decide +kernel
theorem dX8_piper_44 : decode cX8_piper 44 = .ok (.iconst 0, 1) := by decide +kernel
theorem dX8_piper_45 : decode cX8_piper 45 = .ok (.bipush 90, 2) := by decide +kernel
theorem dX8_piper_47 : decode cX8_piper 47 = .ok (.invokestatic 73, 3) := by decide +kernel
theorem dX8_piper_50 : decode cX8_piper 50 = .ok (.ifCond .ne 6, 3) := by decide +kernel
theorem dX8_piper_53 : decode cX8_piper 53 = .ok (.bipush (-3), 2) := by decide +kernel
theorem dX8_piper_55 : decode cX8_piper 55 = .ok (.ireturn, 1) := by decide +kernel
theorem dX8_piper_56 : decode cX8_piper 56 = .ok (.aload_n 0, 1) := by decide +kernel
theorem dX8_piper_57 : decode cX8_piper 57 = .ok (.getfield 58, 3) := by decide +kernel
theorem dX8_piper_60 : decode cX8_piper 60 = .ok (.iload_n 1, 1) := by decide +kernel
theorem dX8_piper_61 : decode cX8_piper 61 = .ok (.iload_n 2, 1) := by decide +kernel
theorem dX8_piper_62 : decode cX8_piper 62 = .ok (.iload_n 3, 1) := by decide +kernel
theorem dX8_piper_63 : decode cX8_piper 63 = .ok (.iload 4, 2) := by decide +kernel
theorem dX8_piper_65 : decode cX8_piper 65 = .ok (.iload 5, 2) := by decide +kernel
theorem dX8_piper_67 : decode cX8_piper 67 = .ok (.invokevirtual 216, 3) := by decide +kernel
theorem dX8_piper_70 : decode cX8_piper 70 = .ok (.iconst 1, 1) := by decide +kernel
theorem dX8_piper_71 : decode cX8_piper 71 = .ok (.ireturn, 1) := by decide +kernel
theorem dX8_damp_0 : decode cX8_damp 0 = .ok (.iload_n 1, 1) := by decide +kernel
theorem dX8_damp_1 : decode cX8_damp 1 = .ok (.iconst 0, 1) := by decide +kernel
theorem dX8_damp_2 : decode cX8_damp 2 = .ok (.iconst 5, 1) := by decide +kernel
theorem dX8_damp_3 : decode cX8_damp 3 = .ok (.invokestatic 73, 3) := by decide +kernel
theorem dX8_damp_6 : decode cX8_damp 6 = .ok (.ifCond .ne 6, 3) := by decide +kernel
theorem dX8_damp_9 : decode cX8_damp 9 = .ok (.bipush (-3), 2) := by decide +kernel
theorem dX8_damp_11 : decode cX8_damp 11 = .ok (.ireturn, 1) := by decide +kernel
theorem dX8_damp_12 : decode cX8_damp 12 = .ok (.aload_n 0, 1) := by decide +kernel
theorem dX8_damp_13 : decode cX8_damp 13 = .ok (.getfield 58, 3) := by decide +kernel
theorem dX8_damp_16 : decode cX8_damp 16 = .ok (.getfield 219, 3) := by decide +kernel
theorem dX8_damp_19 : decode cX8_damp 19 = .ok (.istore_n 2, 1) := by decide +kernel
theorem dX8_damp_20 : decode cX8_damp 20 = .ok (.aload_n 0, 1) := by decide +kernel
theorem dX8_damp_21 : decode cX8_damp 21 = .ok (.getfield 58, 3) := by decide +kernel
theorem dX8_damp_24 : decode cX8_damp 24 = .ok (.iload_n 1, 1) := by decide +kernel
theorem dX8_damp_25 : decode cX8_damp 25 = .ok (.putfield 219, 3) := by decide +kernel
theorem dX8_damp_28 : decode cX8_damp 28 = .ok (.iload_n 2, 1) := by decide +kernel
theorem dX8_damp_29 : decode cX8_damp 29 = .ok (.ireturn, 1) := by decide +kernel
theorem dX8_pitch_0 : decode cX8_pitch 0 = .ok (.iload_n 1, 1) := by decide +kernel
theorem dX8_pitch_1 : decode cX8_pitch 1 = .ok (.invokestatic 213, 3) := by decide +kernel
theorem dX8_pitch_4 : decode cX8_pitch 4 = .ok (.ifCond .eq 17, 3) := by decide +kernel
theorem dX8_pitch_7 : decode cX8_pitch 7 = .ok (.iload_n 2, 1) := by decide +kernel
theorem dX8_pitch_8 : decode cX8_pitch 8 = .ok (.invokestatic 222, 3) := by decide +kernel
theorem dX8_pitch_11 : decode cX8_pitch 11 = .ok (.ifCond .eq 10, 3) := by decide +kernel
theorem dX8_pitch_14 : decode cX8_pitch 14 = .ok (.iload_n 3, 1) := by decide +kernel
theorem dX8_pitch_15 : decode cX8_pitch 15 = .ok (.invokestatic 222, 3) := by decide +kernel
theorem dX8_pitch_18 : decode cX8_pitch 18 = .ok (.ifCond .ne 6, 3) := by decide +kernel
theorem dX8_pitch_21 : decode cX8_pitch 21 = .ok (.ldc 225, 2) := by decide +kernel
theorem dX8_pitch_23 : decode cX8_pitch 23 = .ok (.ireturn, 1) := by decide +kernel
theorem dX8_pitch_24 : decode cX8_pitch 24 = .ok (.iload_n 2, 1) := by decide +kernel
theorem dX8_pitch_25 : decode cX8_pitch 25 = .ok (.iload_n 3, 1) := by decide +kernel
theorem dX8_pitch_26 : decode cX8_pitch 26 = .ok (.if_icmp .gt 16, 3) := by decide +kernel
theorem dX8_pitch_29 : decode cX8_pitch 29 = .ok (.iload_n 2, 1) := by decide +kernel
theorem dX8_pitch_30 : decode cX8_pitch 30 = .ok (.aload_n 0, 1) := by decide +kernel
theorem dX8_pitch_31 : decode cX8_pitch 31 = .ok (.getfield 58, 3) := by decide +kernel
theorem dX8_pitch_34 : decode cX8_pitch 34 = .ok (.getfield 226, 3) := by decide +kernel
theorem dX8_pitch_37 : decode cX8_pitch 37 = .ok (.iload_n 1, 1) := by decide +kernel
theorem dX8_pitch_38 : decode cX8_pitch 38 = .ok (.iaload, 1) := by decide +kernel
theorem dX8_pitch_39 : decode cX8_pitch 39 = .ok (.if_icmp .ge 6, 3) := by decide +kernel
theorem dX8_pitch_42 : decode cX8_pitch 42 = .ok (.ldc 225, 2) := by decide +kernel
theorem dX8_pitch_44 : decode cX8_pitch 44 = .ok (.ireturn, 1) := by decide +kernel
theorem dX8_pitch_45 : decode cX8_pitch 45 = .ok (.aload_n 0, 1) := by decide +kernel
theorem dX8_pitch_46 : decode cX8_pitch 46 = .ok (.getfield 58, 3) := by decide +kernel
theorem dX8_pitch_49 : decode cX8_pitch 49 = .ok (.iload_n 1, 1) := by decide +kernel
theorem dX8_pitch_50 : decode cX8_pitch 50 = .ok (.iload_n 3, 1) := by decide +kernel
theorem dX8_pitch_51 : decode cX8_pitch 51 = .ok (.iload_n 2, 1) := by decide +kernel
theorem dX8_pitch_52 : decode cX8_pitch 52 = .ok (.isub, 1) := by decide +kernel
theorem dX8_pitch_53 : decode cX8_pitch 53 = .ok (.invokevirtual 229, 3) := by decide +kernel
theorem dX8_pitch_56 : decode cX8_pitch 56 = .ok (.ireturn, 1) := by decide +kernel
theorem dX8_band_0 : decode cX8_band 0 = .ok (.iload_n 1, 1) := by decide +kernel
theorem dX8_band_1 : decode cX8_band 1 = .ok (.invokestatic 232, 3) := by decide +kernel
theorem dX8_band_4 : decode cX8_band 4 = .ok (.ifCond .eq 19, 3) := by decide +kernel
theorem dX8_band_7 : decode cX8_band 7 = .ok (.iload_n 2, 1) := by decide +kernel
theorem dX8_band_8 : decode cX8_band 8 = .ok (.invokestatic 222, 3) := by decide +kernel
theorem dX8_band_11 : decode cX8_band 11 = .ok (.ifCond .eq 12, 3) := by decide +kernel
theorem dX8_band_14 : decode cX8_band 14 = .ok (.iload_n 3, 1) := by decide +kernel
theorem dX8_band_15 : decode cX8_band 15 = .ok (.iconst 0, 1) := by decide +kernel
theorem dX8_band_16 : decode cX8_band 16 = .ok (.iconst 1, 1) := by decide +kernel
theorem dX8_band_17 : decode cX8_band 17 = .ok (.invokestatic 73, 3) := by decide +kernel
theorem dX8_band_20 : decode cX8_band 20 = .ok (.ifCond .ne 6, 3) := by decide +kernel
theorem dX8_band_23 : decode cX8_band 23 = .ok (.bipush (-3), 2) := by decide +kernel
theorem dX8_band_25 : decode cX8_band 25 = .ok (.ireturn, 1) := by decide +kernel
theorem dX8_band_26 : decode cX8_band 26 = .ok (.aload_n 0, 1) := by decide +kernel
theorem dX8_band_27 : decode cX8_band 27 = .ok (.getfield 58, 3) := by decide +kernel
theorem dX8_band_30 : decode cX8_band 30 = .ok (.iload_n 1, 1) := by decide +kernel
theorem dX8_band_31 : decode cX8_band 31 = .ok (.iload_n 2, 1) := by decide +kernel
theorem dX8_band_32 : decode cX8_band 32 = .ok (.invokevirtual 235, 3) := by decide +kernel
theorem dX8_band_35 : decode cX8_band 35 = .ok (.ifCond .ne 6, 3) := by decide +kernel
theorem dX8_band_38 : decode cX8_band 38 = .ok (.bipush (-4), 2) := by decide +kernel
theorem dX8_band_40 : decode cX8_band 40 = .ok (.ireturn, 1) := by decide +kernel
theorem dX8_band_41 : decode cX8_band 41 = .ok (.aload_n 0, 1) := by decide +kernel
theorem dX8_band_42 : decode cX8_band 42 = .ok (.getfield 58, 3) := by decide +kernel
theorem dX8_band_45 : decode cX8_band 45 = .ok (.iload_n 1, 1) := by decide +kernel
theorem dX8_band_46 : decode cX8_band 46 = .ok (.iload_n 2, 1) := by decide +kernel
theorem dX8_band_47 : decode cX8_band 47 = .ok (.invokevirtual 238, 3) := by decide +kernel
theorem dX8_band_50 : decode cX8_band 50 = .ok (.iload_n 3, 1) := by decide +kernel
theorem dX8_band_51 : decode cX8_band 51 = .ok (.ifCond .ne 13, 3) := by decide +kernel
theorem dX8_band_54 : decode cX8_band 54 = .ok (.aload_n 0, 1) := by decide +kernel
theorem dX8_band_55 : decode cX8_band 55 = .ok (.getfield 58, 3) := by decide +kernel
theorem dX8_band_58 : decode cX8_band 58 = .ok (.getfield 242, 3) := by decide +kernel
theorem dX8_band_61 : decode cX8_band 61 = .ok (.goto 14, 3) := by decide +kernel
theorem dX8_band_64 : decode cX8_band 64 = .ok (.aload_n 0, 1) := by decide +kernel
theorem dX8_band_65 : decode cX8_band 65 = .ok (.getfield 58, 3) := by decide +kernel
theorem dX8_band_68 : decode cX8_band 68 = .ok (.getfield 245, 3) := by decide +kernel
theorem dX8_band_71 : decode cX8_band 71 = .ok (.sipush 1000, 3) := by decide +kernel
theorem dX8_band_74 : decode cX8_band 74 = .ok (.iadd, 1) := by decide +kernel
theorem dX8_band_75 : decode cX8_band 75 = .ok (.ireturn, 1) := by decide +kernel
theorem dX8_begins_0 : decode cX8_begins 0 = .ok (.iload_n 3, 1) := by decide +kernel
theorem dX8_begins_1 : decode cX8_begins 1 = .ok (.invokestatic 213, 3) := by decide +kernel
theorem dX8_begins_4 : decode cX8_begins 4 = .ok (.ifCond .ne 6, 3) := by decide +kernel
theorem dX8_begins_7 : decode cX8_begins 7 = .ok (.bipush (-2), 2) := by decide +kernel
theorem dX8_begins_9 : decode cX8_begins 9 = .ok (.ireturn, 1) := by decide +kernel
theorem dX8_begins_10 : decode cX8_begins 10 = .ok (.iload_n 1, 1) := by decide +kernel
theorem dX8_begins_11 : decode cX8_begins 11 = .ok (.invokestatic 232, 3) := by decide +kernel
theorem dX8_begins_14 : decode cX8_begins 14 = .ok (.ifCond .eq 10, 3) := by decide +kernel
theorem dX8_begins_17 : decode cX8_begins 17 = .ok (.iload_n 2, 1) := by decide +kernel
theorem dX8_begins_18 : decode cX8_begins 18 = .ok (.invokestatic 222, 3) := by decide +kernel
theorem dX8_begins_21 : decode cX8_begins 21 = .ok (.ifCond .ne 6, 3) := by decide +kernel
theorem dX8_begins_24 : decode cX8_begins 24 = .ok (.bipush (-3), 2) := by decide +kernel
theorem dX8_begins_26 : decode cX8_begins 26 = .ok (.ireturn, 1) := by decide +kernel
theorem dX8_begins_27 : decode cX8_begins 27 = .ok (.aload_n 0, 1) := by decide +kernel
theorem dX8_begins_28 : decode cX8_begins 28 = .ok (.getfield 58, 3) := by decide +kernel
theorem dX8_begins_31 : decode cX8_begins 31 = .ok (.iload_n 1, 1) := by decide +kernel
theorem dX8_begins_32 : decode cX8_begins 32 = .ok (.iload_n 2, 1) := by decide +kernel
theorem dX8_begins_33 : decode cX8_begins 33 = .ok (.invokevirtual 235, 3) := by decide +kernel
theorem dX8_begins_36 : decode cX8_begins 36 = .ok (.ifCond .ne 6, 3) := by decide +kernel
theorem dX8_begins_39 : decode cX8_begins 39 = .ok (.bipush (-4), 2) := by decide +kernel
theorem dX8_begins_41 : decode cX8_begins 41 = .ok (.ireturn, 1) := by decide +kernel
theorem dX8_begins_42 : decode cX8_begins 42 = .ok (.iload_n 1, 1) := by decide +kernel
theorem dX8_begins_43 : decode cX8_begins 43 = .ok (.iload_n 3, 1) := by decide +kernel
theorem dX8_begins_44 : decode cX8_begins 44 = .ok (.invokestatic 248, 3) := by decide +kernel
theorem dX8_begins_47 : decode cX8_begins 47 = .ok (.ifCond .ne 5, 3) := by decide +kernel
theorem dX8_begins_50 : decode cX8_begins 50 = .ok (.iconst (-1), 1) := by decide +kernel
theorem dX8_begins_51 : decode cX8_begins 51 = .ok (.ireturn, 1) := by decide +kernel
theorem dX8_begins_52 : decode cX8_begins 52 = .ok (.aload_n 0, 1) := by decide +kernel
theorem dX8_begins_53 : decode cX8_begins 53 = .ok (.getfield 58, 3) := by decide +kernel
theorem dX8_begins_56 : decode cX8_begins 56 = .ok (.iload_n 1, 1) := by decide +kernel
theorem dX8_begins_57 : decode cX8_begins 57 = .ok (.iload_n 2, 1) := by decide +kernel
theorem dX8_begins_58 : decode cX8_begins 58 = .ok (.invokevirtual 238, 3) := by decide +kernel
theorem dX8_begins_61 : decode cX8_begins 61 = .ok (.iload_n 2, 1) := by decide +kernel
theorem dX8_begins_62 : decode cX8_begins 62 = .ok (.aload_n 0, 1) := by decide +kernel
theorem dX8_begins_63 : decode cX8_begins 63 = .ok (.getfield 58, 3) := by decide +kernel
theorem dX8_begins_66 : decode cX8_begins 66 = .ok (.iload_n 3, 1) := by decide +kernel
theorem dX8_begins_67 : decode cX8_begins 67 = .ok (.aload_n 0, 1) := by decide +kernel
theorem dX8_begins_68 : decode cX8_begins 68 = .ok (.getfield 58, 3) := by decide +kernel
theorem dX8_begins_71 : decode cX8_begins 71 = .ok (.getfield 245, 3) := by decide +kernel
theorem dX8_begins_74 : decode cX8_begins 74 = .ok (.iload_n 2, 1) := by decide +kernel
theorem dX8_begins_75 : decode cX8_begins 75 = .ok (.invokevirtual 251, 3) := by decide +kernel
theorem dX8_begins_78 : decode cX8_begins 78 = .ok (.isub, 1) := by decide +kernel
theorem dX8_begins_79 : decode cX8_begins 79 = .ok (.ireturn, 1) := by decide +kernel
theorem dX8_tone_0 : decode cX8_tone 0 = .ok (.iload_n 1, 1) := by decide +kernel
theorem dX8_tone_1 : decode cX8_tone 1 = .ok (.invokestatic 99, 3) := by decide +kernel
theorem dX8_tone_4 : decode cX8_tone 4 = .ok (.ifCond .ne 6, 3) := by decide +kernel
theorem dX8_tone_7 : decode cX8_tone 7 = .ok (.bipush (-2), 2) := by decide +kernel
theorem dX8_tone_9 : decode cX8_tone 9 = .ok (.ireturn, 1) := by decide +kernel
theorem dX8_tone_10 : decode cX8_tone 10 = .ok (.iload_n 2, 1) := by decide +kernel
theorem dX8_tone_11 : decode cX8_tone 11 = .ok (.sipush (-300), 3) := by decide +kernel
theorem dX8_tone_14 : decode cX8_tone 14 = .ok (.sipush 300, 3) := by decide +kernel
theorem dX8_tone_17 : decode cX8_tone 17 = .ok (.invokestatic 73, 3) := by decide +kernel
theorem dX8_tone_20 : decode cX8_tone 20 = .ok (.ifCond .ne 6, 3) := by decide +kernel
theorem dX8_tone_23 : decode cX8_tone 23 = .ok (.bipush (-3), 2) := by decide +kernel
theorem dX8_tone_25 : decode cX8_tone 25 = .ok (.ireturn, 1) := by decide +kernel
theorem dX8_tone_26 : decode cX8_tone 26 = .ok (.aload_n 0, 1) := by decide +kernel
theorem dX8_tone_27 : decode cX8_tone 27 = .ok (.getfield 65, 3) := by decide +kernel
theorem dX8_tone_30 : decode cX8_tone 30 = .ok (.getfield 254, 3) := by decide +kernel
theorem dX8_tone_33 : decode cX8_tone 33 = .ok (.iload_n 1, 1) := by decide +kernel
theorem dX8_tone_34 : decode cX8_tone 34 = .ok (.iload_n 2, 1) := by decide +kernel
theorem dX8_tone_35 : decode cX8_tone 35 = .ok (.iastore, 1) := by decide +kernel
theorem dX8_tone_36 : decode cX8_tone 36 = .ok (.iconst 1, 1) := by decide +kernel
theorem dX8_tone_37 : decode cX8_tone 37 = .ok (.ireturn, 1) := by decide +kernel
theorem dX8_harsh_0 : decode cX8_harsh 0 = .ok (.iload_n 1, 1) := by decide +kernel
theorem dX8_harsh_1 : decode cX8_harsh 1 = .ok (.invokestatic 257, 3) := by decide +kernel
theorem dX8_harsh_4 : decode cX8_harsh 4 = .ok (.ifCond .eq 10, 3) := by decide +kernel
theorem dX8_harsh_7 : decode cX8_harsh 7 = .ok (.iload_n 2, 1) := by decide +kernel
theorem dX8_harsh_8 : decode cX8_harsh 8 = .ok (.invokestatic 257, 3) := by decide +kernel
theorem dX8_harsh_11 : decode cX8_harsh 11 = .ok (.ifCond .ne 6, 3) := by decide +kernel
theorem dX8_harsh_14 : decode cX8_harsh 14 = .ok (.bipush (-3), 2) := by decide +kernel
theorem dX8_harsh_16 : decode cX8_harsh 16 = .ok (.ireturn, 1) := by decide +kernel
theorem dX8_harsh_17 : decode cX8_harsh 17 = .ok (.aload_n 0, 1) := by decide +kernel
theorem dX8_harsh_18 : decode cX8_harsh 18 = .ok (.getfield 65, 3) := by decide +kernel
theorem dX8_harsh_21 : decode cX8_harsh 21 = .ok (.iload_n 1, 1) := by decide +kernel
theorem dX8_harsh_22 : decode cX8_harsh 22 = .ok (.iload_n 2, 1) := by decide +kernel
theorem dX8_harsh_23 : decode cX8_harsh 23 = .ok (.invokevirtual 260, 3) := by decide +kernel
theorem dX8_harsh_26 : decode cX8_harsh 26 = .ok (.ireturn, 1) := by decide +kernel
theorem dX8_set_0 : decode cX8_set 0 = .ok (.iload_n 1, 1) := by decide +kernel
theorem dX8_set_1 : decode cX8_set 1 = .ok (.invokestatic 257, 3) := by decide +kernel
theorem dX8_set_4 : decode cX8_set 4 = .ok (.ifCond .ne 6, 3) := by decide +kernel
theorem dX8_set_7 : decode cX8_set 7 = .ok (.ldc 225, 2) := by decide +kernel
theorem dX8_set_9 : decode cX8_set 9 = .ok (.ireturn, 1) := by decide +kernel
theorem dX8_set_10 : decode cX8_set 10 = .ok (.aload_n 0, 1) := by decide +kernel
theorem dX8_set_11 : decode cX8_set 11 = .ok (.getfield 65, 3) := by decide +kernel
theorem dX8_set_14 : decode cX8_set 14 = .ok (.iload_n 1, 1) := by decide +kernel
theorem dX8_set_15 : decode cX8_set 15 = .ok (.invokevirtual 263, 3) := by decide +kernel
theorem dX8_set_18 : decode cX8_set 18 = .ok (.ireturn, 1) := by decide +kernel
theorem dX8_count_0 : decode cX8_count 0 = .ok (.iload_n 1, 1) := by decide +kernel
theorem dX8_count_1 : decode cX8_count 1 = .ok (.tableswitch 75 0 4 #[35, 43, 51, 59, 67], 35) := by decide +kernel
theorem dX8_count_36 : decode cX8_count 36 = .ok (.aload_n 0, 1) := by decide +kernel
theorem dX8_count_37 : decode cX8_count 37 = .ok (.getfield 21, 3) := by decide +kernel
theorem dX8_count_40 : decode cX8_count 40 = .ok (.getfield 108, 3) := by decide +kernel
theorem dX8_count_43 : decode cX8_count 43 = .ok (.ireturn, 1) := by decide +kernel
theorem dX8_count_44 : decode cX8_count 44 = .ok (.aload_n 0, 1) := by decide +kernel
theorem dX8_count_45 : decode cX8_count 45 = .ok (.getfield 21, 3) := by decide +kernel
theorem dX8_count_48 : decode cX8_count 48 = .ok (.invokevirtual 266, 3) := by decide +kernel
theorem dX8_count_51 : decode cX8_count 51 = .ok (.ireturn, 1) := by decide +kernel
theorem dX8_count_52 : decode cX8_count 52 = .ok (.aload_n 0, 1) := by decide +kernel
theorem dX8_count_53 : decode cX8_count 53 = .ok (.getfield 28, 3) := by decide +kernel
theorem dX8_count_56 : decode cX8_count 56 = .ok (.getfield 151, 3) := by decide +kernel
theorem dX8_count_59 : decode cX8_count 59 = .ok (.ireturn, 1) := by decide +kernel
theorem dX8_count_60 : decode cX8_count 60 = .ok (.aload_n 0, 1) := by decide +kernel
theorem dX8_count_61 : decode cX8_count 61 = .ok (.getfield 44, 3) := by decide +kernel
theorem dX8_count_64 : decode cX8_count 64 = .ok (.getfield 171, 3) := by decide +kernel
theorem dX8_count_67 : decode cX8_count 67 = .ok (.ireturn, 1) := by decide +kernel
theorem dX8_count_68 : decode cX8_count 68 = .ok (.aload_n 0, 1) := by decide +kernel
theorem dX8_count_69 : decode cX8_count 69 = .ok (.getfield 51, 3) := by decide +kernel
theorem dX8_count_72 : decode cX8_count 72 = .ok (.getfield 181, 3) := by decide +kernel
theorem dX8_count_75 : decode cX8_count 75 = .ok (.ireturn, 1) := by decide +kernel
theorem dX8_count_76 : decode cX8_count 76 = .ok (.bipush (-3), 2) := by decide +kernel
theorem dX8_count_78 : decode cX8_count 78 = .ok (.ireturn, 1) := by decide +kernel
theorem dX8_within_0 : decode cX8_within 0 = .ok (.iload_n 0, 1) := by decide +kernel
theorem dX8_within_1 : decode cX8_within 1 = .ok (.iload_n 1, 1) := by decide +kernel
theorem dX8_within_2 : decode cX8_within 2 = .ok (.if_icmp .lt 12, 3) := by decide +kernel
theorem dX8_within_5 : decode cX8_within 5 = .ok (.iload_n 0, 1) := by decide +kernel
theorem dX8_within_6 : decode cX8_within 6 = .ok (.iload_n 2, 1) := by decide +kernel
theorem dX8_within_7 : decode cX8_within 7 = .ok (.if_icmp .gt 7, 3) := by decide +kernel
theorem dX8_within_10 : decode cX8_within 10 = .ok (.iconst 1, 1) := by decide +kernel
theorem dX8_within_11 : decode cX8_within 11 = .ok (.goto 4, 3) := by decide +kernel
theorem dX8_within_14 : decode cX8_within 14 = .ok (.iconst 0, 1) := by decide +kernel
theorem dX8_within_15 : decode cX8_within 15 = .ok (.ireturn, 1) := by decide +kernel
theorem dX8_hasBit_0 : decode cX8_hasBit 0 = .ok (.iload_n 0, 1) := by decide +kernel
theorem dX8_hasBit_1 : decode cX8_hasBit 1 = .ok (.iload_n 1, 1) := by decide +kernel
theorem dX8_hasBit_2 : decode cX8_hasBit 2 = .ok (.ishr, 1) := by decide +kernel
theorem dX8_hasBit_3 : decode cX8_hasBit 3 = .ok (.iconst 1, 1) := by decide +kernel
theorem dX8_hasBit_4 : decode cX8_hasBit 4 = .ok (.iand, 1) := by decide +kernel
theorem dX8_hasBit_5 : decode cX8_hasBit 5 = .ok (.iconst 1, 1) := by decide +kernel
theorem dX8_hasBit_6 : decode cX8_hasBit 6 = .ok (.if_icmp .ne 7, 3) := by decide +kernel
theorem dX8_hasBit_9 : decode cX8_hasBit 9 = .ok (.iconst 1, 1) := by decide +kernel
theorem dX8_hasBit_10 : decode cX8_hasBit 10 = .ok (.goto 4, 3) := by decide +kernel
theorem dX8_hasBit_13 : decode cX8_hasBit 13 = .ok (.iconst 0, 1) := by decide +kernel
theorem dX8_hasBit_14 : decode cX8_hasBit 14 = .ok (.ireturn, 1) := by decide +kernel
theorem dX8_nibble_0 : decode cX8_nibble 0 = .ok (.iload_n 0, 1) := by decide +kernel
theorem dX8_nibble_1 : decode cX8_nibble 1 = .ok (.iconst 4, 1) := by decide +kernel
theorem dX8_nibble_2 : decode cX8_nibble 2 = .ok (.iload_n 1, 1) := by decide +kernel
theorem dX8_nibble_3 : decode cX8_nibble 3 = .ok (.imul, 1) := by decide +kernel
theorem dX8_nibble_4 : decode cX8_nibble 4 = .ok (.ishr, 1) := by decide +kernel
theorem dX8_nibble_5 : decode cX8_nibble 5 = .ok (.bipush 15, 2) := by decide +kernel
theorem dX8_nibble_7 : decode cX8_nibble 7 = .ok (.iand, 1) := by decide +kernel
theorem dX8_nibble_8 : decode cX8_nibble 8 = .ok (.ireturn, 1) := by decide +kernel
theorem dX8_nibblesWithin_0 : decode cX8_nibblesWithin 0 = .ok (.iconst 0, 1) := by decide +kernel
theorem dX8_nibblesWithin_1 : decode cX8_nibblesWithin 1 = .ok (.istore_n 3, 1) := by decide +kernel
theorem dX8_nibblesWithin_2 : decode cX8_nibblesWithin 2 = .ok (.iload_n 3, 1) := by decide +kernel
theorem dX8_nibblesWithin_3 : decode cX8_nibblesWithin 3 = .ok (.iload_n 1, 1) := by decide +kernel
theorem dX8_nibblesWithin_4 : decode cX8_nibblesWithin 4 = .ok (.if_icmp .ge 20, 3) := by decide +kernel
theorem dX8_nibblesWithin_7 : decode cX8_nibblesWithin 7 = .ok (.iload_n 0, 1) := by decide +kernel
theorem dX8_nibblesWithin_8 : decode cX8_nibblesWithin 8 = .ok (.iload_n 3, 1) := by decide +kernel
theorem dX8_nibblesWithin_9 : decode cX8_nibblesWithin 9 = .ok (.invokestatic 269, 3) := by decide +kernel
theorem dX8_nibblesWithin_12 : decode cX8_nibblesWithin 12 = .ok (.iload_n 2, 1) := by decide +kernel
theorem dX8_nibblesWithin_13 : decode cX8_nibblesWithin 13 = .ok (.if_icmp .le 5, 3) := by decide +kernel
theorem dX8_nibblesWithin_16 : decode cX8_nibblesWithin 16 = .ok (.iconst 0, 1) := by decide +kernel
theorem dX8_nibblesWithin_17 : decode cX8_nibblesWithin 17 = .ok (.ireturn, 1) := by decide +kernel
theorem dX8_nibblesWithin_18 : decode cX8_nibblesWithin 18 = .ok (.iinc 3 1, 3) := by decide +kernel
theorem dX8_nibblesWithin_21 : decode cX8_nibblesWithin 21 = .ok (.goto (-19), 3) := by decide +kernel
theorem dX8_nibblesWithin_24 : decode cX8_nibblesWithin 24 = .ok (.iconst 1, 1) := by decide +kernel
theorem dX8_nibblesWithin_25 : decode cX8_nibblesWithin 25 = .ok (.ireturn, 1) := by decide +kernel
theorem dX8_replace_0 : decode cX8_replace 0 = .ok (.aload_n 0, 1) := by decide +kernel
theorem dX8_replace_1 : decode cX8_replace 1 = .ok (.iload_n 1, 1) := by decide +kernel
theorem dX8_replace_2 : decode cX8_replace 2 = .ok (.iaload, 1) := by decide +kernel
theorem dX8_replace_3 : decode cX8_replace 3 = .ok (.istore_n 3, 1) := by decide +kernel
theorem dX8_replace_4 : decode cX8_replace 4 = .ok (.aload_n 0, 1) := by decide +kernel
theorem dX8_replace_5 : decode cX8_replace 5 = .ok (.iload_n 1, 1) := by decide +kernel
theorem dX8_replace_6 : decode cX8_replace 6 = .ok (.iload_n 2, 1) := by decide +kernel
theorem dX8_replace_7 : decode cX8_replace 7 = .ok (.iastore, 1) := by decide +kernel
theorem dX8_replace_8 : decode cX8_replace 8 = .ok (.iload_n 3, 1) := by decide +kernel
theorem dX8_replace_9 : decode cX8_replace 9 = .ok (.ireturn, 1) := by decide +kernel
theorem dX8_isNote_0 : decode cX8_isNote 0 = .ok (.iload_n 0, 1) := by decide +kernel
theorem dX8_isNote_1 : decode cX8_isNote 1 = .ok (.iconst 0, 1) := by decide +kernel
theorem dX8_isNote_2 : decode cX8_isNote 2 = .ok (.bipush 8, 2) := by decide +kernel
theorem dX8_isNote_4 : decode cX8_isNote 4 = .ok (.invokestatic 73, 3) := by decide +kernel
theorem dX8_isNote_7 : decode cX8_isNote 7 = .ok (.ireturn, 1) := by decide +kernel
theorem dX8_isMovement_0 : decode cX8_isMovement 0 = .ok (.iload_n 0, 1) := by decide +kernel
theorem dX8_isMovement_1 : decode cX8_isMovement 1 = .ok (.iconst 0, 1) := by decide +kernel
theorem dX8_isMovement_2 : decode cX8_isMovement 2 = .ok (.bipush 7, 2) := by decide +kernel
theorem dX8_isMovement_4 : decode cX8_isMovement 4 = .ok (.invokestatic 73, 3) := by decide +kernel
theorem dX8_isMovement_7 : decode cX8_isMovement 7 = .ok (.ireturn, 1) := by decide +kernel
theorem dX8_isMovementOrLost_0 : decode cX8_isMovementOrLost 0 = .ok (.iload_n 0, 1) := by decide +kernel
theorem dX8_isMovementOrLost_1 : decode cX8_isMovementOrLost 1 = .ok (.iconst (-1), 1) := by decide +kernel
theorem dX8_isMovementOrLost_2 : decode cX8_isMovementOrLost 2 = .ok (.if_icmp .eq 10, 3) := by decide +kernel
theorem dX8_isMovementOrLost_5 : decode cX8_isMovementOrLost 5 = .ok (.iload_n 0, 1) := by decide +kernel
theorem dX8_isMovementOrLost_6 : decode cX8_isMovementOrLost 6 = .ok (.invokestatic 69, 3) := by decide +kernel
theorem dX8_isMovementOrLost_9 : decode cX8_isMovementOrLost 9 = .ok (.ifCond .eq 7, 3) := by decide +kernel
theorem dX8_isMovementOrLost_12 : decode cX8_isMovementOrLost 12 = .ok (.iconst 1, 1) := by decide +kernel
theorem dX8_isMovementOrLost_13 : decode cX8_isMovementOrLost 13 = .ok (.goto 4, 3) := by decide +kernel
theorem dX8_isMovementOrLost_16 : decode cX8_isMovementOrLost 16 = .ok (.iconst 0, 1) := by decide +kernel
theorem dX8_isMovementOrLost_17 : decode cX8_isMovementOrLost 17 = .ok (.ireturn, 1) := by decide +kernel
theorem dX8_isRegion_0 : decode cX8_isRegion 0 = .ok (.iload_n 0, 1) := by decide +kernel
theorem dX8_isRegion_1 : decode cX8_isRegion 1 = .ok (.iconst 0, 1) := by decide +kernel
theorem dX8_isRegion_2 : decode cX8_isRegion 2 = .ok (.iconst 2, 1) := by decide +kernel
theorem dX8_isRegion_3 : decode cX8_isRegion 3 = .ok (.invokestatic 73, 3) := by decide +kernel
theorem dX8_isRegion_6 : decode cX8_isRegion 6 = .ok (.ireturn, 1) := by decide +kernel
theorem dX8_isRule_0 : decode cX8_isRule 0 = .ok (.iload_n 0, 1) := by decide +kernel
theorem dX8_isRule_1 : decode cX8_isRule 1 = .ok (.iconst 0, 1) := by decide +kernel
theorem dX8_isRule_2 : decode cX8_isRule 2 = .ok (.iconst 4, 1) := by decide +kernel
theorem dX8_isRule_3 : decode cX8_isRule 3 = .ok (.invokestatic 73, 3) := by decide +kernel
theorem dX8_isRule_6 : decode cX8_isRule 6 = .ok (.ireturn, 1) := by decide +kernel
theorem dX8_isPiper_0 : decode cX8_isPiper 0 = .ok (.iload_n 0, 1) := by decide +kernel
theorem dX8_isPiper_1 : decode cX8_isPiper 1 = .ok (.iconst 0, 1) := by decide +kernel
theorem dX8_isPiper_2 : decode cX8_isPiper 2 = .ok (.iconst 5, 1) := by decide +kernel
theorem dX8_isPiper_3 : decode cX8_isPiper 3 = .ok (.invokestatic 73, 3) := by decide +kernel
theorem dX8_isPiper_6 : decode cX8_isPiper 6 = .ok (.ireturn, 1) := by decide +kernel
theorem dX8_isBand_0 : decode cX8_isBand 0 = .ok (.iload_n 0, 1) := by decide +kernel
theorem dX8_isBand_1 : decode cX8_isBand 1 = .ok (.iconst 1, 1) := by decide +kernel
theorem dX8_isBand_2 : decode cX8_isBand 2 = .ok (.bipush 63, 2) := by decide +kernel
theorem dX8_isBand_4 : decode cX8_isBand 4 = .ok (.invokestatic 73, 3) := by decide +kernel
theorem dX8_isBand_7 : decode cX8_isBand 7 = .ok (.ireturn, 1) := by decide +kernel
theorem dX8_isMinute_0 : decode cX8_isMinute 0 = .ok (.iload_n 0, 1) := by decide +kernel
theorem dX8_isMinute_1 : decode cX8_isMinute 1 = .ok (.iconst 0, 1) := by decide +kernel
theorem dX8_isMinute_2 : decode cX8_isMinute 2 = .ok (.sipush 150, 3) := by decide +kernel
theorem dX8_isMinute_5 : decode cX8_isMinute 5 = .ok (.invokestatic 73, 3) := by decide +kernel
theorem dX8_isMinute_8 : decode cX8_isMinute 8 = .ok (.ireturn, 1) := by decide +kernel
theorem dX8_isPitch_0 : decode cX8_isPitch 0 = .ok (.iload_n 0, 1) := by decide +kernel
theorem dX8_isPitch_1 : decode cX8_isPitch 1 = .ok (.sipush (-999), 3) := by decide +kernel
theorem dX8_isPitch_4 : decode cX8_isPitch 4 = .ok (.sipush 999, 3) := by decide +kernel
theorem dX8_isPitch_7 : decode cX8_isPitch 7 = .ok (.invokestatic 73, 3) := by decide +kernel
theorem dX8_isPitch_10 : decode cX8_isPitch 10 = .ok (.ireturn, 1) := by decide +kernel
theorem dX8_isStep_0 : decode cX8_isStep 0 = .ok (.iload_n 1, 1) := by decide +kernel
theorem dX8_isStep_1 : decode cX8_isStep 1 = .ok (.iconst 0, 1) := by decide +kernel
theorem dX8_isStep_2 : decode cX8_isStep 2 = .ok (.aload_n 0, 1) := by decide +kernel
theorem dX8_isStep_3 : decode cX8_isStep 3 = .ok (.getfield 21, 3) := by decide +kernel
theorem dX8_isStep_6 : decode cX8_isStep 6 = .ok (.getfield 108, 3) := by decide +kernel
theorem dX8_isStep_9 : decode cX8_isStep 9 = .ok (.iconst 1, 1) := by decide +kernel
theorem dX8_isStep_10 : decode cX8_isStep 10 = .ok (.isub, 1) := by decide +kernel
theorem dX8_isStep_11 : decode cX8_isStep 11 = .ok (.invokestatic 73, 3) := by decide +kernel
theorem dX8_isStep_14 : decode cX8_isStep 14 = .ok (.ireturn, 1) := by decide +kernel
theorem dX8_isSheet_0 : decode cX8_isSheet 0 = .ok (.iload_n 1, 1) := by decide +kernel
theorem dX8_isSheet_1 : decode cX8_isSheet 1 = .ok (.iconst 0, 1) := by decide +kernel
theorem dX8_isSheet_2 : decode cX8_isSheet 2 = .ok (.aload_n 0, 1) := by decide +kernel
theorem dX8_isSheet_3 : decode cX8_isSheet 3 = .ok (.getfield 51, 3) := by decide +kernel
theorem dX8_isSheet_6 : decode cX8_isSheet 6 = .ok (.getfield 181, 3) := by decide +kernel
theorem dX8_isSheet_9 : decode cX8_isSheet 9 = .ok (.iconst 1, 1) := by decide +kernel
theorem dX8_isSheet_10 : decode cX8_isSheet 10 = .ok (.isub, 1) := by decide +kernel
theorem dX8_isSheet_11 : decode cX8_isSheet 11 = .ok (.invokestatic 73, 3) := by decide +kernel
theorem dX8_isSheet_14 : decode cX8_isSheet 14 = .ok (.ireturn, 1) := by decide +kernel
theorem dX8_isCell_0 : decode cX8_isCell 0 = .ok (.aload_n 0, 1) := by decide +kernel
theorem dX8_isCell_1 : decode cX8_isCell 1 = .ok (.iload_n 1, 1) := by decide +kernel
theorem dX8_isCell_2 : decode cX8_isCell 2 = .ok (.invokevirtual 189, 3) := by decide +kernel
theorem dX8_isCell_5 : decode cX8_isCell 5 = .ok (.ifCond .eq 26, 3) := by decide +kernel
theorem dX8_isCell_8 : decode cX8_isCell 8 = .ok (.iload_n 2, 1) := by decide +kernel
theorem dX8_isCell_9 : decode cX8_isCell 9 = .ok (.iconst 0, 1) := by decide +kernel
theorem dX8_isCell_10 : decode cX8_isCell 10 = .ok (.aload_n 0, 1) := by decide +kernel
theorem dX8_isCell_11 : decode cX8_isCell 11 = .ok (.getfield 51, 3) := by decide +kernel
theorem dX8_isCell_14 : decode cX8_isCell 14 = .ok (.getfield 192, 3) := by decide +kernel
theorem dX8_isCell_17 : decode cX8_isCell 17 = .ok (.iload_n 1, 1) := by decide +kernel
theorem dX8_isCell_18 : decode cX8_isCell 18 = .ok (.iaload, 1) := by decide +kernel
theorem dX8_isCell_19 : decode cX8_isCell 19 = .ok (.iconst 1, 1) := by decide +kernel
theorem dX8_isCell_20 : decode cX8_isCell 20 = .ok (.isub, 1) := by decide +kernel
theorem dX8_isCell_21 : decode cX8_isCell 21 = .ok (.invokestatic 73, 3) := by decide +kernel
theorem dX8_isCell_24 : decode cX8_isCell 24 = .ok (.ifCond .eq 7, 3) := by decide +kernel
theorem dX8_isCell_27 : decode cX8_isCell 27 = .ok (.iconst 1, 1) := by decide +kernel
theorem dX8_isCell_28 : decode cX8_isCell 28 = .ok (.goto 4, 3) := by decide +kernel
theorem dX8_isCell_31 : decode cX8_isCell 31 = .ok (.iconst 0, 1) := by decide +kernel
theorem dX8_isCell_32 : decode cX8_isCell 32 = .ok (.ireturn, 1) := by decide +kernel
theorem dX9_init_0 : decode cX9_init 0 = .ok (.aload_n 0, 1) := by decide +kernel
theorem dX9_init_1 : decode cX9_init 1 = .ok (.invokespecial 1, 3) := by decide +kernel
theorem dX9_init_4 : decode cX9_init 4 = .ok (.aload_n 0, 1) := by decide +kernel
theorem dX9_init_5 : decode cX9_init 5 = .ok (.bipush 8, 2) := by decide +kernel
theorem dX9_init_7 : decode cX9_init 7 = .ok (.newarray .int, 2) := by decide +kernel
theorem dX9_init_9 : decode cX9_init 9 = .ok (.putfield 7, 3) := by decide +kernel
theorem dX9_init_12 : decode cX9_init 12 = .ok (.aload_n 0, 1) := by decide +kernel
theorem dX9_init_13 : decode cX9_init 13 = .ok (.bipush 32, 2) := by decide +kernel
theorem dX9_init_15 : decode cX9_init 15 = .ok (.newarray .int, 2) := by decide +kernel
theorem dX9_init_17 : decode cX9_init 17 = .ok (.putfield 13, 3) := by decide +kernel
theorem dX9_init_20 : decode cX9_init 20 = .ok (.aload_n 0, 1) := by decide +kernel
theorem dX9_init_21 : decode cX9_init 21 = .ok (.bipush 8, 2) := by decide +kernel
theorem dX9_init_23 : decode cX9_init 23 = .ok (.newarray .int, 2) := by decide +kernel
theorem dX9_init_25 : decode cX9_init 25 = .ok (.putfield 16, 3) := by decide +kernel
theorem dX9_init_28 : decode cX9_init 28 = .ok (.aload_n 0, 1) := by decide +kernel
theorem dX9_init_29 : decode cX9_init 29 = .ok (.bipush 8, 2) := by decide +kernel
theorem dX9_init_31 : decode cX9_init 31 = .ok (.newarray .int, 2) := by decide +kernel
theorem dX9_init_33 : decode cX9_init 33 = .ok (.putfield 19, 3) := by decide +kernel
theorem dX9_init_36 : decode cX9_init 36 = .ok (.aload_n 0, 1) := by decide +kernel
theorem dX9_init_37 : decode cX9_init 37 = .ok (.iconst 1, 1) := by decide +kernel
theorem dX9_init_38 : decode cX9_init 38 = .ok (.putfield 22, 3) := by decide +kernel
theorem dX9_init_41 : decode cX9_init 41 = .ok (.aload_n 0, 1) := by decide +kernel
theorem dX9_init_42 : decode cX9_init 42 = .ok (.bipush 24, 2) := by decide +kernel
theorem dX9_init_44 : decode cX9_init 44 = .ok (.newarray .int, 2) := by decide +kernel
theorem dX9_init_46 : decode cX9_init 46 = .ok (.putfield 26, 3) := by decide +kernel
theorem dX9_init_49 : decode cX9_init 49 = .ok (.aload_n 0, 1) := by decide +kernel
theorem dX9_init_50 : decode cX9_init 50 = .ok (.bipush 24, 2) := by decide +kernel
theorem dX9_init_52 : decode cX9_init 52 = .ok (.newarray .int, 2) := by decide +kernel
theorem dX9_init_54 : decode cX9_init 54 = .ok (.putfield 29, 3) := by decide +kernel
theorem dX9_init_57 : decode cX9_init 57 = .ok (.aload_n 0, 1) := by decide +kernel
theorem dX9_init_58 : decode cX9_init 58 = .ok (.bipush 24, 2) := by decide +kernel
theorem dX9_init_60 : decode cX9_init 60 = .ok (.newarray .int, 2) := by decide +kernel
theorem dX9_init_62 : decode cX9_init 62 = .ok (.putfield 32, 3) := by decide +kernel
theorem dX9_init_65 : decode cX9_init 65 = .ok (.aload_n 0, 1) := by decide +kernel
theorem dX9_init_66 : decode cX9_init 66 = .ok (.bipush 24, 2) := by decide +kernel
theorem dX9_init_68 : decode cX9_init 68 = .ok (.newarray .int, 2) := by decide +kernel
theorem dX9_init_70 : decode cX9_init 70 = .ok (.putfield 35, 3) := by decide +kernel
theorem dX9_init_73 : decode cX9_init 73 = .ok (.aload_n 0, 1) := by decide +kernel
theorem dX9_init_74 : decode cX9_init 74 = .ok (.bipush 27, 2) := by decide +kernel
theorem dX9_init_76 : decode cX9_init 76 = .ok (.newarray .int, 2) := by decide +kernel
theorem dX9_init_78 : decode cX9_init 78 = .ok (.putfield 38, 3) := by decide +kernel
theorem dX9_init_81 : decode cX9_init 81 = .ok (.aload_n 0, 1) := by decide +kernel
theorem dX9_init_82 : decode cX9_init 82 = .ok (.bipush 12, 2) := by decide +kernel
theorem dX9_init_84 : decode cX9_init 84 = .ok (.newarray .int, 2) := by decide +kernel
theorem dX9_init_86 : decode cX9_init 86 = .ok (.putfield 41, 3) := by decide +kernel
theorem dX9_init_89 : decode cX9_init 89 = .ok (.aload_n 0, 1) := by decide +kernel
theorem dX9_init_90 : decode cX9_init 90 = .ok (.sipush 130, 3) := by decide +kernel
theorem dX9_init_93 : decode cX9_init 93 = .ok (.newarray .int, 2) := by decide +kernel
theorem dX9_init_95 : decode cX9_init 95 = .ok (.putfield 44, 3) := by decide +kernel
theorem dX9_init_98 : decode cX9_init 98 = .ok (.aload_n 0, 1) := by decide +kernel
theorem dX9_init_99 : decode cX9_init 99 = .ok (.iconst 5, 1) := by decide +kernel
theorem dX9_init_100 : decode cX9_init 100 = .ok (.newarray .int, 2) := by decide +kernel
theorem dX9_init_102 : decode cX9_init 102 = .ok (.putfield 47, 3) := by decide +kernel
theorem dX9_init_105 : decode cX9_init 105 = .ok (.aload_n 0, 1) := by decide +kernel
theorem dX9_init_106 : decode cX9_init 106 = .ok (.bipush 20, 2) := by decide +kernel
theorem dX9_init_108 : decode cX9_init 108 = .ok (.newarray .int, 2) := by decide +kernel
theorem dX9_init_110 : decode cX9_init 110 = .ok (.putfield 50, 3) := by decide +kernel
theorem dX9_init_113 : decode cX9_init 113 = .ok (.aload_n 0, 1) := by decide +kernel
theorem dX9_init_114 : decode cX9_init 114 = .ok (.bipush 16, 2) := by decide +kernel
theorem dX9_init_116 : decode cX9_init 116 = .ok (.newarray .int, 2) := by decide +kernel
theorem dX9_init_118 : decode cX9_init 118 = .ok (.putfield 53, 3) := by decide +kernel
theorem dX9_init_121 : decode cX9_init 121 = .ok (.aload_n 0, 1) := by decide +kernel
theorem dX9_init_122 : decode cX9_init 122 = .ok (.iconst 3, 1) := by decide +kernel
theorem dX9_init_123 : decode cX9_init 123 = .ok (.newarray .int, 2) := by decide +kernel
theorem dX9_init_125 : decode cX9_init 125 = .ok (.putfield 56, 3) := by decide +kernel
theorem dX9_init_128 : decode cX9_init 128 = .ok (.aload_n 0, 1) := by decide +kernel
theorem dX9_init_129 : decode cX9_init 129 = .ok (.sipush 192, 3) := by decide +kernel
theorem dX9_init_132 : decode cX9_init 132 = .ok (.newarray .int, 2) := by decide +kernel
theorem dX9_init_134 : decode cX9_init 134 = .ok (.putfield 59, 3) := by decide +kernel
theorem dX9_init_137 : decode cX9_init 137 = .ok (.aload_n 0, 1) := by decide +kernel
theorem dX9_init_138 : decode cX9_init 138 = .ok (.sipush 1296, 3) := by decide +kernel
theorem dX9_init_141 : decode cX9_init 141 = .ok (.newarray .int, 2) := by decide +kernel
theorem dX9_init_143 : decode cX9_init 143 = .ok (.putfield 62, 3) := by decide +kernel
theorem dX9_init_146 : decode cX9_init 146 = .ok (.aload_n 0, 1) := by decide +kernel
theorem dX9_init_147 : decode cX9_init 147 = .ok (.sipush 153, 3) := by decide +kernel
theorem dX9_init_150 : decode cX9_init 150 = .ok (.newarray .int, 2) := by decide +kernel
theorem dX9_init_152 : decode cX9_init 152 = .ok (.putfield 65, 3) := by decide +kernel
theorem dX9_init_155 : decode cX9_init 155 = .ok (.aload_n 0, 1) := by decide +kernel
theorem dX9_init_156 : decode cX9_init 156 = .ok (.bipush 16, 2) := by decide +kernel
theorem dX9_init_158 : decode cX9_init 158 = .ok (.newarray .int, 2) := by decide +kernel
theorem dX9_init_160 : decode cX9_init 160 = .ok (.putfield 68, 3) := by decide +kernel
theorem dX9_init_163 : decode cX9_init 163 = .ok (.aload_n 0, 1) := by decide +kernel
theorem dX9_init_164 : decode cX9_init 164 = .ok (.bipush 6, 2) := by decide +kernel
theorem dX9_init_166 : decode cX9_init 166 = .ok (.newarray .int, 2) := by decide +kernel
theorem dX9_init_168 : decode cX9_init 168 = .ok (.putfield 71, 3) := by decide +kernel
theorem dX9_init_171 : decode cX9_init 171 = .ok (.aload_n 0, 1) := by decide +kernel
theorem dX9_init_172 : decode cX9_init 172 = .ok (.bipush 6, 2) := by decide +kernel
theorem dX9_init_174 : decode cX9_init 174 = .ok (.newarray .int, 2) := by decide +kernel
theorem dX9_init_176 : decode cX9_init 176 = .ok (.putfield 74, 3) := by decide +kernel
theorem dX9_init_179 : decode cX9_init 179 = .ok (.aload_n 0, 1) := by decide +kernel
theorem dX9_init_180 : decode cX9_init 180 = .ok (.bipush 6, 2) := by decide +kernel
theorem dX9_init_182 : decode cX9_init 182 = .ok (.newarray .int, 2) := by decide +kernel
theorem dX9_init_184 : decode cX9_init 184 = .ok (.putfield 77, 3) := by decide +kernel
theorem dX9_init_187 : decode cX9_init 187 = .ok (.aload_n 0, 1) := by decide +kernel
theorem dX9_init_188 : decode cX9_init 188 = .ok (.bipush 6, 2) := by decide +kernel
theorem dX9_init_190 : decode cX9_init 190 = .ok (.newarray .int, 2) := by decide +kernel
theorem dX9_init_192 : decode cX9_init 192 = .ok (.putfield 80, 3) := by decide +kernel
theorem dX9_init_195 : decode cX9_init 195 = .ok (.aload_n 0, 1) := by decide +kernel
theorem dX9_init_196 : decode cX9_init 196 = .ok (.bipush 9, 2) := by decide +kernel
theorem dX9_init_198 : decode cX9_init 198 = .ok (.newarray .int, 2) := by decide +kernel
theorem dX9_init_200 : decode cX9_init 200 = .ok (.putfield 83, 3) := by decide +kernel
theorem dX9_init_203 : decode cX9_init 203 = .ok (.aload_n 0, 1) := by decide +kernel
theorem dX9_init_204 : decode cX9_init 204 = .ok (.getfield 16, 3) := by decide +kernel
theorem dX9_init_207 : decode cX9_init 207 = .ok (.iconst 0, 1) := by decide +kernel
theorem dX9_init_208 : decode cX9_init 208 = .ok (.sipush 511, 3) := by decide +kernel
theorem dX9_init_211 : decode cX9_init 211 = .ok (.iastore, 1) := by decide +kernel
theorem dX9_init_212 : decode cX9_init 212 = .ok (.aload_n 0, 1) := by decide +kernel
theorem dX9_init_213 : decode cX9_init 213 = .ok (.getfield 19, 3) := by decide +kernel
theorem dX9_init_216 : decode cX9_init 216 = .ok (.iconst 0, 1) := by decide +kernel
theorem dX9_init_217 : decode cX9_init 217 = .ok (.sipush 511, 3) := by decide +kernel
theorem dX9_init_220 : decode cX9_init 220 = .ok (.iastore, 1) := by decide +kernel
theorem dX9_init_221 : decode cX9_init 221 = .ok (.iconst 0, 1) := by decide +kernel
theorem dX9_init_222 : decode cX9_init 222 = .ok (.istore_n 1, 1) := by decide +kernel
theorem dX9_init_223 : decode cX9_init 223 = .ok (.iload_n 1, 1) := by decide +kernel
theorem dX9_init_224 : decode cX9_init 224 = .ok (.iconst 3, 1) := by decide +kernel
theorem dX9_init_225 : decode cX9_init 225 = .ok (.if_icmp .ge 69, 3) := by decide +kernel
theorem dX9_init_228 : decode cX9_init 228 = .ok (.iconst 0, 1) := by decide +kernel
theorem dX9_init_229 : decode cX9_init 229 = .ok (.istore_n 2, 1) := by decide +kernel
theorem dX9_init_230 : decode cX9_init 230 = .ok (.iload_n 2, 1) := by decide +kernel
theorem dX9_init_231 : decode cX9_init 231 = .ok (.bipush 9, 2) := by decide +kernel
theorem dX9_init_233 : decode cX9_init 233 = .ok (.if_icmp .ge 55, 3) := by decide +kernel
theorem dX9_init_236 : decode cX9_init 236 = .ok (.aload_n 0, 1) := by decide +kernel
theorem dX9_init_237 : decode cX9_init 237 = .ok (.getfield 35, 3) := by decide +kernel
theorem dX9_init_240 : decode cX9_init 240 = .ok (.bipush 8, 2) := by decide +kernel
theorem dX9_init_242 : decode cX9_init 242 = .ok (.iload_n 1, 1) := by decide +kernel
theorem dX9_init_243 : decode cX9_init 243 = .ok (.imul, 1) := by decide +kernel
theorem dX9_init_244 : decode cX9_init 244 = .ok (.iload_n 2, 1) := by decide +kernel
theorem dX9_init_245 : decode cX9_init 245 = .ok (.bipush 8, 2) := by decide +kernel
theorem dX9_init_247 : decode cX9_init 247 = .ok (.if_icmp .ge 7, 3) := by decide +kernel
theorem dX9_init_250 : decode cX9_init 250 = .ok (.iload_n 2, 1) := by decide +kernel
theorem dX9_init_251 : decode cX9_init 251 = .ok (.goto 4, 3) := by decide +kernel
theorem dX9_init_254 : decode cX9_init 254 = .ok (.iconst 0, 1) := by decide +kernel
theorem dX9_init_255 : decode cX9_init 255 = .ok (.iadd, 1) := by decide +kernel
theorem dX9_init_256 : decode cX9_init 256 = .ok (.iload_n 2, 1) := by decide +kernel
theorem dX9_init_257 : decode cX9_init 257 = .ok (.bipush 8, 2) := by decide +kernel
theorem dX9_init_259 : decode cX9_init 259 = .ok (.if_icmp .ge 7, 3) := by decide +kernel
theorem dX9_init_262 : decode cX9_init 262 = .ok (.iload_n 2, 1) := by decide +kernel
theorem dX9_init_263 : decode cX9_init 263 = .ok (.goto 4, 3) := by decide +kernel
theorem dX9_init_266 : decode cX9_init 266 = .ok (.iconst 0, 1) := by decide +kernel
theorem dX9_init_267 : decode cX9_init 267 = .ok (.iastore, 1) := by decide +kernel
theorem dX9_init_268 : decode cX9_init 268 = .ok (.aload_n 0, 1) := by decide +kernel
theorem dX9_init_269 : decode cX9_init 269 = .ok (.getfield 38, 3) := by decide +kernel
theorem dX9_init_272 : decode cX9_init 272 = .ok (.bipush 9, 2) := by decide +kernel
theorem dX9_init_274 : decode cX9_init 274 = .ok (.iload_n 1, 1) := by decide +kernel
theorem dX9_init_275 : decode cX9_init 275 = .ok (.imul, 1) := by decide +kernel
theorem dX9_init_276 : decode cX9_init 276 = .ok (.iload_n 2, 1) := by decide +kernel
theorem dX9_init_277 : decode cX9_init 277 = .ok (.iadd, 1) := by decide +kernel
theorem dX9_init_278 : decode cX9_init 278 = .ok (.iload_n 2, 1) := by decide +kernel
theorem dX9_init_279 : decode cX9_init 279 = .ok (.iconst 3, 1) := by decide +kernel
theorem dX9_init_280 : decode cX9_init 280 = .ok (.idiv, 1) := by decide +kernel
theorem dX9_init_281 : decode cX9_init 281 = .ok (.iastore, 1) := by decide +kernel
theorem dX9_init_282 : decode cX9_init 282 = .ok (.iinc 2 1, 3) := by decide +kernel
theorem dX9_init_285 : decode cX9_init 285 = .ok (.goto (-55), 3) := by decide +kernel
theorem dX9_init_288 : decode cX9_init 288 = .ok (.iinc 1 1, 3) := by decide +kernel
theorem dX9_init_291 : decode cX9_init 291 = .ok (.goto (-68), 3) := by decide +kernel
theorem dX9_init_294 : decode cX9_init 294 = .ok (.iconst 0, 1) := by decide +kernel
theorem dX9_init_295 : decode cX9_init 295 = .ok (.istore_n 1, 1) := by decide +kernel
theorem dX9_init_296 : decode cX9_init 296 = .ok (.iload_n 1, 1) := by decide +kernel
theorem dX9_init_297 : decode cX9_init 297 = .ok (.iconst 5, 1) := by decide +kernel
theorem dX9_init_298 : decode cX9_init 298 = .ok (.if_icmp .ge 26, 3) := by decide +kernel
theorem dX9_init_301 : decode cX9_init 301 = .ok (.aload_n 0, 1) := by decide +kernel
theorem dX9_init_302 : decode cX9_init 302 = .ok (.getfield 47, 3) := by decide +kernel
theorem dX9_init_305 : decode cX9_init 305 = .ok (.iload_n 1, 1) := by decide +kernel
theorem dX9_init_306 : decode cX9_init 306 = .ok (.iconst 1, 1) := by decide +kernel
theorem dX9_init_307 : decode cX9_init 307 = .ok (.iastore, 1) := by decide +kernel
theorem dX9_init_308 : decode cX9_init 308 = .ok (.aload_n 0, 1) := by decide +kernel
theorem dX9_init_309 : decode cX9_init 309 = .ok (.getfield 50, 3) := by decide +kernel
theorem dX9_init_312 : decode cX9_init 312 = .ok (.iconst 4, 1) := by decide +kernel
theorem dX9_init_313 : decode cX9_init 313 = .ok (.iload_n 1, 1) := by decide +kernel
theorem dX9_init_314 : decode cX9_init 314 = .ok (.imul, 1) := by decide +kernel
theorem dX9_init_315 : decode cX9_init 315 = .ok (.bipush 9, 2) := by decide +kernel
theorem dX9_init_317 : decode cX9_init 317 = .ok (.iastore, 1) := by decide +kernel
theorem dX9_init_318 : decode cX9_init 318 = .ok (.iinc 1 1, 3) := by decide +kernel
theorem dX9_init_321 : decode cX9_init 321 = .ok (.goto (-25), 3) := by decide +kernel
theorem dX9_init_324 : decode cX9_init 324 = .ok (.iconst 0, 1) := by decide +kernel
theorem dX9_init_325 : decode cX9_init 325 = .ok (.istore_n 1, 1) := by decide +kernel
theorem dX9_init_326 : decode cX9_init 326 = .ok (.iload_n 1, 1) := by decide +kernel
theorem dX9_init_327 : decode cX9_init 327 = .ok (.bipush 6, 2) := by decide +kernel
theorem dX9_init_329 : decode cX9_init 329 = .ok (.if_icmp .ge 16, 3) := by decide +kernel
theorem dX9_init_332 : decode cX9_init 332 = .ok (.aload_n 0, 1) := by decide +kernel
theorem dX9_init_333 : decode cX9_init 333 = .ok (.getfield 77, 3) := by decide +kernel
theorem dX9_init_336 : decode cX9_init 336 = .ok (.iload_n 1, 1) := by decide +kernel
theorem dX9_init_337 : decode cX9_init 337 = .ok (.iconst 1, 1) := by decide +kernel
theorem dX9_init_338 : decode cX9_init 338 = .ok (.iastore, 1) := by decide +kernel
theorem dX9_init_339 : decode cX9_init 339 = .ok (.iinc 1 1, 3) := by decide +kernel
theorem dX9_init_342 : decode cX9_init 342 = .ok (.goto (-16), 3) := by decide +kernel
theorem dX9_init_345 : decode cX9_init 345 = .ok (.return_, 1) := by decide +kernel
theorem dX9_in_0 : decode cX9_in 0 = .ok (.iload_n 0, 1) := by decide +kernel
theorem dX9_in_1 : decode cX9_in 1 = .ok (.iload_n 1, 1) := by decide +kernel
theorem dX9_in_2 : decode cX9_in 2 = .ok (.if_icmp .lt 12, 3) := by decide +kernel
theorem dX9_in_5 : decode cX9_in 5 = .ok (.iload_n 0, 1) := by decide +kernel
theorem dX9_in_6 : decode cX9_in 6 = .ok (.iload_n 2, 1) := by decide +kernel
theorem dX9_in_7 : decode cX9_in 7 = .ok (.if_icmp .gt 7, 3) := by decide +kernel
theorem dX9_in_10 : decode cX9_in 10 = .ok (.iconst 1, 1) := by decide +kernel
theorem dX9_in_11 : decode cX9_in 11 = .ok (.goto 4, 3) := by decide +kernel
theorem dX9_in_14 : decode cX9_in 14 = .ok (.iconst 0, 1) := by decide +kernel
theorem dX9_in_15 : decode cX9_in 15 = .ok (.ireturn, 1) := by decide +kernel
theorem dX9_isNote_0 : decode cX9_isNote 0 = .ok (.iload_n 0, 1) := by decide +kernel
theorem dX9_isNote_1 : decode cX9_isNote 1 = .ok (.iconst 0, 1) := by decide +kernel
theorem dX9_isNote_2 : decode cX9_isNote 2 = .ok (.bipush 8, 2) := by decide +kernel
theorem dX9_isNote_4 : decode cX9_isNote 4 = .ok (.invokestatic 86, 3) := by decide +kernel
theorem dX9_isNote_7 : decode cX9_isNote 7 = .ok (.ireturn, 1) := by decide +kernel
theorem dX9_isMovement_0 : decode cX9_isMovement 0 = .ok (.iload_n 0, 1) := by decide +kernel
theorem dX9_isMovement_1 : decode cX9_isMovement 1 = .ok (.iconst 0, 1) := by decide +kernel
theorem dX9_isMovement_2 : decode cX9_isMovement 2 = .ok (.bipush 7, 2) := by decide +kernel
theorem dX9_isMovement_4 : decode cX9_isMovement 4 = .ok (.invokestatic 86, 3) := by decide +kernel
theorem dX9_isMovement_7 : decode cX9_isMovement 7 = .ok (.ireturn, 1) := by decide +kernel
theorem dX9_isRegion_0 : decode cX9_isRegion 0 = .ok (.iload_n 0, 1) := by decide +kernel
theorem dX9_isRegion_1 : decode cX9_isRegion 1 = .ok (.iconst 0, 1) := by decide +kernel
theorem dX9_isRegion_2 : decode cX9_isRegion 2 = .ok (.iconst 2, 1) := by decide +kernel
theorem dX9_isRegion_3 : decode cX9_isRegion 3 = .ok (.invokestatic 86, 3) := by decide +kernel
theorem dX9_isRegion_6 : decode cX9_isRegion 6 = .ok (.ireturn, 1) := by decide +kernel
theorem dX9_isRule_0 : decode cX9_isRule 0 = .ok (.iload_n 0, 1) := by decide +kernel
theorem dX9_isRule_1 : decode cX9_isRule 1 = .ok (.iconst 0, 1) := by decide +kernel
theorem dX9_isRule_2 : decode cX9_isRule 2 = .ok (.iconst 4, 1) := by decide +kernel
end
section
theorem dX9_isRule_3 : decode cX9_isRule 3 = .ok (.invokestatic 86, 3) := by decide +kernel
theorem dX9_isRule_6 : decode cX9_isRule 6 = .ok (.ireturn, 1) := by decide +kernel
theorem dX9_isPiper_0 : decode cX9_isPiper 0 = .ok (.iload_n 0, 1) := by decide +kernel
theorem dX9_isPiper_1 : decode cX9_isPiper 1 = .ok (.iconst 0, 1) := by decide +kernel
theorem dX9_isPiper_2 : decode cX9_isPiper 2 = .ok (.iconst 5, 1) := by decide +kernel
theorem dX9_isPiper_3 : decode cX9_isPiper 3 = .ok (.invokestatic 86, 3) := by decide +kernel
theorem dX9_isPiper_6 : decode cX9_isPiper 6 = .ok (.ireturn, 1) := by decide +kernel
theorem dX9_plus_0 : decode cX9_plus 0 = .ok (.iload_n 0, 1) := by decide +kernel
theorem dX9_plus_1 : decode cX9_plus 1 = .ok (.iload_n 1, 1) := by decide +kernel
theorem dX9_plus_2 : decode cX9_plus 2 = .ok (.iadd, 1) := by decide +kernel
theorem dX9_plus_3 : decode cX9_plus 3 = .ok (.ldc 90, 2) := by decide +kernel
theorem dX9_plus_5 : decode cX9_plus 5 = .ok (.if_icmp .le 8, 3) := by decide +kernel
theorem dX9_plus_8 : decode cX9_plus 8 = .ok (.ldc 90, 2) := by decide +kernel
theorem dX9_plus_10 : decode cX9_plus 10 = .ok (.goto 6, 3) := by decide +kernel
theorem dX9_plus_13 : decode cX9_plus 13 = .ok (.iload_n 0, 1) := by decide +kernel
theorem dX9_plus_14 : decode cX9_plus 14 = .ok (.iload_n 1, 1) := by decide +kernel
theorem dX9_plus_15 : decode cX9_plus 15 = .ok (.iadd, 1) := by decide +kernel
theorem dX9_plus_16 : decode cX9_plus 16 = .ok (.ireturn, 1) := by decide +kernel
theorem dX9_movement_0 : decode cX9_movement 0 = .ok (.iload_n 1, 1) := by decide +kernel
theorem dX9_movement_1 : decode cX9_movement 1 = .ok (.invokestatic 91, 3) := by decide +kernel
theorem dX9_movement_4 : decode cX9_movement 4 = .ok (.ifCond .ne 6, 3) := by decide +kernel
theorem dX9_movement_7 : decode cX9_movement 7 = .ok (.bipush (-2), 2) := by decide +kernel
theorem dX9_movement_9 : decode cX9_movement 9 = .ok (.ireturn, 1) := by decide +kernel
theorem dX9_movement_10 : decode cX9_movement 10 = .ok (.iload_n 2, 1) := by decide +kernel
theorem dX9_movement_11 : decode cX9_movement 11 = .ok (.iconst 0, 1) := by decide +kernel
theorem dX9_movement_12 : decode cX9_movement 12 = .ok (.iconst 4, 1) := by decide +kernel
theorem dX9_movement_13 : decode cX9_movement 13 = .ok (.invokestatic 86, 3) := by decide +kernel
theorem dX9_movement_16 : decode cX9_movement 16 = .ok (.ifCond .ne 6, 3) := by decide +kernel
theorem dX9_movement_19 : decode cX9_movement 19 = .ok (.bipush (-3), 2) := by decide +kernel
theorem dX9_movement_21 : decode cX9_movement 21 = .ok (.ireturn, 1) := by decide +kernel
theorem dX9_movement_22 : decode cX9_movement 22 = .ok (.iconst 0, 1) := by decide +kernel
theorem dX9_movement_23 : decode cX9_movement 23 = .ok (.istore 4, 2) := by decide +kernel
theorem dX9_movement_25 : decode cX9_movement 25 = .ok (.iload 4, 2) := by decide +kernel
theorem dX9_movement_27 : decode cX9_movement 27 = .ok (.iload_n 2, 1) := by decide +kernel
theorem dX9_movement_28 : decode cX9_movement 28 = .ok (.if_icmp .ge 27, 3) := by decide +kernel
theorem dX9_movement_31 : decode cX9_movement 31 = .ok (.iload_n 3, 1) := by decide +kernel
theorem dX9_movement_32 : decode cX9_movement 32 = .ok (.iconst 4, 1) := by decide +kernel
theorem dX9_movement_33 : decode cX9_movement 33 = .ok (.iload 4, 2) := by decide +kernel
theorem dX9_movement_35 : decode cX9_movement 35 = .ok (.imul, 1) := by decide +kernel
theorem dX9_movement_36 : decode cX9_movement 36 = .ok (.ishr, 1) := by decide +kernel
theorem dX9_movement_37 : decode cX9_movement 37 = .ok (.bipush 15, 2) := by decide +kernel
theorem dX9_movement_39 : decode cX9_movement 39 = .ok (.iand, 1) := by decide +kernel
theorem dX9_movement_40 : decode cX9_movement 40 = .ok (.invokestatic 95, 3) := by decide +kernel
theorem dX9_movement_43 : decode cX9_movement 43 = .ok (.ifCond .ne 6, 3) := by decide +kernel
theorem dX9_movement_46 : decode cX9_movement 46 = .ok (.bipush (-3), 2) := by decide +kernel
theorem dX9_movement_48 : decode cX9_movement 48 = .ok (.ireturn, 1) := by decide +kernel
theorem dX9_movement_49 : decode cX9_movement 49 = .ok (.iinc 4 1, 3) := by decide +kernel
theorem dX9_movement_52 : decode cX9_movement 52 = .ok (.goto (-27), 3) := by decide +kernel
theorem dX9_movement_55 : decode cX9_movement 55 = .ok (.aload_n 0, 1) := by decide +kernel
theorem dX9_movement_56 : decode cX9_movement 56 = .ok (.getfield 7, 3) := by decide +kernel
theorem dX9_movement_59 : decode cX9_movement 59 = .ok (.iload_n 1, 1) := by decide +kernel
theorem dX9_movement_60 : decode cX9_movement 60 = .ok (.iload_n 2, 1) := by decide +kernel
theorem dX9_movement_61 : decode cX9_movement 61 = .ok (.iastore, 1) := by decide +kernel
theorem dX9_movement_62 : decode cX9_movement 62 = .ok (.iconst 0, 1) := by decide +kernel
theorem dX9_movement_63 : decode cX9_movement 63 = .ok (.istore 4, 2) := by decide +kernel
theorem dX9_movement_65 : decode cX9_movement 65 = .ok (.iload 4, 2) := by decide +kernel
theorem dX9_movement_67 : decode cX9_movement 67 = .ok (.iload_n 2, 1) := by decide +kernel
theorem dX9_movement_68 : decode cX9_movement 68 = .ok (.if_icmp .ge 29, 3) := by decide +kernel
theorem dX9_movement_71 : decode cX9_movement 71 = .ok (.aload_n 0, 1) := by decide +kernel
theorem dX9_movement_72 : decode cX9_movement 72 = .ok (.getfield 13, 3) := by decide +kernel
theorem dX9_movement_75 : decode cX9_movement 75 = .ok (.iconst 4, 1) := by decide +kernel
theorem dX9_movement_76 : decode cX9_movement 76 = .ok (.iload_n 1, 1) := by decide +kernel
theorem dX9_movement_77 : decode cX9_movement 77 = .ok (.imul, 1) := by decide +kernel
theorem dX9_movement_78 : decode cX9_movement 78 = .ok (.iload 4, 2) := by decide +kernel
theorem dX9_movement_80 : decode cX9_movement 80 = .ok (.iadd, 1) := by decide +kernel
theorem dX9_movement_81 : decode cX9_movement 81 = .ok (.iload_n 3, 1) := by decide +kernel
theorem dX9_movement_82 : decode cX9_movement 82 = .ok (.iconst 4, 1) := by decide +kernel
theorem dX9_movement_83 : decode cX9_movement 83 = .ok (.iload 4, 2) := by decide +kernel
theorem dX9_movement_85 : decode cX9_movement 85 = .ok (.imul, 1) := by decide +kernel
theorem dX9_movement_86 : decode cX9_movement 86 = .ok (.ishr, 1) := by decide +kernel
theorem dX9_movement_87 : decode cX9_movement 87 = .ok (.bipush 15, 2) := by decide +kernel
theorem dX9_movement_89 : decode cX9_movement 89 = .ok (.iand, 1) := by decide +kernel
theorem dX9_movement_90 : decode cX9_movement 90 = .ok (.iastore, 1) := by decide +kernel
theorem dX9_movement_91 : decode cX9_movement 91 = .ok (.iinc 4 1, 3) := by decide +kernel
theorem dX9_movement_94 : decode cX9_movement 94 = .ok (.goto (-29), 3) := by decide +kernel
theorem dX9_movement_97 : decode cX9_movement 97 = .ok (.iconst 1, 1) := by decide +kernel
theorem dX9_movement_98 : decode cX9_movement 98 = .ok (.ireturn, 1) := by decide +kernel
theorem dX9_may_0 : decode cX9_may 0 = .ok (.iload_n 1, 1) := by decide +kernel
theorem dX9_may_1 : decode cX9_may 1 = .ok (.invokestatic 91, 3) := by decide +kernel
theorem dX9_may_4 : decode cX9_may 4 = .ok (.ifCond .ne 6, 3) := by decide +kernel
theorem dX9_may_7 : decode cX9_may 7 = .ok (.bipush (-2), 2) := by decide +kernel
theorem dX9_may_9 : decode cX9_may 9 = .ok (.ireturn, 1) := by decide +kernel
theorem dX9_may_10 : decode cX9_may 10 = .ok (.iload_n 2, 1) := by decide +kernel
theorem dX9_may_11 : decode cX9_may 11 = .ok (.iconst 0, 1) := by decide +kernel
theorem dX9_may_12 : decode cX9_may 12 = .ok (.iconst 1, 1) := by decide +kernel
theorem dX9_may_13 : decode cX9_may 13 = .ok (.invokestatic 86, 3) := by decide +kernel
theorem dX9_may_16 : decode cX9_may 16 = .ok (.ifCond .eq 14, 3) := by decide +kernel
theorem dX9_may_19 : decode cX9_may 19 = .ok (.iload_n 3, 1) := by decide +kernel
theorem dX9_may_20 : decode cX9_may 20 = .ok (.iconst 0, 1) := by decide +kernel
theorem dX9_may_21 : decode cX9_may 21 = .ok (.sipush 511, 3) := by decide +kernel
theorem dX9_may_24 : decode cX9_may 24 = .ok (.invokestatic 86, 3) := by decide +kernel
theorem dX9_may_27 : decode cX9_may 27 = .ok (.ifCond .ne 6, 3) := by decide +kernel
theorem dX9_may_30 : decode cX9_may 30 = .ok (.bipush (-3), 2) := by decide +kernel
theorem dX9_may_32 : decode cX9_may 32 = .ok (.ireturn, 1) := by decide +kernel
theorem dX9_may_33 : decode cX9_may 33 = .ok (.iload_n 2, 1) := by decide +kernel
theorem dX9_may_34 : decode cX9_may 34 = .ok (.ifCond .ne 12, 3) := by decide +kernel
theorem dX9_may_37 : decode cX9_may 37 = .ok (.aload_n 0, 1) := by decide +kernel
theorem dX9_may_38 : decode cX9_may 38 = .ok (.getfield 16, 3) := by decide +kernel
theorem dX9_may_41 : decode cX9_may 41 = .ok (.iload_n 1, 1) := by decide +kernel
theorem dX9_may_42 : decode cX9_may 42 = .ok (.iaload, 1) := by decide +kernel
theorem dX9_may_43 : decode cX9_may 43 = .ok (.goto 9, 3) := by decide +kernel
theorem dX9_may_46 : decode cX9_may 46 = .ok (.aload_n 0, 1) := by decide +kernel
theorem dX9_may_47 : decode cX9_may 47 = .ok (.getfield 19, 3) := by decide +kernel
theorem dX9_may_50 : decode cX9_may 50 = .ok (.iload_n 1, 1) := by decide +kernel
theorem dX9_may_51 : decode cX9_may 51 = .ok (.iaload, 1) := by decide +kernel
theorem dX9_may_52 : decode cX9_may 52 = .ok (.istore 4, 2) := by decide +kernel
theorem dX9_may_54 : decode cX9_may 54 = .ok (.aload_n 0, 1) := by decide +kernel
theorem dX9_may_55 : decode cX9_may 55 = .ok (.getfield 16, 3) := by decide +kernel
theorem dX9_may_58 : decode cX9_may 58 = .ok (.iload_n 1, 1) := by decide +kernel
theorem dX9_may_59 : decode cX9_may 59 = .ok (.iload_n 2, 1) := by decide +kernel
theorem dX9_may_60 : decode cX9_may 60 = .ok (.ifCond .ne 7, 3) := by decide +kernel
theorem dX9_may_63 : decode cX9_may 63 = .ok (.iload_n 3, 1) := by decide +kernel
theorem dX9_may_64 : decode cX9_may 64 = .ok (.goto 9, 3) := by decide +kernel
theorem dX9_may_67 : decode cX9_may 67 = .ok (.aload_n 0, 1) := by decide +kernel
theorem dX9_may_68 : decode cX9_may 68 = .ok (.getfield 16, 3) := by decide +kernel
theorem dX9_may_71 : decode cX9_may 71 = .ok (.iload_n 1, 1) := by decide +kernel
theorem dX9_may_72 : decode cX9_may 72 = .ok (.iaload, 1) := by decide +kernel
theorem dX9_may_73 : decode cX9_may 73 = .ok (.iastore, 1) := by decide +kernel
theorem dX9_may_74 : decode cX9_may 74 = .ok (.aload_n 0, 1) := by decide +kernel
theorem dX9_may_75 : decode cX9_may 75 = .ok (.getfield 19, 3) := by decide +kernel
theorem dX9_may_78 : decode cX9_may 78 = .ok (.iload_n 1, 1) := by decide +kernel
theorem dX9_may_79 : decode cX9_may 79 = .ok (.iload_n 2, 1) := by decide +kernel
theorem dX9_may_80 : decode cX9_may 80 = .ok (.iconst 1, 1) := by decide +kernel
theorem dX9_may_81 : decode cX9_may 81 = .ok (.if_icmp .ne 7, 3) := by decide +kernel
theorem dX9_may_84 : decode cX9_may 84 = .ok (.iload_n 3, 1) := by decide +kernel
theorem dX9_may_85 : decode cX9_may 85 = .ok (.goto 9, 3) := by decide +kernel
theorem dX9_may_88 : decode cX9_may 88 = .ok (.aload_n 0, 1) := by decide +kernel
theorem dX9_may_89 : decode cX9_may 89 = .ok (.getfield 19, 3) := by decide +kernel
theorem dX9_may_92 : decode cX9_may 92 = .ok (.iload_n 1, 1) := by decide +kernel
theorem dX9_may_93 : decode cX9_may 93 = .ok (.iaload, 1) := by decide +kernel
theorem dX9_may_94 : decode cX9_may 94 = .ok (.iastore, 1) := by decide +kernel
theorem dX9_may_95 : decode cX9_may 95 = .ok (.iload 4, 2) := by decide +kernel
theorem dX9_may_97 : decode cX9_may 97 = .ok (.ireturn, 1) := by decide +kernel
theorem dX9_beat_0 : decode cX9_beat 0 = .ok (.iload_n 1, 1) := by decide +kernel
theorem dX9_beat_1 : decode cX9_beat 1 = .ok (.iconst 1, 1) := by decide +kernel
theorem dX9_beat_2 : decode cX9_beat 2 = .ok (.iconst 3, 1) := by decide +kernel
theorem dX9_beat_3 : decode cX9_beat 3 = .ok (.invokestatic 86, 3) := by decide +kernel
theorem dX9_beat_6 : decode cX9_beat 6 = .ok (.ifCond .ne 6, 3) := by decide +kernel
theorem dX9_beat_9 : decode cX9_beat 9 = .ok (.bipush (-3), 2) := by decide +kernel
theorem dX9_beat_11 : decode cX9_beat 11 = .ok (.ireturn, 1) := by decide +kernel
theorem dX9_beat_12 : decode cX9_beat 12 = .ok (.aload_n 0, 1) := by decide +kernel
theorem dX9_beat_13 : decode cX9_beat 13 = .ok (.getfield 22, 3) := by decide +kernel
theorem dX9_beat_16 : decode cX9_beat 16 = .ok (.istore_n 2, 1) := by decide +kernel
theorem dX9_beat_17 : decode cX9_beat 17 = .ok (.aload_n 0, 1) := by decide +kernel
theorem dX9_beat_18 : decode cX9_beat 18 = .ok (.iload_n 1, 1) := by decide +kernel
theorem dX9_beat_19 : decode cX9_beat 19 = .ok (.putfield 22, 3) := by decide +kernel
theorem dX9_beat_22 : decode cX9_beat 22 = .ok (.iload_n 2, 1) := by decide +kernel
theorem dX9_beat_23 : decode cX9_beat 23 = .ok (.ireturn, 1) := by decide +kernel
theorem dX9_fitsSo_0 : decode cX9_fitsSo 0 = .ok (.iload_n 2, 1) := by decide +kernel
theorem dX9_fitsSo_1 : decode cX9_fitsSo 1 = .ok (.ifCond .lt 16, 3) := by decide +kernel
theorem dX9_fitsSo_4 : decode cX9_fitsSo 4 = .ok (.aload_n 0, 1) := by decide +kernel
theorem dX9_fitsSo_5 : decode cX9_fitsSo 5 = .ok (.getfield 16, 3) := by decide +kernel
theorem dX9_fitsSo_8 : decode cX9_fitsSo 8 = .ok (.iload_n 1, 1) := by decide +kernel
theorem dX9_fitsSo_9 : decode cX9_fitsSo 9 = .ok (.iaload, 1) := by decide +kernel
theorem dX9_fitsSo_10 : decode cX9_fitsSo 10 = .ok (.iload_n 2, 1) := by decide +kernel
theorem dX9_fitsSo_11 : decode cX9_fitsSo 11 = .ok (.ishr, 1) := by decide +kernel
theorem dX9_fitsSo_12 : decode cX9_fitsSo 12 = .ok (.iconst 1, 1) := by decide +kernel
theorem dX9_fitsSo_13 : decode cX9_fitsSo 13 = .ok (.iand, 1) := by decide +kernel
theorem dX9_fitsSo_14 : decode cX9_fitsSo 14 = .ok (.ifCond .eq 16, 3) := by decide +kernel
theorem dX9_fitsSo_17 : decode cX9_fitsSo 17 = .ok (.aload_n 0, 1) := by decide +kernel
theorem dX9_fitsSo_18 : decode cX9_fitsSo 18 = .ok (.getfield 19, 3) := by decide +kernel
theorem dX9_fitsSo_21 : decode cX9_fitsSo 21 = .ok (.iload_n 1, 1) := by decide +kernel
theorem dX9_fitsSo_22 : decode cX9_fitsSo 22 = .ok (.iaload, 1) := by decide +kernel
theorem dX9_fitsSo_23 : decode cX9_fitsSo 23 = .ok (.iload_n 3, 1) := by decide +kernel
theorem dX9_fitsSo_24 : decode cX9_fitsSo 24 = .ok (.ishr, 1) := by decide +kernel
theorem dX9_fitsSo_25 : decode cX9_fitsSo 25 = .ok (.iconst 1, 1) := by decide +kernel
theorem dX9_fitsSo_26 : decode cX9_fitsSo 26 = .ok (.iand, 1) := by decide +kernel
theorem dX9_fitsSo_27 : decode cX9_fitsSo 27 = .ok (.ifCond .ne 5, 3) := by decide +kernel
theorem dX9_fitsSo_30 : decode cX9_fitsSo 30 = .ok (.iconst 0, 1) := by decide +kernel
theorem dX9_fitsSo_31 : decode cX9_fitsSo 31 = .ok (.ireturn, 1) := by decide +kernel
theorem dX9_fitsSo_32 : decode cX9_fitsSo 32 = .ok (.iload_n 2, 1) := by decide +kernel
theorem dX9_fitsSo_33 : decode cX9_fitsSo 33 = .ok (.istore 4, 2) := by decide +kernel
theorem dX9_fitsSo_35 : decode cX9_fitsSo 35 = .ok (.iconst 0, 1) := by decide +kernel
theorem dX9_fitsSo_36 : decode cX9_fitsSo 36 = .ok (.istore 5, 2) := by decide +kernel
theorem dX9_fitsSo_38 : decode cX9_fitsSo 38 = .ok (.iload 5, 2) := by decide +kernel
theorem dX9_fitsSo_40 : decode cX9_fitsSo 40 = .ok (.aload_n 0, 1) := by decide +kernel
theorem dX9_fitsSo_41 : decode cX9_fitsSo 41 = .ok (.getfield 7, 3) := by decide +kernel
theorem dX9_fitsSo_44 : decode cX9_fitsSo 44 = .ok (.iload_n 1, 1) := by decide +kernel
theorem dX9_fitsSo_45 : decode cX9_fitsSo 45 = .ok (.iaload, 1) := by decide +kernel
theorem dX9_fitsSo_46 : decode cX9_fitsSo 46 = .ok (.if_icmp .ge 40, 3) := by decide +kernel
theorem dX9_fitsSo_49 : decode cX9_fitsSo 49 = .ok (.aload_n 0, 1) := by decide +kernel
theorem dX9_fitsSo_50 : decode cX9_fitsSo 50 = .ok (.getfield 13, 3) := by decide +kernel
theorem dX9_fitsSo_53 : decode cX9_fitsSo 53 = .ok (.iconst 4, 1) := by decide +kernel
theorem dX9_fitsSo_54 : decode cX9_fitsSo 54 = .ok (.iload_n 1, 1) := by decide +kernel
theorem dX9_fitsSo_55 : decode cX9_fitsSo 55 = .ok (.imul, 1) := by decide +kernel
theorem dX9_fitsSo_56 : decode cX9_fitsSo 56 = .ok (.iload 5, 2) := by decide +kernel
theorem dX9_fitsSo_58 : decode cX9_fitsSo 58 = .ok (.iadd, 1) := by decide +kernel
theorem dX9_fitsSo_59 : decode cX9_fitsSo 59 = .ok (.iaload, 1) := by decide +kernel
theorem dX9_fitsSo_60 : decode cX9_fitsSo 60 = .ok (.iload 4, 2) := by decide +kernel
theorem dX9_fitsSo_62 : decode cX9_fitsSo 62 = .ok (.if_icmp .ne 5, 3) := by decide +kernel
theorem dX9_fitsSo_65 : decode cX9_fitsSo 65 = .ok (.iconst 0, 1) := by decide +kernel
theorem dX9_fitsSo_66 : decode cX9_fitsSo 66 = .ok (.ireturn, 1) := by decide +kernel
theorem dX9_fitsSo_67 : decode cX9_fitsSo 67 = .ok (.aload_n 0, 1) := by decide +kernel
theorem dX9_fitsSo_68 : decode cX9_fitsSo 68 = .ok (.getfield 13, 3) := by decide +kernel
theorem dX9_fitsSo_71 : decode cX9_fitsSo 71 = .ok (.iconst 4, 1) := by decide +kernel
theorem dX9_fitsSo_72 : decode cX9_fitsSo 72 = .ok (.iload_n 1, 1) := by decide +kernel
theorem dX9_fitsSo_73 : decode cX9_fitsSo 73 = .ok (.imul, 1) := by decide +kernel
theorem dX9_fitsSo_74 : decode cX9_fitsSo 74 = .ok (.iload 5, 2) := by decide +kernel
theorem dX9_fitsSo_76 : decode cX9_fitsSo 76 = .ok (.iadd, 1) := by decide +kernel
theorem dX9_fitsSo_77 : decode cX9_fitsSo 77 = .ok (.iaload, 1) := by decide +kernel
theorem dX9_fitsSo_78 : decode cX9_fitsSo 78 = .ok (.istore 4, 2) := by decide +kernel
theorem dX9_fitsSo_80 : decode cX9_fitsSo 80 = .ok (.iinc 5 1, 3) := by decide +kernel
theorem dX9_fitsSo_83 : decode cX9_fitsSo 83 = .ok (.goto (-45), 3) := by decide +kernel
theorem dX9_fitsSo_86 : decode cX9_fitsSo 86 = .ok (.iload 4, 2) := by decide +kernel
theorem dX9_fitsSo_88 : decode cX9_fitsSo 88 = .ok (.iload_n 3, 1) := by decide +kernel
theorem dX9_fitsSo_89 : decode cX9_fitsSo 89 = .ok (.if_icmp .eq 7, 3) := by decide +kernel
theorem dX9_fitsSo_92 : decode cX9_fitsSo 92 = .ok (.iconst 1, 1) := by decide +kernel
theorem dX9_fitsSo_93 : decode cX9_fitsSo 93 = .ok (.goto 4, 3) := by decide +kernel
theorem dX9_fitsSo_96 : decode cX9_fitsSo 96 = .ok (.iconst 0, 1) := by decide +kernel
theorem dX9_fitsSo_97 : decode cX9_fitsSo 97 = .ok (.ireturn, 1) := by decide +kernel
theorem dX9_fits_0 : decode cX9_fits 0 = .ok (.iload_n 1, 1) := by decide +kernel
theorem dX9_fits_1 : decode cX9_fits 1 = .ok (.invokestatic 91, 3) := by decide +kernel
theorem dX9_fits_4 : decode cX9_fits 4 = .ok (.ifCond .eq 20, 3) := by decide +kernel
theorem dX9_fits_7 : decode cX9_fits 7 = .ok (.iload_n 2, 1) := by decide +kernel
theorem dX9_fits_8 : decode cX9_fits 8 = .ok (.iconst (-1), 1) := by decide +kernel
theorem dX9_fits_9 : decode cX9_fits 9 = .ok (.bipush 8, 2) := by decide +kernel
theorem dX9_fits_11 : decode cX9_fits 11 = .ok (.invokestatic 86, 3) := by decide +kernel
theorem dX9_fits_14 : decode cX9_fits 14 = .ok (.ifCond .eq 10, 3) := by decide +kernel
theorem dX9_fits_17 : decode cX9_fits 17 = .ok (.iload_n 3, 1) := by decide +kernel
theorem dX9_fits_18 : decode cX9_fits 18 = .ok (.invokestatic 95, 3) := by decide +kernel
theorem dX9_fits_21 : decode cX9_fits 21 = .ok (.ifCond .ne 6, 3) := by decide +kernel
theorem dX9_fits_24 : decode cX9_fits 24 = .ok (.bipush (-2), 2) := by decide +kernel
theorem dX9_fits_26 : decode cX9_fits 26 = .ok (.ireturn, 1) := by decide +kernel
theorem dX9_fits_27 : decode cX9_fits 27 = .ok (.aload_n 0, 1) := by decide +kernel
theorem dX9_fits_28 : decode cX9_fits 28 = .ok (.iload_n 1, 1) := by decide +kernel
theorem dX9_fits_29 : decode cX9_fits 29 = .ok (.iload_n 2, 1) := by decide +kernel
theorem dX9_fits_30 : decode cX9_fits 30 = .ok (.iload_n 3, 1) := by decide +kernel
theorem dX9_fits_31 : decode cX9_fits 31 = .ok (.invokevirtual 98, 3) := by decide +kernel
theorem dX9_fits_34 : decode cX9_fits 34 = .ok (.ifCond .eq 7, 3) := by decide +kernel
theorem dX9_fits_37 : decode cX9_fits 37 = .ok (.iconst 1, 1) := by decide +kernel
theorem dX9_fits_38 : decode cX9_fits 38 = .ok (.goto 4, 3) := by decide +kernel
theorem dX9_fits_41 : decode cX9_fits 41 = .ok (.iconst 0, 1) := by decide +kernel
theorem dX9_fits_42 : decode cX9_fits 42 = .ok (.ireturn, 1) := by decide +kernel
theorem dX9_step_0 : decode cX9_step 0 = .ok (.iload_n 1, 1) := by decide +kernel
theorem dX9_step_1 : decode cX9_step 1 = .ok (.invokestatic 95, 3) := by decide +kernel
theorem dX9_step_4 : decode cX9_step 4 = .ok (.ifCond .eq 13, 3) := by decide +kernel
theorem dX9_step_7 : decode cX9_step 7 = .ok (.iload_n 3, 1) := by decide +kernel
theorem dX9_step_8 : decode cX9_step 8 = .ok (.iconst (-1), 1) := by decide +kernel
theorem dX9_step_9 : decode cX9_step 9 = .ok (.bipush 7, 2) := by decide +kernel
theorem dX9_step_11 : decode cX9_step 11 = .ok (.invokestatic 86, 3) := by decide +kernel
theorem dX9_step_14 : decode cX9_step 14 = .ok (.ifCond .ne 6, 3) := by decide +kernel
theorem dX9_step_17 : decode cX9_step 17 = .ok (.bipush (-2), 2) := by decide +kernel
theorem dX9_step_19 : decode cX9_step 19 = .ok (.ireturn, 1) := by decide +kernel
theorem dX9_step_20 : decode cX9_step 20 = .ok (.iload_n 2, 1) := by decide +kernel
theorem dX9_step_21 : decode cX9_step 21 = .ok (.iconst 1, 1) := by decide +kernel
theorem dX9_step_22 : decode cX9_step 22 = .ok (.bipush 9, 2) := by decide +kernel
theorem dX9_step_24 : decode cX9_step 24 = .ok (.invokestatic 86, 3) := by decide +kernel
theorem dX9_step_27 : decode cX9_step 27 = .ok (.ifCond .ne 6, 3) := by decide +kernel
theorem dX9_step_30 : decode cX9_step 30 = .ok (.bipush (-3), 2) := by decide +kernel
theorem dX9_step_32 : decode cX9_step 32 = .ok (.ireturn, 1) := by decide +kernel
theorem dX9_step_33 : decode cX9_step 33 = .ok (.aload_n 0, 1) := by decide +kernel
theorem dX9_step_34 : decode cX9_step 34 = .ok (.getfield 101, 3) := by decide +kernel
theorem dX9_step_37 : decode cX9_step 37 = .ok (.bipush 24, 2) := by decide +kernel
theorem dX9_step_39 : decode cX9_step 39 = .ok (.if_icmp .ne 6, 3) := by decide +kernel
theorem dX9_step_42 : decode cX9_step 42 = .ok (.bipush (-5), 2) := by decide +kernel
theorem dX9_step_44 : decode cX9_step 44 = .ok (.ireturn, 1) := by decide +kernel
theorem dX9_step_45 : decode cX9_step 45 = .ok (.aload_n 0, 1) := by decide +kernel
theorem dX9_step_46 : decode cX9_step 46 = .ok (.getfield 26, 3) := by decide +kernel
theorem dX9_step_49 : decode cX9_step 49 = .ok (.aload_n 0, 1) := by decide +kernel
theorem dX9_step_50 : decode cX9_step 50 = .ok (.getfield 101, 3) := by decide +kernel
theorem dX9_step_53 : decode cX9_step 53 = .ok (.iload_n 1, 1) := by decide +kernel
theorem dX9_step_54 : decode cX9_step 54 = .ok (.iastore, 1) := by decide +kernel
theorem dX9_step_55 : decode cX9_step 55 = .ok (.aload_n 0, 1) := by decide +kernel
theorem dX9_step_56 : decode cX9_step 56 = .ok (.getfield 29, 3) := by decide +kernel
theorem dX9_step_59 : decode cX9_step 59 = .ok (.aload_n 0, 1) := by decide +kernel
theorem dX9_step_60 : decode cX9_step 60 = .ok (.getfield 101, 3) := by decide +kernel
theorem dX9_step_63 : decode cX9_step 63 = .ok (.iload_n 2, 1) := by decide +kernel
theorem dX9_step_64 : decode cX9_step 64 = .ok (.iastore, 1) := by decide +kernel
theorem dX9_step_65 : decode cX9_step 65 = .ok (.aload_n 0, 1) := by decide +kernel
theorem dX9_step_66 : decode cX9_step 66 = .ok (.getfield 32, 3) := by decide +kernel
theorem dX9_step_69 : decode cX9_step 69 = .ok (.aload_n 0, 1) := by decide +kernel
theorem dX9_step_70 : decode cX9_step 70 = .ok (.getfield 101, 3) := by decide +kernel
theorem dX9_step_73 : decode cX9_step 73 = .ok (.iload_n 3, 1) := by decide +kernel
theorem dX9_step_74 : decode cX9_step 74 = .ok (.iastore, 1) := by decide +kernel
theorem dX9_step_75 : decode cX9_step 75 = .ok (.aload_n 0, 1) := by decide +kernel
theorem dX9_step_76 : decode cX9_step 76 = .ok (.dup, 1) := by decide +kernel
theorem dX9_step_77 : decode cX9_step 77 = .ok (.getfield 101, 3) := by decide +kernel
theorem dX9_step_80 : decode cX9_step 80 = .ok (.iconst 1, 1) := by decide +kernel
theorem dX9_step_81 : decode cX9_step 81 = .ok (.iadd, 1) := by decide +kernel
theorem dX9_step_82 : decode cX9_step 82 = .ok (.putfield 101, 3) := by decide +kernel
theorem dX9_step_85 : decode cX9_step 85 = .ok (.aload_n 0, 1) := by decide +kernel
theorem dX9_step_86 : decode cX9_step 86 = .ok (.getfield 101, 3) := by decide +kernel
theorem dX9_step_89 : decode cX9_step 89 = .ok (.ireturn, 1) := by decide +kernel
theorem dX9_put_0 : decode cX9_put 0 = .ok (.iload_n 1, 1) := by decide +kernel
theorem dX9_put_1 : decode cX9_put 1 = .ok (.iconst 0, 1) := by decide +kernel
theorem dX9_put_2 : decode cX9_put 2 = .ok (.aload_n 0, 1) := by decide +kernel
theorem dX9_put_3 : decode cX9_put 3 = .ok (.getfield 101, 3) := by decide +kernel
theorem dX9_put_6 : decode cX9_put 6 = .ok (.iconst 1, 1) := by decide +kernel
theorem dX9_put_7 : decode cX9_put 7 = .ok (.isub, 1) := by decide +kernel
theorem dX9_put_8 : decode cX9_put 8 = .ok (.invokestatic 86, 3) := by decide +kernel
theorem dX9_put_11 : decode cX9_put 11 = .ok (.ifCond .eq 13, 3) := by decide +kernel
theorem dX9_put_14 : decode cX9_put 14 = .ok (.iload_n 2, 1) := by decide +kernel
theorem dX9_put_15 : decode cX9_put 15 = .ok (.iconst (-1), 1) := by decide +kernel
theorem dX9_put_16 : decode cX9_put 16 = .ok (.bipush 7, 2) := by decide +kernel
theorem dX9_put_18 : decode cX9_put 18 = .ok (.invokestatic 86, 3) := by decide +kernel
theorem dX9_put_21 : decode cX9_put 21 = .ok (.ifCond .ne 6, 3) := by decide +kernel
theorem dX9_put_24 : decode cX9_put 24 = .ok (.bipush (-2), 2) := by decide +kernel
theorem dX9_put_26 : decode cX9_put 26 = .ok (.ireturn, 1) := by decide +kernel
theorem dX9_put_27 : decode cX9_put 27 = .ok (.aload_n 0, 1) := by decide +kernel
theorem dX9_put_28 : decode cX9_put 28 = .ok (.getfield 32, 3) := by decide +kernel
theorem dX9_put_31 : decode cX9_put 31 = .ok (.iload_n 1, 1) := by decide +kernel
theorem dX9_put_32 : decode cX9_put 32 = .ok (.iaload, 1) := by decide +kernel
theorem dX9_put_33 : decode cX9_put 33 = .ok (.istore_n 3, 1) := by decide +kernel
theorem dX9_put_34 : decode cX9_put 34 = .ok (.aload_n 0, 1) := by decide +kernel
theorem dX9_put_35 : decode cX9_put 35 = .ok (.getfield 32, 3) := by decide +kernel
theorem dX9_put_38 : decode cX9_put 38 = .ok (.iload_n 1, 1) := by decide +kernel
theorem dX9_put_39 : decode cX9_put 39 = .ok (.iload_n 2, 1) := by decide +kernel
theorem dX9_put_40 : decode cX9_put 40 = .ok (.iastore, 1) := by decide +kernel
theorem dX9_put_41 : decode cX9_put 41 = .ok (.iload_n 3, 1) := by decide +kernel
theorem dX9_put_42 : decode cX9_put 42 = .ok (.ireturn, 1) := by decide +kernel
theorem dX9_back_0 : decode cX9_back 0 = .ok (.aload_n 0, 1) := by decide +kernel
theorem dX9_back_1 : decode cX9_back 1 = .ok (.getfield 101, 3) := by decide +kernel
theorem dX9_back_4 : decode cX9_back 4 = .ok (.ifCond .ne 6, 3) := by decide +kernel
theorem dX9_back_7 : decode cX9_back 7 = .ok (.bipush (-4), 2) := by decide +kernel
theorem dX9_back_9 : decode cX9_back 9 = .ok (.ireturn, 1) := by decide +kernel
theorem dX9_back_10 : decode cX9_back 10 = .ok (.aload_n 0, 1) := by decide +kernel
theorem dX9_back_11 : decode cX9_back 11 = .ok (.dup, 1) := by decide +kernel
theorem dX9_back_12 : decode cX9_back 12 = .ok (.getfield 101, 3) := by decide +kernel
theorem dX9_back_15 : decode cX9_back 15 = .ok (.iconst 1, 1) := by decide +kernel
theorem dX9_back_16 : decode cX9_back 16 = .ok (.isub, 1) := by decide +kernel
theorem dX9_back_17 : decode cX9_back 17 = .ok (.putfield 101, 3) := by decide +kernel
theorem dX9_back_20 : decode cX9_back 20 = .ok (.aload_n 0, 1) := by decide +kernel
theorem dX9_back_21 : decode cX9_back 21 = .ok (.getfield 101, 3) := by decide +kernel
theorem dX9_back_24 : decode cX9_back 24 = .ok (.ireturn, 1) := by decide +kernel
theorem dX9_holds_0 : decode cX9_holds 0 = .ok (.aload_n 0, 1) := by decide +kernel
theorem dX9_holds_1 : decode cX9_holds 1 = .ok (.iload_n 2, 1) := by decide +kernel
theorem dX9_holds_2 : decode cX9_holds 2 = .ok (.iload_n 1, 1) := by decide +kernel
theorem dX9_holds_3 : decode cX9_holds 3 = .ok (.ifCond .ne 7, 3) := by decide +kernel
theorem dX9_holds_6 : decode cX9_holds 6 = .ok (.iconst (-1), 1) := by decide +kernel
theorem dX9_holds_7 : decode cX9_holds 7 = .ok (.goto 11, 3) := by decide +kernel
theorem dX9_holds_10 : decode cX9_holds 10 = .ok (.aload_n 0, 1) := by decide +kernel
theorem dX9_holds_11 : decode cX9_holds 11 = .ok (.getfield 26, 3) := by decide +kernel
theorem dX9_holds_14 : decode cX9_holds 14 = .ok (.iload_n 1, 1) := by decide +kernel
theorem dX9_holds_15 : decode cX9_holds 15 = .ok (.iconst 1, 1) := by decide +kernel
theorem dX9_holds_16 : decode cX9_holds 16 = .ok (.isub, 1) := by decide +kernel
theorem dX9_holds_17 : decode cX9_holds 17 = .ok (.iaload, 1) := by decide +kernel
theorem dX9_holds_18 : decode cX9_holds 18 = .ok (.aload_n 0, 1) := by decide +kernel
theorem dX9_holds_19 : decode cX9_holds 19 = .ok (.getfield 26, 3) := by decide +kernel
theorem dX9_holds_22 : decode cX9_holds 22 = .ok (.iload_n 1, 1) := by decide +kernel
theorem dX9_holds_23 : decode cX9_holds 23 = .ok (.iaload, 1) := by decide +kernel
theorem dX9_holds_24 : decode cX9_holds 24 = .ok (.invokevirtual 98, 3) := by decide +kernel
theorem dX9_holds_27 : decode cX9_holds 27 = .ok (.ifCond .eq 27, 3) := by decide +kernel
theorem dX9_holds_30 : decode cX9_holds 30 = .ok (.aload_n 0, 1) := by decide +kernel
theorem dX9_holds_31 : decode cX9_holds 31 = .ok (.getfield 29, 3) := by decide +kernel
theorem dX9_holds_34 : decode cX9_holds 34 = .ok (.iload_n 1, 1) := by decide +kernel
theorem dX9_holds_35 : decode cX9_holds 35 = .ok (.iaload, 1) := by decide +kernel
theorem dX9_holds_36 : decode cX9_holds 36 = .ok (.aload_n 0, 1) := by decide +kernel
theorem dX9_holds_37 : decode cX9_holds 37 = .ok (.getfield 22, 3) := by decide +kernel
theorem dX9_holds_40 : decode cX9_holds 40 = .ok (.aload_n 0, 1) := by decide +kernel
theorem dX9_holds_41 : decode cX9_holds 41 = .ok (.getfield 7, 3) := by decide +kernel
theorem dX9_holds_44 : decode cX9_holds 44 = .ok (.iload_n 2, 1) := by decide +kernel
theorem dX9_holds_45 : decode cX9_holds 45 = .ok (.iaload, 1) := by decide +kernel
theorem dX9_holds_46 : decode cX9_holds 46 = .ok (.imul, 1) := by decide +kernel
theorem dX9_holds_47 : decode cX9_holds 47 = .ok (.if_icmp .le 7, 3) := by decide +kernel
theorem dX9_holds_50 : decode cX9_holds 50 = .ok (.iconst 1, 1) := by decide +kernel
theorem dX9_holds_51 : decode cX9_holds 51 = .ok (.goto 4, 3) := by decide +kernel
theorem dX9_holds_54 : decode cX9_holds 54 = .ok (.iconst 0, 1) := by decide +kernel
theorem dX9_holds_55 : decode cX9_holds 55 = .ok (.ireturn, 1) := by decide +kernel
theorem dX9_wrong_0 : decode cX9_wrong 0 = .ok (.iconst 0, 1) := by decide +kernel
theorem dX9_wrong_1 : decode cX9_wrong 1 = .ok (.istore_n 1, 1) := by decide +kernel
theorem dX9_wrong_2 : decode cX9_wrong 2 = .ok (.iload_n 1, 1) := by decide +kernel
theorem dX9_wrong_3 : decode cX9_wrong 3 = .ok (.aload_n 0, 1) := by decide +kernel
theorem dX9_wrong_4 : decode cX9_wrong 4 = .ok (.getfield 101, 3) := by decide +kernel
theorem dX9_wrong_7 : decode cX9_wrong 7 = .ok (.if_icmp .ge 35, 3) := by decide +kernel
theorem dX9_wrong_10 : decode cX9_wrong 10 = .ok (.aload_n 0, 1) := by decide +kernel
theorem dX9_wrong_11 : decode cX9_wrong 11 = .ok (.getfield 32, 3) := by decide +kernel
theorem dX9_wrong_14 : decode cX9_wrong 14 = .ok (.iload_n 1, 1) := by decide +kernel
theorem dX9_wrong_15 : decode cX9_wrong 15 = .ok (.iaload, 1) := by decide +kernel
theorem dX9_wrong_16 : decode cX9_wrong 16 = .ok (.iconst (-1), 1) := by decide +kernel
theorem dX9_wrong_17 : decode cX9_wrong 17 = .ok (.if_icmp .eq 19, 3) := by decide +kernel
theorem dX9_wrong_20 : decode cX9_wrong 20 = .ok (.aload_n 0, 1) := by decide +kernel
theorem dX9_wrong_21 : decode cX9_wrong 21 = .ok (.iload_n 1, 1) := by decide +kernel
theorem dX9_wrong_22 : decode cX9_wrong 22 = .ok (.aload_n 0, 1) := by decide +kernel
theorem dX9_wrong_23 : decode cX9_wrong 23 = .ok (.getfield 32, 3) := by decide +kernel
theorem dX9_wrong_26 : decode cX9_wrong 26 = .ok (.iload_n 1, 1) := by decide +kernel
theorem dX9_wrong_27 : decode cX9_wrong 27 = .ok (.iaload, 1) := by decide +kernel
theorem dX9_wrong_28 : decode cX9_wrong 28 = .ok (.invokevirtual 104, 3) := by decide +kernel
theorem dX9_wrong_31 : decode cX9_wrong 31 = .ok (.ifCond .ne 5, 3) := by decide +kernel
theorem dX9_wrong_34 : decode cX9_wrong 34 = .ok (.iload_n 1, 1) := by decide +kernel
theorem dX9_wrong_35 : decode cX9_wrong 35 = .ok (.ireturn, 1) := by decide +kernel
theorem dX9_wrong_36 : decode cX9_wrong 36 = .ok (.iinc 1 1, 3) := by decide +kernel
theorem dX9_wrong_39 : decode cX9_wrong 39 = .ok (.goto (-37), 3) := by decide +kernel
theorem dX9_wrong_42 : decode cX9_wrong 42 = .ok (.iconst (-1), 1) := by decide +kernel
theorem dX9_wrong_43 : decode cX9_wrong 43 = .ok (.ireturn, 1) := by decide +kernel
theorem dX9_fillings_0 : decode cX9_fillings 0 = .ok (.aload_n 0, 1) := by decide +kernel
theorem dX9_fillings_1 : decode cX9_fillings 1 = .ok (.invokevirtual 108, 3) := by decide +kernel
theorem dX9_fillings_4 : decode cX9_fillings 4 = .ok (.iconst (-1), 1) := by decide +kernel
theorem dX9_fillings_5 : decode cX9_fillings 5 = .ok (.if_icmp .ne 7, 3) := by decide +kernel
theorem dX9_fillings_8 : decode cX9_fillings 8 = .ok (.lconst 1, 1) := by decide +kernel
theorem dX9_fillings_9 : decode cX9_fillings 9 = .ok (.goto 4, 3) := by decide +kernel
theorem dX9_fillings_12 : decode cX9_fillings 12 = .ok (.lconst 0, 1) := by decide +kernel
theorem dX9_fillings_13 : decode cX9_fillings 13 = .ok (.lstore_n 1, 1) := by decide +kernel
theorem dX9_fillings_14 : decode cX9_fillings 14 = .ok (.iconst 0, 1) := by decide +kernel
theorem dX9_fillings_15 : decode cX9_fillings 15 = .ok (.istore_n 3, 1) := by decide +kernel
theorem dX9_fillings_16 : decode cX9_fillings 16 = .ok (.iload_n 3, 1) := by decide +kernel
theorem dX9_fillings_17 : decode cX9_fillings 17 = .ok (.aload_n 0, 1) := by decide +kernel
theorem dX9_fillings_18 : decode cX9_fillings 18 = .ok (.getfield 101, 3) := by decide +kernel
theorem dX9_fillings_21 : decode cX9_fillings 21 = .ok (.if_icmp .ge 80, 3) := by decide +kernel
theorem dX9_fillings_24 : decode cX9_fillings 24 = .ok (.aload_n 0, 1) := by decide +kernel
theorem dX9_fillings_25 : decode cX9_fillings 25 = .ok (.getfield 32, 3) := by decide +kernel
theorem dX9_fillings_28 : decode cX9_fillings 28 = .ok (.iload_n 3, 1) := by decide +kernel
theorem dX9_fillings_29 : decode cX9_fillings 29 = .ok (.iaload, 1) := by decide +kernel
theorem dX9_fillings_30 : decode cX9_fillings 30 = .ok (.iconst (-1), 1) := by decide +kernel
theorem dX9_fillings_31 : decode cX9_fillings 31 = .ok (.if_icmp .ne 64, 3) := by decide +kernel
theorem dX9_fillings_34 : decode cX9_fillings 34 = .ok (.iconst 0, 1) := by decide +kernel
theorem dX9_fillings_35 : decode cX9_fillings 35 = .ok (.istore 4, 2) := by decide +kernel
theorem dX9_fillings_37 : decode cX9_fillings 37 = .ok (.iconst 0, 1) := by decide +kernel
theorem dX9_fillings_38 : decode cX9_fillings 38 = .ok (.istore 5, 2) := by decide +kernel
theorem dX9_fillings_40 : decode cX9_fillings 40 = .ok (.iload 5, 2) := by decide +kernel
theorem dX9_fillings_42 : decode cX9_fillings 42 = .ok (.bipush 8, 2) := by decide +kernel
theorem dX9_fillings_44 : decode cX9_fillings 44 = .ok (.if_icmp .ge 29, 3) := by decide +kernel
theorem dX9_fillings_47 : decode cX9_fillings 47 = .ok (.iload 4, 2) := by decide +kernel
theorem dX9_fillings_49 : decode cX9_fillings 49 = .ok (.aload_n 0, 1) := by decide +kernel
theorem dX9_fillings_50 : decode cX9_fillings 50 = .ok (.iload_n 3, 1) := by decide +kernel
theorem dX9_fillings_51 : decode cX9_fillings 51 = .ok (.iload 5, 2) := by decide +kernel
theorem dX9_fillings_53 : decode cX9_fillings 53 = .ok (.invokevirtual 104, 3) := by decide +kernel
theorem dX9_fillings_56 : decode cX9_fillings 56 = .ok (.ifCond .eq 7, 3) := by decide +kernel
theorem dX9_fillings_59 : decode cX9_fillings 59 = .ok (.iconst 1, 1) := by decide +kernel
theorem dX9_fillings_60 : decode cX9_fillings 60 = .ok (.goto 4, 3) := by decide +kernel
theorem dX9_fillings_63 : decode cX9_fillings 63 = .ok (.iconst 0, 1) := by decide +kernel
theorem dX9_fillings_64 : decode cX9_fillings 64 = .ok (.iadd, 1) := by decide +kernel
theorem dX9_fillings_65 : decode cX9_fillings 65 = .ok (.istore 4, 2) := by decide +kernel
theorem dX9_fillings_67 : decode cX9_fillings 67 = .ok (.iinc 5 1, 3) := by decide +kernel
theorem dX9_fillings_70 : decode cX9_fillings 70 = .ok (.goto (-30), 3) := by decide +kernel
theorem dX9_fillings_73 : decode cX9_fillings 73 = .ok (.lload_n 1, 1) := by decide +kernel
theorem dX9_fillings_74 : decode cX9_fillings 74 = .ok (.iload 4, 2) := by decide +kernel
theorem dX9_fillings_76 : decode cX9_fillings 76 = .ok (.i2l, 1) := by decide +kernel
theorem dX9_fillings_77 : decode cX9_fillings 77 = .ok (.lmul, 1) := by decide +kernel
theorem dX9_fillings_78 : decode cX9_fillings 78 = .ok (.lstore_n 1, 1) := by decide +kernel
theorem dX9_fillings_79 : decode cX9_fillings 79 = .ok (.lload_n 1, 1) := by decide +kernel
theorem dX9_fillings_80 : decode cX9_fillings 80 = .ok (.ldc2_w 112, 3) := by decide +kernel
theorem dX9_fillings_83 : decode cX9_fillings 83 = .ok (.lcmp, 1) := by decide +kernel
theorem dX9_fillings_84 : decode cX9_fillings 84 = .ok (.ifCond .le 9, 3) := by decide +kernel
theorem dX9_fillings_87 : decode cX9_fillings 87 = .ok (.ldc2_w 112, 3) := by decide +kernel
theorem dX9_fillings_90 : decode cX9_fillings 90 = .ok (.goto 4, 3) := by decide +kernel
theorem dX9_fillings_93 : decode cX9_fillings 93 = .ok (.lload_n 1, 1) := by decide +kernel
theorem dX9_fillings_94 : decode cX9_fillings 94 = .ok (.lstore_n 1, 1) := by decide +kernel
theorem dX9_fillings_95 : decode cX9_fillings 95 = .ok (.iinc 3 1, 3) := by decide +kernel
theorem dX9_fillings_98 : decode cX9_fillings 98 = .ok (.goto (-82), 3) := by decide +kernel
theorem dX9_fillings_101 : decode cX9_fillings 101 = .ok (.lload_n 1, 1) := by decide +kernel
theorem dX9_fillings_102 : decode cX9_fillings 102 = .ok (.l2i, 1) := by decide +kernel
theorem dX9_fillings_103 : decode cX9_fillings 103 = .ok (.ireturn, 1) := by decide +kernel
theorem dX9_quickestOf_0 : decode cX9_quickestOf 0 = .ok (.aload_n 0, 1) := by decide +kernel
theorem dX9_quickestOf_1 : decode cX9_quickestOf 1 = .ok (.getfield 32, 3) := by decide +kernel
theorem dX9_quickestOf_4 : decode cX9_quickestOf 4 = .ok (.iload_n 1, 1) := by decide +kernel
theorem dX9_quickestOf_5 : decode cX9_quickestOf 5 = .ok (.iaload, 1) := by decide +kernel
theorem dX9_quickestOf_6 : decode cX9_quickestOf 6 = .ok (.iconst (-1), 1) := by decide +kernel
theorem dX9_quickestOf_7 : decode cX9_quickestOf 7 = .ok (.if_icmp .eq 10, 3) := by decide +kernel
theorem dX9_quickestOf_10 : decode cX9_quickestOf 10 = .ok (.aload_n 0, 1) := by decide +kernel
theorem dX9_quickestOf_11 : decode cX9_quickestOf 11 = .ok (.getfield 32, 3) := by decide +kernel
theorem dX9_quickestOf_14 : decode cX9_quickestOf 14 = .ok (.iload_n 1, 1) := by decide +kernel
theorem dX9_quickestOf_15 : decode cX9_quickestOf 15 = .ok (.iaload, 1) := by decide +kernel
theorem dX9_quickestOf_16 : decode cX9_quickestOf 16 = .ok (.ireturn, 1) := by decide +kernel
theorem dX9_quickestOf_17 : decode cX9_quickestOf 17 = .ok (.iconst (-1), 1) := by decide +kernel
theorem dX9_quickestOf_18 : decode cX9_quickestOf 18 = .ok (.istore_n 2, 1) := by decide +kernel
theorem dX9_quickestOf_19 : decode cX9_quickestOf 19 = .ok (.iconst 0, 1) := by decide +kernel
theorem dX9_quickestOf_20 : decode cX9_quickestOf 20 = .ok (.istore_n 3, 1) := by decide +kernel
theorem dX9_quickestOf_21 : decode cX9_quickestOf 21 = .ok (.iload_n 3, 1) := by decide +kernel
theorem dX9_quickestOf_22 : decode cX9_quickestOf 22 = .ok (.bipush 8, 2) := by decide +kernel
theorem dX9_quickestOf_24 : decode cX9_quickestOf 24 = .ok (.if_icmp .ge 44, 3) := by decide +kernel
theorem dX9_quickestOf_27 : decode cX9_quickestOf 27 = .ok (.aload_n 0, 1) := by decide +kernel
theorem dX9_quickestOf_28 : decode cX9_quickestOf 28 = .ok (.iload_n 1, 1) := by decide +kernel
theorem dX9_quickestOf_29 : decode cX9_quickestOf 29 = .ok (.iload_n 3, 1) := by decide +kernel
theorem dX9_quickestOf_30 : decode cX9_quickestOf 30 = .ok (.invokevirtual 104, 3) := by decide +kernel
theorem dX9_quickestOf_33 : decode cX9_quickestOf 33 = .ok (.ifCond .eq 27, 3) := by decide +kernel
theorem dX9_quickestOf_36 : decode cX9_quickestOf 36 = .ok (.iload_n 2, 1) := by decide +kernel
theorem dX9_quickestOf_37 : decode cX9_quickestOf 37 = .ok (.iconst (-1), 1) := by decide +kernel
theorem dX9_quickestOf_38 : decode cX9_quickestOf 38 = .ok (.if_icmp .eq 18, 3) := by decide +kernel
theorem dX9_quickestOf_41 : decode cX9_quickestOf 41 = .ok (.aload_n 0, 1) := by decide +kernel
theorem dX9_quickestOf_42 : decode cX9_quickestOf 42 = .ok (.getfield 7, 3) := by decide +kernel
theorem dX9_quickestOf_45 : decode cX9_quickestOf 45 = .ok (.iload_n 3, 1) := by decide +kernel
theorem dX9_quickestOf_46 : decode cX9_quickestOf 46 = .ok (.iaload, 1) := by decide +kernel
theorem dX9_quickestOf_47 : decode cX9_quickestOf 47 = .ok (.aload_n 0, 1) := by decide +kernel
theorem dX9_quickestOf_48 : decode cX9_quickestOf 48 = .ok (.getfield 7, 3) := by decide +kernel
theorem dX9_quickestOf_51 : decode cX9_quickestOf 51 = .ok (.iload_n 2, 1) := by decide +kernel
theorem dX9_quickestOf_52 : decode cX9_quickestOf 52 = .ok (.iaload, 1) := by decide +kernel
theorem dX9_quickestOf_53 : decode cX9_quickestOf 53 = .ok (.if_icmp .ge 7, 3) := by decide +kernel
theorem dX9_quickestOf_56 : decode cX9_quickestOf 56 = .ok (.iload_n 3, 1) := by decide +kernel
theorem dX9_quickestOf_57 : decode cX9_quickestOf 57 = .ok (.goto 4, 3) := by decide +kernel
theorem dX9_quickestOf_60 : decode cX9_quickestOf 60 = .ok (.iload_n 2, 1) := by decide +kernel
theorem dX9_quickestOf_61 : decode cX9_quickestOf 61 = .ok (.istore_n 2, 1) := by decide +kernel
theorem dX9_quickestOf_62 : decode cX9_quickestOf 62 = .ok (.iinc 3 1, 3) := by decide +kernel
theorem dX9_quickestOf_65 : decode cX9_quickestOf 65 = .ok (.goto (-44), 3) := by decide +kernel
theorem dX9_quickestOf_68 : decode cX9_quickestOf 68 = .ok (.iload_n 2, 1) := by decide +kernel
theorem dX9_quickestOf_69 : decode cX9_quickestOf 69 = .ok (.ireturn, 1) := by decide +kernel
theorem dX9_quickest_0 : decode cX9_quickest 0 = .ok (.iload_n 1, 1) := by decide +kernel
theorem dX9_quickest_1 : decode cX9_quickest 1 = .ok (.iconst 0, 1) := by decide +kernel
theorem dX9_quickest_2 : decode cX9_quickest 2 = .ok (.aload_n 0, 1) := by decide +kernel
theorem dX9_quickest_3 : decode cX9_quickest 3 = .ok (.getfield 101, 3) := by decide +kernel
theorem dX9_quickest_6 : decode cX9_quickest 6 = .ok (.iconst 1, 1) := by decide +kernel
theorem dX9_quickest_7 : decode cX9_quickest 7 = .ok (.isub, 1) := by decide +kernel
theorem dX9_quickest_8 : decode cX9_quickest 8 = .ok (.invokestatic 86, 3) := by decide +kernel
theorem dX9_quickest_11 : decode cX9_quickest 11 = .ok (.ifCond .ne 6, 3) := by decide +kernel
theorem dX9_quickest_14 : decode cX9_quickest 14 = .ok (.bipush (-2), 2) := by decide +kernel
theorem dX9_quickest_16 : decode cX9_quickest 16 = .ok (.ireturn, 1) := by decide +kernel
theorem dX9_quickest_17 : decode cX9_quickest 17 = .ok (.aload_n 0, 1) := by decide +kernel
theorem dX9_quickest_18 : decode cX9_quickest 18 = .ok (.invokevirtual 114, 3) := by decide +kernel
theorem dX9_quickest_21 : decode cX9_quickest 21 = .ok (.ifCond .ne 7, 3) := by decide +kernel
theorem dX9_quickest_24 : decode cX9_quickest 24 = .ok (.iconst (-1), 1) := by decide +kernel
theorem dX9_quickest_25 : decode cX9_quickest 25 = .ok (.goto 8, 3) := by decide +kernel
theorem dX9_quickest_28 : decode cX9_quickest 28 = .ok (.aload_n 0, 1) := by decide +kernel
theorem dX9_quickest_29 : decode cX9_quickest 29 = .ok (.iload_n 1, 1) := by decide +kernel
theorem dX9_quickest_30 : decode cX9_quickest 30 = .ok (.invokevirtual 117, 3) := by decide +kernel
theorem dX9_quickest_33 : decode cX9_quickest 33 = .ok (.ireturn, 1) := by decide +kernel
theorem dX9_graces_0 : decode cX9_graces 0 = .ok (.aload_n 0, 1) := by decide +kernel
theorem dX9_graces_1 : decode cX9_graces 1 = .ok (.invokevirtual 114, 3) := by decide +kernel
theorem dX9_graces_4 : decode cX9_graces 4 = .ok (.ifCond .ne 5, 3) := by decide +kernel
theorem dX9_graces_7 : decode cX9_graces 7 = .ok (.iconst (-1), 1) := by decide +kernel
theorem dX9_graces_8 : decode cX9_graces 8 = .ok (.ireturn, 1) := by decide +kernel
theorem dX9_graces_9 : decode cX9_graces 9 = .ok (.iconst 0, 1) := by decide +kernel
theorem dX9_graces_10 : decode cX9_graces 10 = .ok (.istore_n 1, 1) := by decide +kernel
theorem dX9_graces_11 : decode cX9_graces 11 = .ok (.iconst 0, 1) := by decide +kernel
theorem dX9_graces_12 : decode cX9_graces 12 = .ok (.istore_n 2, 1) := by decide +kernel
theorem dX9_graces_13 : decode cX9_graces 13 = .ok (.iload_n 2, 1) := by decide +kernel
theorem dX9_graces_14 : decode cX9_graces 14 = .ok (.aload_n 0, 1) := by decide +kernel
theorem dX9_graces_15 : decode cX9_graces 15 = .ok (.getfield 101, 3) := by decide +kernel
theorem dX9_graces_18 : decode cX9_graces 18 = .ok (.if_icmp .ge 22, 3) := by decide +kernel
theorem dX9_graces_21 : decode cX9_graces 21 = .ok (.iload_n 1, 1) := by decide +kernel
theorem dX9_graces_22 : decode cX9_graces 22 = .ok (.aload_n 0, 1) := by decide +kernel
theorem dX9_graces_23 : decode cX9_graces 23 = .ok (.getfield 7, 3) := by decide +kernel
theorem dX9_graces_26 : decode cX9_graces 26 = .ok (.aload_n 0, 1) := by decide +kernel
theorem dX9_graces_27 : decode cX9_graces 27 = .ok (.iload_n 2, 1) := by decide +kernel
theorem dX9_graces_28 : decode cX9_graces 28 = .ok (.invokevirtual 117, 3) := by decide +kernel
theorem dX9_graces_31 : decode cX9_graces 31 = .ok (.iaload, 1) := by decide +kernel
theorem dX9_graces_32 : decode cX9_graces 32 = .ok (.iadd, 1) := by decide +kernel
theorem dX9_graces_33 : decode cX9_graces 33 = .ok (.istore_n 1, 1) := by decide +kernel
theorem dX9_graces_34 : decode cX9_graces 34 = .ok (.iinc 2 1, 3) := by decide +kernel
theorem dX9_graces_37 : decode cX9_graces 37 = .ok (.goto (-24), 3) := by decide +kernel
theorem dX9_graces_40 : decode cX9_graces 40 = .ok (.iload_n 1, 1) := by decide +kernel
theorem dX9_graces_41 : decode cX9_graces 41 = .ok (.ireturn, 1) := by decide +kernel
theorem dX9_region_0 : decode cX9_region 0 = .ok (.iload_n 1, 1) := by decide +kernel
theorem dX9_region_1 : decode cX9_region 1 = .ok (.invokestatic 121, 3) := by decide +kernel
theorem dX9_region_4 : decode cX9_region 4 = .ok (.ifCond .eq 26, 3) := by decide +kernel
theorem dX9_region_7 : decode cX9_region 7 = .ok (.iload_n 2, 1) := by decide +kernel
theorem dX9_region_8 : decode cX9_region 8 = .ok (.ifCond .ne 10, 3) := by decide +kernel
theorem dX9_region_11 : decode cX9_region 11 = .ok (.iload_n 3, 1) := by decide +kernel
theorem dX9_region_12 : decode cX9_region 12 = .ok (.invokestatic 91, 3) := by decide +kernel
theorem dX9_region_15 : decode cX9_region 15 = .ok (.ifCond .eq 15, 3) := by decide +kernel
theorem dX9_region_18 : decode cX9_region 18 = .ok (.iload_n 2, 1) := by decide +kernel
theorem dX9_region_19 : decode cX9_region 19 = .ok (.iconst 1, 1) := by decide +kernel
theorem dX9_region_20 : decode cX9_region 20 = .ok (.if_icmp .ne 13, 3) := by decide +kernel
theorem dX9_region_23 : decode cX9_region 23 = .ok (.iload_n 3, 1) := by decide +kernel
theorem dX9_region_24 : decode cX9_region 24 = .ok (.invokestatic 95, 3) := by decide +kernel
theorem dX9_region_27 : decode cX9_region 27 = .ok (.ifCond .ne 6, 3) := by decide +kernel
theorem dX9_region_30 : decode cX9_region 30 = .ok (.bipush (-2), 2) := by decide +kernel
theorem dX9_region_32 : decode cX9_region 32 = .ok (.ireturn, 1) := by decide +kernel
theorem dX9_region_33 : decode cX9_region 33 = .ok (.iload_n 2, 1) := by decide +kernel
theorem dX9_region_34 : decode cX9_region 34 = .ok (.iconst 0, 1) := by decide +kernel
theorem dX9_region_35 : decode cX9_region 35 = .ok (.iconst 1, 1) := by decide +kernel
theorem dX9_region_36 : decode cX9_region 36 = .ok (.invokestatic 86, 3) := by decide +kernel
theorem dX9_region_39 : decode cX9_region 39 = .ok (.ifCond .eq 22, 3) := by decide +kernel
theorem dX9_region_42 : decode cX9_region 42 = .ok (.iload 4, 2) := by decide +kernel
theorem dX9_region_44 : decode cX9_region 44 = .ok (.iconst 0, 1) := by decide +kernel
theorem dX9_region_45 : decode cX9_region 45 = .ok (.iload_n 2, 1) := by decide +kernel
theorem dX9_region_46 : decode cX9_region 46 = .ok (.ifCond .ne 8, 3) := by decide +kernel
theorem dX9_region_49 : decode cX9_region 49 = .ok (.bipush 7, 2) := by decide +kernel
theorem dX9_region_51 : decode cX9_region 51 = .ok (.goto 4, 3) := by decide +kernel
theorem dX9_region_54 : decode cX9_region 54 = .ok (.iconst 3, 1) := by decide +kernel
theorem dX9_region_55 : decode cX9_region 55 = .ok (.invokestatic 86, 3) := by decide +kernel
theorem dX9_region_58 : decode cX9_region 58 = .ok (.ifCond .ne 6, 3) := by decide +kernel
theorem dX9_region_61 : decode cX9_region 61 = .ok (.bipush (-3), 2) := by decide +kernel
theorem dX9_region_63 : decode cX9_region 63 = .ok (.ireturn, 1) := by decide +kernel
theorem dX9_region_64 : decode cX9_region 64 = .ok (.iload_n 2, 1) := by decide +kernel
theorem dX9_region_65 : decode cX9_region 65 = .ok (.ifCond .ne 17, 3) := by decide +kernel
theorem dX9_region_68 : decode cX9_region 68 = .ok (.aload_n 0, 1) := by decide +kernel
theorem dX9_region_69 : decode cX9_region 69 = .ok (.getfield 35, 3) := by decide +kernel
theorem dX9_region_72 : decode cX9_region 72 = .ok (.bipush 8, 2) := by decide +kernel
theorem dX9_region_74 : decode cX9_region 74 = .ok (.iload_n 1, 1) := by decide +kernel
theorem dX9_region_75 : decode cX9_region 75 = .ok (.imul, 1) := by decide +kernel
theorem dX9_region_76 : decode cX9_region 76 = .ok (.iload_n 3, 1) := by decide +kernel
theorem dX9_region_77 : decode cX9_region 77 = .ok (.iadd, 1) := by decide +kernel
theorem dX9_region_78 : decode cX9_region 78 = .ok (.iaload, 1) := by decide +kernel
theorem dX9_region_79 : decode cX9_region 79 = .ok (.goto 14, 3) := by decide +kernel
theorem dX9_region_82 : decode cX9_region 82 = .ok (.aload_n 0, 1) := by decide +kernel
theorem dX9_region_83 : decode cX9_region 83 = .ok (.getfield 38, 3) := by decide +kernel
theorem dX9_region_86 : decode cX9_region 86 = .ok (.bipush 9, 2) := by decide +kernel
theorem dX9_region_88 : decode cX9_region 88 = .ok (.iload_n 1, 1) := by decide +kernel
theorem dX9_region_89 : decode cX9_region 89 = .ok (.imul, 1) := by decide +kernel
theorem dX9_region_90 : decode cX9_region 90 = .ok (.iload_n 3, 1) := by decide +kernel
theorem dX9_region_91 : decode cX9_region 91 = .ok (.iadd, 1) := by decide +kernel
theorem dX9_region_92 : decode cX9_region 92 = .ok (.iaload, 1) := by decide +kernel
theorem dX9_region_93 : decode cX9_region 93 = .ok (.istore 5, 2) := by decide +kernel
theorem dX9_region_95 : decode cX9_region 95 = .ok (.iload_n 2, 1) := by decide +kernel
theorem dX9_region_96 : decode cX9_region 96 = .ok (.ifCond .ne 19, 3) := by decide +kernel
theorem dX9_region_99 : decode cX9_region 99 = .ok (.aload_n 0, 1) := by decide +kernel
theorem dX9_region_100 : decode cX9_region 100 = .ok (.getfield 35, 3) := by decide +kernel
theorem dX9_region_103 : decode cX9_region 103 = .ok (.bipush 8, 2) := by decide +kernel
theorem dX9_region_105 : decode cX9_region 105 = .ok (.iload_n 1, 1) := by decide +kernel
theorem dX9_region_106 : decode cX9_region 106 = .ok (.imul, 1) := by decide +kernel
theorem dX9_region_107 : decode cX9_region 107 = .ok (.iload_n 3, 1) := by decide +kernel
theorem dX9_region_108 : decode cX9_region 108 = .ok (.iadd, 1) := by decide +kernel
theorem dX9_region_109 : decode cX9_region 109 = .ok (.iload 4, 2) := by decide +kernel
theorem dX9_region_111 : decode cX9_region 111 = .ok (.iastore, 1) := by decide +kernel
theorem dX9_region_112 : decode cX9_region 112 = .ok (.goto 16, 3) := by decide +kernel
theorem dX9_region_115 : decode cX9_region 115 = .ok (.aload_n 0, 1) := by decide +kernel
theorem dX9_region_116 : decode cX9_region 116 = .ok (.getfield 38, 3) := by decide +kernel
theorem dX9_region_119 : decode cX9_region 119 = .ok (.bipush 9, 2) := by decide +kernel
theorem dX9_region_121 : decode cX9_region 121 = .ok (.iload_n 1, 1) := by decide +kernel
theorem dX9_region_122 : decode cX9_region 122 = .ok (.imul, 1) := by decide +kernel
theorem dX9_region_123 : decode cX9_region 123 = .ok (.iload_n 3, 1) := by decide +kernel
theorem dX9_region_124 : decode cX9_region 124 = .ok (.iadd, 1) := by decide +kernel
theorem dX9_region_125 : decode cX9_region 125 = .ok (.iload 4, 2) := by decide +kernel
theorem dX9_region_127 : decode cX9_region 127 = .ok (.iastore, 1) := by decide +kernel
theorem dX9_region_128 : decode cX9_region 128 = .ok (.iload 5, 2) := by decide +kernel
theorem dX9_region_130 : decode cX9_region 130 = .ok (.ireturn, 1) := by decide +kernel
theorem dX9_sung_0 : decode cX9_sung 0 = .ok (.iload_n 1, 1) := by decide +kernel
theorem dX9_sung_1 : decode cX9_sung 1 = .ok (.invokestatic 121, 3) := by decide +kernel
theorem dX9_sung_4 : decode cX9_sung 4 = .ok (.ifCond .eq 17, 3) := by decide +kernel
theorem dX9_sung_7 : decode cX9_sung 7 = .ok (.iload_n 2, 1) := by decide +kernel
theorem dX9_sung_8 : decode cX9_sung 8 = .ok (.iconst 0, 1) := by decide +kernel
theorem dX9_sung_9 : decode cX9_sung 9 = .ok (.aload_n 0, 1) := by decide +kernel
theorem dX9_sung_10 : decode cX9_sung 10 = .ok (.getfield 101, 3) := by decide +kernel
theorem dX9_sung_13 : decode cX9_sung 13 = .ok (.iconst 1, 1) := by decide +kernel
theorem dX9_sung_14 : decode cX9_sung 14 = .ok (.isub, 1) := by decide +kernel
theorem dX9_sung_15 : decode cX9_sung 15 = .ok (.invokestatic 86, 3) := by decide +kernel
theorem dX9_sung_18 : decode cX9_sung 18 = .ok (.ifCond .ne 6, 3) := by decide +kernel
theorem dX9_sung_21 : decode cX9_sung 21 = .ok (.bipush (-2), 2) := by decide +kernel
theorem dX9_sung_23 : decode cX9_sung 23 = .ok (.ireturn, 1) := by decide +kernel
theorem dX9_sung_24 : decode cX9_sung 24 = .ok (.aload_n 0, 1) := by decide +kernel
theorem dX9_sung_25 : decode cX9_sung 25 = .ok (.getfield 32, 3) := by decide +kernel
theorem dX9_sung_28 : decode cX9_sung 28 = .ok (.iload_n 2, 1) := by decide +kernel
theorem dX9_sung_29 : decode cX9_sung 29 = .ok (.iaload, 1) := by decide +kernel
theorem dX9_sung_30 : decode cX9_sung 30 = .ok (.iconst (-1), 1) := by decide +kernel
theorem dX9_sung_31 : decode cX9_sung 31 = .ok (.if_icmp .ne 8, 3) := by decide +kernel
theorem dX9_sung_34 : decode cX9_sung 34 = .ok (.bipush (-4), 2) := by decide +kernel
theorem dX9_sung_36 : decode cX9_sung 36 = .ok (.goto 38, 3) := by decide +kernel
theorem dX9_sung_39 : decode cX9_sung 39 = .ok (.iconst 4, 1) := by decide +kernel
theorem dX9_sung_40 : decode cX9_sung 40 = .ok (.aload_n 0, 1) := by decide +kernel
theorem dX9_sung_41 : decode cX9_sung 41 = .ok (.getfield 35, 3) := by decide +kernel
theorem dX9_sung_44 : decode cX9_sung 44 = .ok (.bipush 8, 2) := by decide +kernel
theorem dX9_sung_46 : decode cX9_sung 46 = .ok (.iload_n 1, 1) := by decide +kernel
theorem dX9_sung_47 : decode cX9_sung 47 = .ok (.imul, 1) := by decide +kernel
theorem dX9_sung_48 : decode cX9_sung 48 = .ok (.aload_n 0, 1) := by decide +kernel
theorem dX9_sung_49 : decode cX9_sung 49 = .ok (.getfield 32, 3) := by decide +kernel
theorem dX9_sung_52 : decode cX9_sung 52 = .ok (.iload_n 2, 1) := by decide +kernel
theorem dX9_sung_53 : decode cX9_sung 53 = .ok (.iaload, 1) := by decide +kernel
theorem dX9_sung_54 : decode cX9_sung 54 = .ok (.iadd, 1) := by decide +kernel
theorem dX9_sung_55 : decode cX9_sung 55 = .ok (.iaload, 1) := by decide +kernel
theorem dX9_sung_56 : decode cX9_sung 56 = .ok (.imul, 1) := by decide +kernel
theorem dX9_sung_57 : decode cX9_sung 57 = .ok (.aload_n 0, 1) := by decide +kernel
theorem dX9_sung_58 : decode cX9_sung 58 = .ok (.getfield 38, 3) := by decide +kernel
theorem dX9_sung_61 : decode cX9_sung 61 = .ok (.bipush 9, 2) := by decide +kernel
theorem dX9_sung_63 : decode cX9_sung 63 = .ok (.iload_n 1, 1) := by decide +kernel
theorem dX9_sung_64 : decode cX9_sung 64 = .ok (.imul, 1) := by decide +kernel
theorem dX9_sung_65 : decode cX9_sung 65 = .ok (.aload_n 0, 1) := by decide +kernel
theorem dX9_sung_66 : decode cX9_sung 66 = .ok (.getfield 26, 3) := by decide +kernel
theorem dX9_sung_69 : decode cX9_sung 69 = .ok (.iload_n 2, 1) := by decide +kernel
theorem dX9_sung_70 : decode cX9_sung 70 = .ok (.iaload, 1) := by decide +kernel
theorem dX9_sung_71 : decode cX9_sung 71 = .ok (.iadd, 1) := by decide +kernel
theorem dX9_sung_72 : decode cX9_sung 72 = .ok (.iaload, 1) := by decide +kernel
theorem dX9_sung_73 : decode cX9_sung 73 = .ok (.iadd, 1) := by decide +kernel
theorem dX9_sung_74 : decode cX9_sung 74 = .ok (.ireturn, 1) := by decide +kernel
theorem dX9_syllable_0 : decode cX9_syllable 0 = .ok (.iload_n 1, 1) := by decide +kernel
theorem dX9_syllable_1 : decode cX9_syllable 1 = .ok (.iconst 0, 1) := by decide +kernel
theorem dX9_syllable_2 : decode cX9_syllable 2 = .ok (.bipush 31, 2) := by decide +kernel
theorem dX9_syllable_4 : decode cX9_syllable 4 = .ok (.invokestatic 86, 3) := by decide +kernel
theorem dX9_syllable_7 : decode cX9_syllable 7 = .ok (.ifCond .ne 6, 3) := by decide +kernel
theorem dX9_syllable_10 : decode cX9_syllable 10 = .ok (.bipush (-3), 2) := by decide +kernel
theorem dX9_syllable_12 : decode cX9_syllable 12 = .ok (.ireturn, 1) := by decide +kernel
theorem dX9_syllable_13 : decode cX9_syllable 13 = .ok (.aload_n 0, 1) := by decide +kernel
theorem dX9_syllable_14 : decode cX9_syllable 14 = .ok (.getfield 124, 3) := by decide +kernel
theorem dX9_syllable_17 : decode cX9_syllable 17 = .ok (.bipush 12, 2) := by decide +kernel
theorem dX9_syllable_19 : decode cX9_syllable 19 = .ok (.if_icmp .ne 6, 3) := by decide +kernel
theorem dX9_syllable_22 : decode cX9_syllable 22 = .ok (.bipush (-5), 2) := by decide +kernel
theorem dX9_syllable_24 : decode cX9_syllable 24 = .ok (.ireturn, 1) := by decide +kernel
theorem dX9_syllable_25 : decode cX9_syllable 25 = .ok (.aload_n 0, 1) := by decide +kernel
theorem dX9_syllable_26 : decode cX9_syllable 26 = .ok (.getfield 41, 3) := by decide +kernel
theorem dX9_syllable_29 : decode cX9_syllable 29 = .ok (.aload_n 0, 1) := by decide +kernel
theorem dX9_syllable_30 : decode cX9_syllable 30 = .ok (.getfield 124, 3) := by decide +kernel
theorem dX9_syllable_33 : decode cX9_syllable 33 = .ok (.iload_n 1, 1) := by decide +kernel
theorem dX9_syllable_34 : decode cX9_syllable 34 = .ok (.iastore, 1) := by decide +kernel
theorem dX9_syllable_35 : decode cX9_syllable 35 = .ok (.aload_n 0, 1) := by decide +kernel
theorem dX9_syllable_36 : decode cX9_syllable 36 = .ok (.dup, 1) := by decide +kernel
theorem dX9_syllable_37 : decode cX9_syllable 37 = .ok (.getfield 124, 3) := by decide +kernel
theorem dX9_syllable_40 : decode cX9_syllable 40 = .ok (.iconst 1, 1) := by decide +kernel
theorem dX9_syllable_41 : decode cX9_syllable 41 = .ok (.iadd, 1) := by decide +kernel
theorem dX9_syllable_42 : decode cX9_syllable 42 = .ok (.putfield 124, 3) := by decide +kernel
theorem dX9_syllable_45 : decode cX9_syllable 45 = .ok (.aload_n 0, 1) := by decide +kernel
theorem dX9_syllable_46 : decode cX9_syllable 46 = .ok (.getfield 124, 3) := by decide +kernel
theorem dX9_syllable_49 : decode cX9_syllable 49 = .ok (.ireturn, 1) := by decide +kernel
theorem dX9_hush_0 : decode cX9_hush 0 = .ok (.aload_n 0, 1) := by decide +kernel
theorem dX9_hush_1 : decode cX9_hush 1 = .ok (.getfield 124, 3) := by decide +kernel
theorem dX9_hush_4 : decode cX9_hush 4 = .ok (.istore_n 1, 1) := by decide +kernel
theorem dX9_hush_5 : decode cX9_hush 5 = .ok (.aload_n 0, 1) := by decide +kernel
theorem dX9_hush_6 : decode cX9_hush 6 = .ok (.iconst 0, 1) := by decide +kernel
theorem dX9_hush_7 : decode cX9_hush 7 = .ok (.putfield 124, 3) := by decide +kernel
theorem dX9_hush_10 : decode cX9_hush 10 = .ok (.iload_n 1, 1) := by decide +kernel
theorem dX9_hush_11 : decode cX9_hush 11 = .ok (.ireturn, 1) := by decide +kernel
theorem dX9_isSung_0 : decode cX9_isSung 0 = .ok (.iconst 4, 1) := by decide +kernel
theorem dX9_isSung_1 : decode cX9_isSung 1 = .ok (.aload_n 0, 1) := by decide +kernel
theorem dX9_isSung_2 : decode cX9_isSung 2 = .ok (.getfield 35, 3) := by decide +kernel
theorem dX9_isSung_5 : decode cX9_isSung 5 = .ok (.bipush 8, 2) := by decide +kernel
theorem dX9_isSung_7 : decode cX9_isSung 7 = .ok (.iload_n 1, 1) := by decide +kernel
theorem dX9_isSung_8 : decode cX9_isSung 8 = .ok (.imul, 1) := by decide +kernel
theorem dX9_isSung_9 : decode cX9_isSung 9 = .ok (.iload 4, 2) := by decide +kernel
theorem dX9_isSung_11 : decode cX9_isSung 11 = .ok (.iadd, 1) := by decide +kernel
theorem dX9_isSung_12 : decode cX9_isSung 12 = .ok (.iaload, 1) := by decide +kernel
theorem dX9_isSung_13 : decode cX9_isSung 13 = .ok (.imul, 1) := by decide +kernel
theorem dX9_isSung_14 : decode cX9_isSung 14 = .ok (.aload_n 0, 1) := by decide +kernel
theorem dX9_isSung_15 : decode cX9_isSung 15 = .ok (.getfield 38, 3) := by decide +kernel
theorem dX9_isSung_18 : decode cX9_isSung 18 = .ok (.bipush 9, 2) := by decide +kernel
theorem dX9_isSung_20 : decode cX9_isSung 20 = .ok (.iload_n 1, 1) := by decide +kernel
theorem dX9_isSung_21 : decode cX9_isSung 21 = .ok (.imul, 1) := by decide +kernel
theorem dX9_isSung_22 : decode cX9_isSung 22 = .ok (.iload_n 3, 1) := by decide +kernel
theorem dX9_isSung_23 : decode cX9_isSung 23 = .ok (.iadd, 1) := by decide +kernel
theorem dX9_isSung_24 : decode cX9_isSung 24 = .ok (.iaload, 1) := by decide +kernel
theorem dX9_isSung_25 : decode cX9_isSung 25 = .ok (.iadd, 1) := by decide +kernel
theorem dX9_isSung_26 : decode cX9_isSung 26 = .ok (.aload_n 0, 1) := by decide +kernel
theorem dX9_isSung_27 : decode cX9_isSung 27 = .ok (.getfield 41, 3) := by decide +kernel
theorem dX9_isSung_30 : decode cX9_isSung 30 = .ok (.iload_n 2, 1) := by decide +kernel
theorem dX9_isSung_31 : decode cX9_isSung 31 = .ok (.iaload, 1) := by decide +kernel
theorem dX9_isSung_32 : decode cX9_isSung 32 = .ok (.if_icmp .ne 7, 3) := by decide +kernel
theorem dX9_isSung_35 : decode cX9_isSung 35 = .ok (.iconst 1, 1) := by decide +kernel
theorem dX9_isSung_36 : decode cX9_isSung 36 = .ok (.goto 4, 3) := by decide +kernel
theorem dX9_isSung_39 : decode cX9_isSung 39 = .ok (.iconst 0, 1) := by decide +kernel
theorem dX9_isSung_40 : decode cX9_isSung 40 = .ok (.ireturn, 1) := by decide +kernel
theorem dX9_readBy_0 : decode cX9_readBy 0 = .ok (.iconst 0, 1) := by decide +kernel
theorem dX9_readBy_1 : decode cX9_readBy 1 = .ok (.istore_n 2, 1) := by decide +kernel
theorem dX9_readBy_2 : decode cX9_readBy 2 = .ok (.iload_n 2, 1) := by decide +kernel
theorem dX9_readBy_3 : decode cX9_readBy 3 = .ok (.bipush 10, 2) := by decide +kernel
theorem dX9_readBy_5 : decode cX9_readBy 5 = .ok (.if_icmp .ge 24, 3) := by decide +kernel
theorem dX9_readBy_8 : decode cX9_readBy 8 = .ok (.aload_n 0, 1) := by decide +kernel
theorem dX9_readBy_9 : decode cX9_readBy 9 = .ok (.getfield 44, 3) := by decide +kernel
theorem dX9_readBy_12 : decode cX9_readBy 12 = .ok (.bipush 10, 2) := by decide +kernel
theorem dX9_readBy_14 : decode cX9_readBy 14 = .ok (.aload_n 0, 1) := by decide +kernel
theorem dX9_readBy_15 : decode cX9_readBy 15 = .ok (.getfield 124, 3) := by decide +kernel
theorem dX9_readBy_18 : decode cX9_readBy 18 = .ok (.imul, 1) := by decide +kernel
theorem dX9_readBy_19 : decode cX9_readBy 19 = .ok (.iload_n 2, 1) := by decide +kernel
theorem dX9_readBy_20 : decode cX9_readBy 20 = .ok (.iadd, 1) := by decide +kernel
theorem dX9_readBy_21 : decode cX9_readBy 21 = .ok (.iconst 1, 1) := by decide +kernel
theorem dX9_readBy_22 : decode cX9_readBy 22 = .ok (.iastore, 1) := by decide +kernel
theorem dX9_readBy_23 : decode cX9_readBy 23 = .ok (.iinc 2 1, 3) := by decide +kernel
theorem dX9_readBy_26 : decode cX9_readBy 26 = .ok (.goto (-24), 3) := by decide +kernel
theorem dX9_readBy_29 : decode cX9_readBy 29 = .ok (.aload_n 0, 1) := by decide +kernel
theorem dX9_readBy_30 : decode cX9_readBy 30 = .ok (.getfield 124, 3) := by decide +kernel
theorem dX9_readBy_33 : decode cX9_readBy 33 = .ok (.iconst 1, 1) := by decide +kernel
theorem dX9_readBy_34 : decode cX9_readBy 34 = .ok (.isub, 1) := by decide +kernel
theorem dX9_readBy_35 : decode cX9_readBy 35 = .ok (.istore_n 2, 1) := by decide +kernel
theorem dX9_readBy_36 : decode cX9_readBy 36 = .ok (.iload_n 2, 1) := by decide +kernel
theorem dX9_readBy_37 : decode cX9_readBy 37 = .ok (.ifCond .lt 127, 3) := by decide +kernel
theorem dX9_readBy_40 : decode cX9_readBy 40 = .ok (.iconst 0, 1) := by decide +kernel
theorem dX9_readBy_41 : decode cX9_readBy 41 = .ok (.istore_n 3, 1) := by decide +kernel
theorem dX9_readBy_42 : decode cX9_readBy 42 = .ok (.iload_n 3, 1) := by decide +kernel
theorem dX9_readBy_43 : decode cX9_readBy 43 = .ok (.bipush 10, 2) := by decide +kernel
theorem dX9_readBy_45 : decode cX9_readBy 45 = .ok (.if_icmp .ge 113, 3) := by decide +kernel
theorem dX9_readBy_48 : decode cX9_readBy 48 = .ok (.iconst 0, 1) := by decide +kernel
theorem dX9_readBy_49 : decode cX9_readBy 49 = .ok (.istore 4, 2) := by decide +kernel
theorem dX9_readBy_51 : decode cX9_readBy 51 = .ok (.iconst 0, 1) := by decide +kernel
theorem dX9_readBy_52 : decode cX9_readBy 52 = .ok (.istore 5, 2) := by decide +kernel
theorem dX9_readBy_54 : decode cX9_readBy 54 = .ok (.iload 5, 2) := by decide +kernel
theorem dX9_readBy_56 : decode cX9_readBy 56 = .ok (.bipush 9, 2) := by decide +kernel
theorem dX9_readBy_58 : decode cX9_readBy 58 = .ok (.if_icmp .ge 81, 3) := by decide +kernel
theorem dX9_readBy_61 : decode cX9_readBy 61 = .ok (.iconst 0, 1) := by decide +kernel
theorem dX9_readBy_62 : decode cX9_readBy 62 = .ok (.istore 6, 2) := by decide +kernel
theorem dX9_readBy_64 : decode cX9_readBy 64 = .ok (.iload 6, 2) := by decide +kernel
theorem dX9_readBy_66 : decode cX9_readBy 66 = .ok (.bipush 8, 2) := by decide +kernel
theorem dX9_readBy_68 : decode cX9_readBy 68 = .ok (.if_icmp .ge 65, 3) := by decide +kernel
theorem dX9_readBy_71 : decode cX9_readBy 71 = .ok (.aload_n 0, 1) := by decide +kernel
theorem dX9_readBy_72 : decode cX9_readBy 72 = .ok (.iload_n 1, 1) := by decide +kernel
theorem dX9_readBy_73 : decode cX9_readBy 73 = .ok (.iload_n 2, 1) := by decide +kernel
theorem dX9_readBy_74 : decode cX9_readBy 74 = .ok (.iload 5, 2) := by decide +kernel
theorem dX9_readBy_76 : decode cX9_readBy 76 = .ok (.iload 6, 2) := by decide +kernel
theorem dX9_readBy_78 : decode cX9_readBy 78 = .ok (.invokevirtual 127, 3) := by decide +kernel
theorem dX9_readBy_81 : decode cX9_readBy 81 = .ok (.ifCond .eq 46, 3) := by decide +kernel
theorem dX9_readBy_84 : decode cX9_readBy 84 = .ok (.aload_n 0, 1) := by decide +kernel
theorem dX9_readBy_85 : decode cX9_readBy 85 = .ok (.iload 6, 2) := by decide +kernel
theorem dX9_readBy_87 : decode cX9_readBy 87 = .ok (.iload_n 3, 1) := by decide +kernel
theorem dX9_readBy_88 : decode cX9_readBy 88 = .ok (.bipush 9, 2) := by decide +kernel
theorem dX9_readBy_90 : decode cX9_readBy 90 = .ok (.if_icmp .ne 7, 3) := by decide +kernel
theorem dX9_readBy_93 : decode cX9_readBy 93 = .ok (.iconst (-1), 1) := by decide +kernel
theorem dX9_readBy_94 : decode cX9_readBy 94 = .ok (.goto 4, 3) := by decide +kernel
theorem dX9_readBy_97 : decode cX9_readBy 97 = .ok (.iload_n 3, 1) := by decide +kernel
theorem dX9_readBy_98 : decode cX9_readBy 98 = .ok (.iload 5, 2) := by decide +kernel
theorem dX9_readBy_100 : decode cX9_readBy 100 = .ok (.invokevirtual 98, 3) := by decide +kernel
theorem dX9_readBy_103 : decode cX9_readBy 103 = .ok (.ifCond .eq 24, 3) := by decide +kernel
theorem dX9_readBy_106 : decode cX9_readBy 106 = .ok (.iload 4, 2) := by decide +kernel
theorem dX9_readBy_108 : decode cX9_readBy 108 = .ok (.aload_n 0, 1) := by decide +kernel
theorem dX9_readBy_109 : decode cX9_readBy 109 = .ok (.getfield 44, 3) := by decide +kernel
theorem dX9_readBy_112 : decode cX9_readBy 112 = .ok (.bipush 10, 2) := by decide +kernel
theorem dX9_readBy_114 : decode cX9_readBy 114 = .ok (.iload_n 2, 1) := by decide +kernel
theorem dX9_readBy_115 : decode cX9_readBy 115 = .ok (.iconst 1, 1) := by decide +kernel
theorem dX9_readBy_116 : decode cX9_readBy 116 = .ok (.iadd, 1) := by decide +kernel
theorem dX9_readBy_117 : decode cX9_readBy 117 = .ok (.imul, 1) := by decide +kernel
theorem dX9_readBy_118 : decode cX9_readBy 118 = .ok (.iload 5, 2) := by decide +kernel
theorem dX9_readBy_120 : decode cX9_readBy 120 = .ok (.iadd, 1) := by decide +kernel
theorem dX9_readBy_121 : decode cX9_readBy 121 = .ok (.iaload, 1) := by decide +kernel
theorem dX9_readBy_122 : decode cX9_readBy 122 = .ok (.invokestatic 131, 3) := by decide +kernel
theorem dX9_readBy_125 : decode cX9_readBy 125 = .ok (.istore 4, 2) := by decide +kernel
theorem dX9_readBy_127 : decode cX9_readBy 127 = .ok (.iinc 6 1, 3) := by decide +kernel
theorem dX9_readBy_130 : decode cX9_readBy 130 = .ok (.goto (-66), 3) := by decide +kernel
theorem dX9_readBy_133 : decode cX9_readBy 133 = .ok (.iinc 5 1, 3) := by decide +kernel
theorem dX9_readBy_136 : decode cX9_readBy 136 = .ok (.goto (-82), 3) := by decide +kernel
theorem dX9_readBy_139 : decode cX9_readBy 139 = .ok (.aload_n 0, 1) := by decide +kernel
theorem dX9_readBy_140 : decode cX9_readBy 140 = .ok (.getfield 44, 3) := by decide +kernel
theorem dX9_readBy_143 : decode cX9_readBy 143 = .ok (.bipush 10, 2) := by decide +kernel
theorem dX9_readBy_145 : decode cX9_readBy 145 = .ok (.iload_n 2, 1) := by decide +kernel
theorem dX9_readBy_146 : decode cX9_readBy 146 = .ok (.imul, 1) := by decide +kernel
theorem dX9_readBy_147 : decode cX9_readBy 147 = .ok (.iload_n 3, 1) := by decide +kernel
theorem dX9_readBy_148 : decode cX9_readBy 148 = .ok (.iadd, 1) := by decide +kernel
theorem dX9_readBy_149 : decode cX9_readBy 149 = .ok (.iload 4, 2) := by decide +kernel
theorem dX9_readBy_151 : decode cX9_readBy 151 = .ok (.iastore, 1) := by decide +kernel
theorem dX9_readBy_152 : decode cX9_readBy 152 = .ok (.iinc 3 1, 3) := by decide +kernel
theorem dX9_readBy_155 : decode cX9_readBy 155 = .ok (.goto (-113), 3) := by decide +kernel
theorem dX9_readBy_158 : decode cX9_readBy 158 = .ok (.iinc 2 (-1), 3) := by decide +kernel
theorem dX9_readBy_161 : decode cX9_readBy 161 = .ok (.goto (-125), 3) := by decide +kernel
theorem dX9_readBy_164 : decode cX9_readBy 164 = .ok (.aload_n 0, 1) := by decide +kernel
theorem dX9_readBy_165 : decode cX9_readBy 165 = .ok (.getfield 44, 3) := by decide +kernel
theorem dX9_readBy_168 : decode cX9_readBy 168 = .ok (.bipush 9, 2) := by decide +kernel
theorem dX9_readBy_170 : decode cX9_readBy 170 = .ok (.iaload, 1) := by decide +kernel
theorem dX9_readBy_171 : decode cX9_readBy 171 = .ok (.ireturn, 1) := by decide +kernel
theorem dX9_read_0 : decode cX9_read 0 = .ok (.iload_n 1, 1) := by decide +kernel
theorem dX9_read_1 : decode cX9_read 1 = .ok (.invokestatic 121, 3) := by decide +kernel
theorem dX9_read_4 : decode cX9_read 4 = .ok (.ifCond .eq 11, 3) := by decide +kernel
theorem dX9_read_7 : decode cX9_read 7 = .ok (.aload_n 0, 1) := by decide +kernel
theorem dX9_read_8 : decode cX9_read 8 = .ok (.iload_n 1, 1) := by decide +kernel
theorem dX9_read_9 : decode cX9_read 9 = .ok (.invokevirtual 135, 3) := by decide +kernel
theorem dX9_read_12 : decode cX9_read 12 = .ok (.goto 5, 3) := by decide +kernel
theorem dX9_read_15 : decode cX9_read 15 = .ok (.bipush (-2), 2) := by decide +kernel
theorem dX9_read_17 : decode cX9_read 17 = .ok (.ireturn, 1) := by decide +kernel
theorem dX9_first_0 : decode cX9_first 0 = .ok (.iload_n 1, 1) := by decide +kernel
theorem dX9_first_1 : decode cX9_first 1 = .ok (.invokestatic 121, 3) := by decide +kernel
theorem dX9_first_4 : decode cX9_first 4 = .ok (.ifCond .ne 6, 3) := by decide +kernel
theorem dX9_first_7 : decode cX9_first 7 = .ok (.bipush (-2), 2) := by decide +kernel
theorem dX9_first_9 : decode cX9_first 9 = .ok (.ireturn, 1) := by decide +kernel
theorem dX9_first_10 : decode cX9_first 10 = .ok (.iload_n 2, 1) := by decide +kernel
theorem dX9_first_11 : decode cX9_first 11 = .ok (.ifCond .ge 6, 3) := by decide +kernel
theorem dX9_first_14 : decode cX9_first 14 = .ok (.bipush (-3), 2) := by decide +kernel
theorem dX9_first_16 : decode cX9_first 16 = .ok (.ireturn, 1) := by decide +kernel
theorem dX9_first_17 : decode cX9_first 17 = .ok (.aload_n 0, 1) := by decide +kernel
theorem dX9_first_18 : decode cX9_first 18 = .ok (.iload_n 1, 1) := by decide +kernel
theorem dX9_first_19 : decode cX9_first 19 = .ok (.invokevirtual 135, 3) := by decide +kernel
theorem dX9_first_22 : decode cX9_first 22 = .ok (.ifCond .eq 11, 3) := by decide +kernel
theorem dX9_first_25 : decode cX9_first 25 = .ok (.iload_n 2, 1) := by decide +kernel
theorem dX9_first_26 : decode cX9_first 26 = .ok (.aload_n 0, 1) := by decide +kernel
theorem dX9_first_27 : decode cX9_first 27 = .ok (.getfield 124, 3) := by decide +kernel
theorem dX9_first_30 : decode cX9_first 30 = .ok (.if_icmp .lt 5, 3) := by decide +kernel
theorem dX9_first_33 : decode cX9_first 33 = .ok (.iconst (-1), 1) := by decide +kernel
theorem dX9_first_34 : decode cX9_first 34 = .ok (.ireturn, 1) := by decide +kernel
theorem dX9_first_35 : decode cX9_first 35 = .ok (.bipush 9, 2) := by decide +kernel
theorem dX9_first_37 : decode cX9_first 37 = .ok (.istore_n 3, 1) := by decide +kernel
theorem dX9_first_38 : decode cX9_first 38 = .ok (.iconst (-1), 1) := by decide +kernel
theorem dX9_first_39 : decode cX9_first 39 = .ok (.istore 4, 2) := by decide +kernel
theorem dX9_first_41 : decode cX9_first 41 = .ok (.iconst 0, 1) := by decide +kernel
theorem dX9_first_42 : decode cX9_first 42 = .ok (.istore 5, 2) := by decide +kernel
theorem dX9_first_44 : decode cX9_first 44 = .ok (.iload 5, 2) := by decide +kernel
theorem dX9_first_46 : decode cX9_first 46 = .ok (.iload_n 2, 1) := by decide +kernel
theorem dX9_first_47 : decode cX9_first 47 = .ok (.if_icmp .gt 118, 3) := by decide +kernel
theorem dX9_first_50 : decode cX9_first 50 = .ok (.iconst (-1), 1) := by decide +kernel
theorem dX9_first_51 : decode cX9_first 51 = .ok (.istore 4, 2) := by decide +kernel
theorem dX9_first_53 : decode cX9_first 53 = .ok (.iconst 0, 1) := by decide +kernel
theorem dX9_first_54 : decode cX9_first 54 = .ok (.istore 6, 2) := by decide +kernel
theorem dX9_first_56 : decode cX9_first 56 = .ok (.iload 6, 2) := by decide +kernel
theorem dX9_first_58 : decode cX9_first 58 = .ok (.bipush 72, 2) := by decide +kernel
theorem dX9_first_60 : decode cX9_first 60 = .ok (.if_icmp .ge 93, 3) := by decide +kernel
theorem dX9_first_63 : decode cX9_first 63 = .ok (.iload 4, 2) := by decide +kernel
theorem dX9_first_65 : decode cX9_first 65 = .ok (.iconst (-1), 1) := by decide +kernel
theorem dX9_first_66 : decode cX9_first 66 = .ok (.if_icmp .ne 87, 3) := by decide +kernel
theorem dX9_first_69 : decode cX9_first 69 = .ok (.iload 6, 2) := by decide +kernel
theorem dX9_first_71 : decode cX9_first 71 = .ok (.bipush 8, 2) := by decide +kernel
theorem dX9_first_73 : decode cX9_first 73 = .ok (.idiv, 1) := by decide +kernel
theorem dX9_first_74 : decode cX9_first 74 = .ok (.istore 7, 2) := by decide +kernel
theorem dX9_first_76 : decode cX9_first 76 = .ok (.iload 6, 2) := by decide +kernel
theorem dX9_first_78 : decode cX9_first 78 = .ok (.bipush 8, 2) := by decide +kernel
theorem dX9_first_80 : decode cX9_first 80 = .ok (.irem, 1) := by decide +kernel
theorem dX9_first_81 : decode cX9_first 81 = .ok (.istore 8, 2) := by decide +kernel
theorem dX9_first_83 : decode cX9_first 83 = .ok (.aload_n 0, 1) := by decide +kernel
theorem dX9_first_84 : decode cX9_first 84 = .ok (.iload_n 1, 1) := by decide +kernel
theorem dX9_first_85 : decode cX9_first 85 = .ok (.iload 5, 2) := by decide +kernel
theorem dX9_first_87 : decode cX9_first 87 = .ok (.iload 7, 2) := by decide +kernel
theorem dX9_first_89 : decode cX9_first 89 = .ok (.iload 8, 2) := by decide +kernel
theorem dX9_first_91 : decode cX9_first 91 = .ok (.invokevirtual 127, 3) := by decide +kernel
theorem dX9_first_94 : decode cX9_first 94 = .ok (.ifCond .eq 53, 3) := by decide +kernel
theorem dX9_first_97 : decode cX9_first 97 = .ok (.aload_n 0, 1) := by decide +kernel
theorem dX9_first_98 : decode cX9_first 98 = .ok (.iload 8, 2) := by decide +kernel
theorem dX9_first_100 : decode cX9_first 100 = .ok (.iload_n 3, 1) := by decide +kernel
theorem dX9_first_101 : decode cX9_first 101 = .ok (.bipush 9, 2) := by decide +kernel
theorem dX9_first_103 : decode cX9_first 103 = .ok (.if_icmp .ne 7, 3) := by decide +kernel
theorem dX9_first_106 : decode cX9_first 106 = .ok (.iconst (-1), 1) := by decide +kernel
theorem dX9_first_107 : decode cX9_first 107 = .ok (.goto 4, 3) := by decide +kernel
theorem dX9_first_110 : decode cX9_first 110 = .ok (.iload_n 3, 1) := by decide +kernel
theorem dX9_first_111 : decode cX9_first 111 = .ok (.iload 7, 2) := by decide +kernel
theorem dX9_first_113 : decode cX9_first 113 = .ok (.invokevirtual 98, 3) := by decide +kernel
theorem dX9_first_116 : decode cX9_first 116 = .ok (.ifCond .eq 31, 3) := by decide +kernel
theorem dX9_first_119 : decode cX9_first 119 = .ok (.aload_n 0, 1) := by decide +kernel
theorem dX9_first_120 : decode cX9_first 120 = .ok (.getfield 44, 3) := by decide +kernel
theorem dX9_first_123 : decode cX9_first 123 = .ok (.bipush 10, 2) := by decide +kernel
theorem dX9_first_125 : decode cX9_first 125 = .ok (.iload 5, 2) := by decide +kernel
theorem dX9_first_127 : decode cX9_first 127 = .ok (.iconst 1, 1) := by decide +kernel
theorem dX9_first_128 : decode cX9_first 128 = .ok (.iadd, 1) := by decide +kernel
theorem dX9_first_129 : decode cX9_first 129 = .ok (.imul, 1) := by decide +kernel
theorem dX9_first_130 : decode cX9_first 130 = .ok (.iload 7, 2) := by decide +kernel
theorem dX9_first_132 : decode cX9_first 132 = .ok (.iadd, 1) := by decide +kernel
theorem dX9_first_133 : decode cX9_first 133 = .ok (.iaload, 1) := by decide +kernel
theorem dX9_first_134 : decode cX9_first 134 = .ok (.ifCond .le 13, 3) := by decide +kernel
theorem dX9_first_137 : decode cX9_first 137 = .ok (.bipush 16, 2) := by decide +kernel
theorem dX9_first_139 : decode cX9_first 139 = .ok (.iload 7, 2) := by decide +kernel
theorem dX9_first_141 : decode cX9_first 141 = .ok (.imul, 1) := by decide +kernel
theorem dX9_first_142 : decode cX9_first 142 = .ok (.iload 8, 2) := by decide +kernel
theorem dX9_first_144 : decode cX9_first 144 = .ok (.iadd, 1) := by decide +kernel
theorem dX9_first_145 : decode cX9_first 145 = .ok (.istore 4, 2) := by decide +kernel
theorem dX9_first_147 : decode cX9_first 147 = .ok (.iinc 6 1, 3) := by decide +kernel
theorem dX9_first_150 : decode cX9_first 150 = .ok (.goto (-94), 3) := by decide +kernel
theorem dX9_first_153 : decode cX9_first 153 = .ok (.iload 4, 2) := by decide +kernel
theorem dX9_first_155 : decode cX9_first 155 = .ok (.bipush 16, 2) := by decide +kernel
theorem dX9_first_157 : decode cX9_first 157 = .ok (.idiv, 1) := by decide +kernel
theorem dX9_first_158 : decode cX9_first 158 = .ok (.istore_n 3, 1) := by decide +kernel
theorem dX9_first_159 : decode cX9_first 159 = .ok (.iinc 5 1, 3) := by decide +kernel
theorem dX9_first_162 : decode cX9_first 162 = .ok (.goto (-118), 3) := by decide +kernel
theorem dX9_first_165 : decode cX9_first 165 = .ok (.iload 4, 2) := by decide +kernel
theorem dX9_first_167 : decode cX9_first 167 = .ok (.ireturn, 1) := by decide +kernel
theorem dX9_home_0 : decode cX9_home 0 = .ok (.iconst (-1), 1) := by decide +kernel
theorem dX9_home_1 : decode cX9_home 1 = .ok (.istore_n 1, 1) := by decide +kernel
theorem dX9_home_2 : decode cX9_home 2 = .ok (.iconst 0, 1) := by decide +kernel
theorem dX9_home_3 : decode cX9_home 3 = .ok (.istore_n 2, 1) := by decide +kernel
theorem dX9_home_4 : decode cX9_home 4 = .ok (.iconst 0, 1) := by decide +kernel
theorem dX9_home_5 : decode cX9_home 5 = .ok (.istore_n 3, 1) := by decide +kernel
theorem dX9_home_6 : decode cX9_home 6 = .ok (.iload_n 3, 1) := by decide +kernel
theorem dX9_home_7 : decode cX9_home 7 = .ok (.iconst 3, 1) := by decide +kernel
theorem dX9_home_8 : decode cX9_home 8 = .ok (.if_icmp .ge 37, 3) := by decide +kernel
theorem dX9_home_11 : decode cX9_home 11 = .ok (.aload_n 0, 1) := by decide +kernel
theorem dX9_home_12 : decode cX9_home 12 = .ok (.iload_n 3, 1) := by decide +kernel
theorem dX9_home_13 : decode cX9_home 13 = .ok (.invokevirtual 135, 3) := by decide +kernel
theorem dX9_home_16 : decode cX9_home 16 = .ok (.istore 4, 2) := by decide +kernel
theorem dX9_home_18 : decode cX9_home 18 = .ok (.iload 4, 2) := by decide +kernel
theorem dX9_home_20 : decode cX9_home 20 = .ok (.ifCond .le 19, 3) := by decide +kernel
theorem dX9_home_23 : decode cX9_home 23 = .ok (.iload_n 1, 1) := by decide +kernel
theorem dX9_home_24 : decode cX9_home 24 = .ok (.iconst (-1), 1) := by decide +kernel
theorem dX9_home_25 : decode cX9_home 25 = .ok (.if_icmp .eq 9, 3) := by decide +kernel
theorem dX9_home_28 : decode cX9_home 28 = .ok (.iload 4, 2) := by decide +kernel
theorem dX9_home_30 : decode cX9_home 30 = .ok (.iload_n 2, 1) := by decide +kernel
theorem dX9_home_31 : decode cX9_home 31 = .ok (.if_icmp .ge 8, 3) := by decide +kernel
theorem dX9_home_34 : decode cX9_home 34 = .ok (.iload_n 3, 1) := by decide +kernel
theorem dX9_home_35 : decode cX9_home 35 = .ok (.istore_n 1, 1) := by decide +kernel
theorem dX9_home_36 : decode cX9_home 36 = .ok (.iload 4, 2) := by decide +kernel
theorem dX9_home_38 : decode cX9_home 38 = .ok (.istore_n 2, 1) := by decide +kernel
theorem dX9_home_39 : decode cX9_home 39 = .ok (.iinc 3 1, 3) := by decide +kernel
theorem dX9_home_42 : decode cX9_home 42 = .ok (.goto (-36), 3) := by decide +kernel
theorem dX9_home_45 : decode cX9_home 45 = .ok (.iload_n 1, 1) := by decide +kernel
theorem dX9_home_46 : decode cX9_home 46 = .ok (.ireturn, 1) := by decide +kernel
theorem dX9_rule_0 : decode cX9_rule 0 = .ok (.iload_n 1, 1) := by decide +kernel
theorem dX9_rule_1 : decode cX9_rule 1 = .ok (.invokestatic 138, 3) := by decide +kernel
theorem dX9_rule_4 : decode cX9_rule 4 = .ok (.ifCond .ne 6, 3) := by decide +kernel
theorem dX9_rule_7 : decode cX9_rule 7 = .ok (.bipush (-2), 2) := by decide +kernel
theorem dX9_rule_9 : decode cX9_rule 9 = .ok (.ireturn, 1) := by decide +kernel
theorem dX9_rule_10 : decode cX9_rule 10 = .ok (.iload_n 2, 1) := by decide +kernel
theorem dX9_rule_11 : decode cX9_rule 11 = .ok (.iconst 1, 1) := by decide +kernel
theorem dX9_rule_12 : decode cX9_rule 12 = .ok (.iconst 4, 1) := by decide +kernel
theorem dX9_rule_13 : decode cX9_rule 13 = .ok (.invokestatic 86, 3) := by decide +kernel
theorem dX9_rule_16 : decode cX9_rule 16 = .ok (.ifCond .ne 6, 3) := by decide +kernel
theorem dX9_rule_19 : decode cX9_rule 19 = .ok (.bipush (-3), 2) := by decide +kernel
theorem dX9_rule_21 : decode cX9_rule 21 = .ok (.ireturn, 1) := by decide +kernel
theorem dX9_rule_22 : decode cX9_rule 22 = .ok (.iconst 0, 1) := by decide +kernel
theorem dX9_rule_23 : decode cX9_rule 23 = .ok (.istore 4, 2) := by decide +kernel
theorem dX9_rule_25 : decode cX9_rule 25 = .ok (.iload 4, 2) := by decide +kernel
theorem dX9_rule_27 : decode cX9_rule 27 = .ok (.iload_n 2, 1) := by decide +kernel
theorem dX9_rule_28 : decode cX9_rule 28 = .ok (.if_icmp .ge 26, 3) := by decide +kernel
theorem dX9_rule_31 : decode cX9_rule 31 = .ok (.iload_n 3, 1) := by decide +kernel
theorem dX9_rule_32 : decode cX9_rule 32 = .ok (.iconst 4, 1) := by decide +kernel
theorem dX9_rule_33 : decode cX9_rule 33 = .ok (.iload 4, 2) := by decide +kernel
theorem dX9_rule_35 : decode cX9_rule 35 = .ok (.imul, 1) := by decide +kernel
theorem dX9_rule_36 : decode cX9_rule 36 = .ok (.ishr, 1) := by decide +kernel
theorem dX9_rule_37 : decode cX9_rule 37 = .ok (.bipush 15, 2) := by decide +kernel
theorem dX9_rule_39 : decode cX9_rule 39 = .ok (.iand, 1) := by decide +kernel
theorem dX9_rule_40 : decode cX9_rule 40 = .ok (.bipush 10, 2) := by decide +kernel
theorem dX9_rule_42 : decode cX9_rule 42 = .ok (.if_icmp .le 6, 3) := by decide +kernel
theorem dX9_rule_45 : decode cX9_rule 45 = .ok (.bipush (-3), 2) := by decide +kernel
theorem dX9_rule_47 : decode cX9_rule 47 = .ok (.ireturn, 1) := by decide +kernel
theorem dX9_rule_48 : decode cX9_rule 48 = .ok (.iinc 4 1, 3) := by decide +kernel
theorem dX9_rule_51 : decode cX9_rule 51 = .ok (.goto (-26), 3) := by decide +kernel
theorem dX9_rule_54 : decode cX9_rule 54 = .ok (.iconst 0, 1) := by decide +kernel
theorem dX9_rule_55 : decode cX9_rule 55 = .ok (.istore 4, 2) := by decide +kernel
theorem dX9_rule_57 : decode cX9_rule 57 = .ok (.iload 4, 2) := by decide +kernel
theorem dX9_rule_59 : decode cX9_rule 59 = .ok (.aload_n 0, 1) := by decide +kernel
theorem dX9_rule_60 : decode cX9_rule 60 = .ok (.getfield 141, 3) := by decide +kernel
theorem dX9_rule_63 : decode cX9_rule 63 = .ok (.if_icmp .ge 23, 3) := by decide +kernel
theorem dX9_rule_66 : decode cX9_rule 66 = .ok (.aload_n 0, 1) := by decide +kernel
theorem dX9_rule_67 : decode cX9_rule 67 = .ok (.getfield 56, 3) := by decide +kernel
theorem dX9_rule_70 : decode cX9_rule 70 = .ok (.iload 4, 2) := by decide +kernel
theorem dX9_rule_72 : decode cX9_rule 72 = .ok (.iaload, 1) := by decide +kernel
theorem dX9_rule_73 : decode cX9_rule 73 = .ok (.iload_n 1, 1) := by decide +kernel
theorem dX9_rule_74 : decode cX9_rule 74 = .ok (.if_icmp .ne 6, 3) := by decide +kernel
theorem dX9_rule_77 : decode cX9_rule 77 = .ok (.bipush (-4), 2) := by decide +kernel
theorem dX9_rule_79 : decode cX9_rule 79 = .ok (.ireturn, 1) := by decide +kernel
theorem dX9_rule_80 : decode cX9_rule 80 = .ok (.iinc 4 1, 3) := by decide +kernel
theorem dX9_rule_83 : decode cX9_rule 83 = .ok (.goto (-26), 3) := by decide +kernel
theorem dX9_rule_86 : decode cX9_rule 86 = .ok (.aload_n 0, 1) := by decide +kernel
theorem dX9_rule_87 : decode cX9_rule 87 = .ok (.getfield 47, 3) := by decide +kernel
theorem dX9_rule_90 : decode cX9_rule 90 = .ok (.iload_n 1, 1) := by decide +kernel
theorem dX9_rule_91 : decode cX9_rule 91 = .ok (.iload_n 2, 1) := by decide +kernel
theorem dX9_rule_92 : decode cX9_rule 92 = .ok (.iastore, 1) := by decide +kernel
theorem dX9_rule_93 : decode cX9_rule 93 = .ok (.iconst 0, 1) := by decide +kernel
theorem dX9_rule_94 : decode cX9_rule 94 = .ok (.istore 4, 2) := by decide +kernel
theorem dX9_rule_96 : decode cX9_rule 96 = .ok (.iload 4, 2) := by decide +kernel
theorem dX9_rule_98 : decode cX9_rule 98 = .ok (.iload_n 2, 1) := by decide +kernel
theorem dX9_rule_99 : decode cX9_rule 99 = .ok (.if_icmp .ge 29, 3) := by decide +kernel
theorem dX9_rule_102 : decode cX9_rule 102 = .ok (.aload_n 0, 1) := by decide +kernel
theorem dX9_rule_103 : decode cX9_rule 103 = .ok (.getfield 50, 3) := by decide +kernel
theorem dX9_rule_106 : decode cX9_rule 106 = .ok (.iconst 4, 1) := by decide +kernel
theorem dX9_rule_107 : decode cX9_rule 107 = .ok (.iload_n 1, 1) := by decide +kernel
theorem dX9_rule_108 : decode cX9_rule 108 = .ok (.imul, 1) := by decide +kernel
end
section
theorem dX9_rule_109 : decode cX9_rule 109 = .ok (.iload 4, 2) := by decide +kernel
theorem dX9_rule_111 : decode cX9_rule 111 = .ok (.iadd, 1) := by decide +kernel
theorem dX9_rule_112 : decode cX9_rule 112 = .ok (.iload_n 3, 1) := by decide +kernel
theorem dX9_rule_113 : decode cX9_rule 113 = .ok (.iconst 4, 1) := by decide +kernel
theorem dX9_rule_114 : decode cX9_rule 114 = .ok (.iload 4, 2) := by decide +kernel
theorem dX9_rule_116 : decode cX9_rule 116 = .ok (.imul, 1) := by decide +kernel
theorem dX9_rule_117 : decode cX9_rule 117 = .ok (.ishr, 1) := by decide +kernel
theorem dX9_rule_118 : decode cX9_rule 118 = .ok (.bipush 15, 2) := by decide +kernel
theorem dX9_rule_120 : decode cX9_rule 120 = .ok (.iand, 1) := by decide +kernel
theorem dX9_rule_121 : decode cX9_rule 121 = .ok (.iastore, 1) := by decide +kernel
theorem dX9_rule_122 : decode cX9_rule 122 = .ok (.iinc 4 1, 3) := by decide +kernel
theorem dX9_rule_125 : decode cX9_rule 125 = .ok (.goto (-29), 3) := by decide +kernel
theorem dX9_rule_128 : decode cX9_rule 128 = .ok (.iconst 1, 1) := by decide +kernel
theorem dX9_rule_129 : decode cX9_rule 129 = .ok (.ireturn, 1) := by decide +kernel
theorem dX9_note_0 : decode cX9_note 0 = .ok (.iload_n 1, 1) := by decide +kernel
theorem dX9_note_1 : decode cX9_note 1 = .ok (.invokestatic 95, 3) := by decide +kernel
theorem dX9_note_4 : decode cX9_note 4 = .ok (.ifCond .ne 6, 3) := by decide +kernel
theorem dX9_note_7 : decode cX9_note 7 = .ok (.bipush (-2), 2) := by decide +kernel
theorem dX9_note_9 : decode cX9_note 9 = .ok (.ireturn, 1) := by decide +kernel
theorem dX9_note_10 : decode cX9_note 10 = .ok (.aload_n 0, 1) := by decide +kernel
theorem dX9_note_11 : decode cX9_note 11 = .ok (.getfield 144, 3) := by decide +kernel
theorem dX9_note_14 : decode cX9_note 14 = .ok (.bipush 16, 2) := by decide +kernel
theorem dX9_note_16 : decode cX9_note 16 = .ok (.if_icmp .ne 6, 3) := by decide +kernel
theorem dX9_note_19 : decode cX9_note 19 = .ok (.bipush (-5), 2) := by decide +kernel
theorem dX9_note_21 : decode cX9_note 21 = .ok (.ireturn, 1) := by decide +kernel
theorem dX9_note_22 : decode cX9_note 22 = .ok (.aload_n 0, 1) := by decide +kernel
theorem dX9_note_23 : decode cX9_note 23 = .ok (.getfield 53, 3) := by decide +kernel
theorem dX9_note_26 : decode cX9_note 26 = .ok (.aload_n 0, 1) := by decide +kernel
theorem dX9_note_27 : decode cX9_note 27 = .ok (.getfield 144, 3) := by decide +kernel
theorem dX9_note_30 : decode cX9_note 30 = .ok (.iload_n 1, 1) := by decide +kernel
theorem dX9_note_31 : decode cX9_note 31 = .ok (.iastore, 1) := by decide +kernel
theorem dX9_note_32 : decode cX9_note 32 = .ok (.aload_n 0, 1) := by decide +kernel
theorem dX9_note_33 : decode cX9_note 33 = .ok (.dup, 1) := by decide +kernel
theorem dX9_note_34 : decode cX9_note 34 = .ok (.getfield 144, 3) := by decide +kernel
theorem dX9_note_37 : decode cX9_note 37 = .ok (.iconst 1, 1) := by decide +kernel
theorem dX9_note_38 : decode cX9_note 38 = .ok (.iadd, 1) := by decide +kernel
theorem dX9_note_39 : decode cX9_note 39 = .ok (.putfield 144, 3) := by decide +kernel
theorem dX9_note_42 : decode cX9_note 42 = .ok (.aload_n 0, 1) := by decide +kernel
theorem dX9_note_43 : decode cX9_note 43 = .ok (.getfield 144, 3) := by decide +kernel
theorem dX9_note_46 : decode cX9_note 46 = .ok (.ireturn, 1) := by decide +kernel
theorem dX9_silence_0 : decode cX9_silence 0 = .ok (.aload_n 0, 1) := by decide +kernel
theorem dX9_silence_1 : decode cX9_silence 1 = .ok (.getfield 144, 3) := by decide +kernel
theorem dX9_silence_4 : decode cX9_silence 4 = .ok (.istore_n 1, 1) := by decide +kernel
theorem dX9_silence_5 : decode cX9_silence 5 = .ok (.aload_n 0, 1) := by decide +kernel
theorem dX9_silence_6 : decode cX9_silence 6 = .ok (.iconst 0, 1) := by decide +kernel
theorem dX9_silence_7 : decode cX9_silence 7 = .ok (.putfield 144, 3) := by decide +kernel
theorem dX9_silence_10 : decode cX9_silence 10 = .ok (.iload_n 1, 1) := by decide +kernel
theorem dX9_silence_11 : decode cX9_silence 11 = .ok (.ireturn, 1) := by decide +kernel
theorem dX9_cellsOf_0 : decode cX9_cellsOf 0 = .ok (.iload_n 2, 1) := by decide +kernel
theorem dX9_cellsOf_1 : decode cX9_cellsOf 1 = .ok (.iload_n 3, 1) := by decide +kernel
theorem dX9_cellsOf_2 : decode cX9_cellsOf 2 = .ok (.ishr, 1) := by decide +kernel
theorem dX9_cellsOf_3 : decode cX9_cellsOf 3 = .ok (.iconst 1, 1) := by decide +kernel
theorem dX9_cellsOf_4 : decode cX9_cellsOf 4 = .ok (.iand, 1) := by decide +kernel
theorem dX9_cellsOf_5 : decode cX9_cellsOf 5 = .ok (.iconst 1, 1) := by decide +kernel
theorem dX9_cellsOf_6 : decode cX9_cellsOf 6 = .ok (.if_icmp .ne 7, 3) := by decide +kernel
theorem dX9_cellsOf_9 : decode cX9_cellsOf 9 = .ok (.iconst 1, 1) := by decide +kernel
theorem dX9_cellsOf_10 : decode cX9_cellsOf 10 = .ok (.goto 9, 3) := by decide +kernel
theorem dX9_cellsOf_13 : decode cX9_cellsOf 13 = .ok (.aload_n 0, 1) := by decide +kernel
theorem dX9_cellsOf_14 : decode cX9_cellsOf 14 = .ok (.getfield 47, 3) := by decide +kernel
theorem dX9_cellsOf_17 : decode cX9_cellsOf 17 = .ok (.iload_n 1, 1) := by decide +kernel
theorem dX9_cellsOf_18 : decode cX9_cellsOf 18 = .ok (.iaload, 1) := by decide +kernel
theorem dX9_cellsOf_19 : decode cX9_cellsOf 19 = .ok (.ireturn, 1) := by decide +kernel
theorem dX9_cellOf_0 : decode cX9_cellOf 0 = .ok (.iload_n 2, 1) := by decide +kernel
theorem dX9_cellOf_1 : decode cX9_cellOf 1 = .ok (.iload_n 3, 1) := by decide +kernel
theorem dX9_cellOf_2 : decode cX9_cellOf 2 = .ok (.ishr, 1) := by decide +kernel
theorem dX9_cellOf_3 : decode cX9_cellOf 3 = .ok (.iconst 1, 1) := by decide +kernel
theorem dX9_cellOf_4 : decode cX9_cellOf 4 = .ok (.iand, 1) := by decide +kernel
theorem dX9_cellOf_5 : decode cX9_cellOf 5 = .ok (.iconst 1, 1) := by decide +kernel
theorem dX9_cellOf_6 : decode cX9_cellOf 6 = .ok (.if_icmp .ne 8, 3) := by decide +kernel
theorem dX9_cellOf_9 : decode cX9_cellOf 9 = .ok (.bipush 9, 2) := by decide +kernel
theorem dX9_cellOf_11 : decode cX9_cellOf 11 = .ok (.goto 14, 3) := by decide +kernel
theorem dX9_cellOf_14 : decode cX9_cellOf 14 = .ok (.aload_n 0, 1) := by decide +kernel
theorem dX9_cellOf_15 : decode cX9_cellOf 15 = .ok (.getfield 50, 3) := by decide +kernel
theorem dX9_cellOf_18 : decode cX9_cellOf 18 = .ok (.iconst 4, 1) := by decide +kernel
theorem dX9_cellOf_19 : decode cX9_cellOf 19 = .ok (.iload_n 1, 1) := by decide +kernel
theorem dX9_cellOf_20 : decode cX9_cellOf 20 = .ok (.imul, 1) := by decide +kernel
theorem dX9_cellOf_21 : decode cX9_cellOf 21 = .ok (.iload 4, 2) := by decide +kernel
theorem dX9_cellOf_23 : decode cX9_cellOf 23 = .ok (.iadd, 1) := by decide +kernel
theorem dX9_cellOf_24 : decode cX9_cellOf 24 = .ok (.iaload, 1) := by decide +kernel
theorem dX9_cellOf_25 : decode cX9_cellOf 25 = .ok (.istore 7, 2) := by decide +kernel
theorem dX9_cellOf_27 : decode cX9_cellOf 27 = .ok (.iload 7, 2) := by decide +kernel
theorem dX9_cellOf_29 : decode cX9_cellOf 29 = .ok (.bipush 9, 2) := by decide +kernel
theorem dX9_cellOf_31 : decode cX9_cellOf 31 = .ok (.if_icmp .ne 8, 3) := by decide +kernel
theorem dX9_cellOf_34 : decode cX9_cellOf 34 = .ok (.iload 5, 2) := by decide +kernel
theorem dX9_cellOf_36 : decode cX9_cellOf 36 = .ok (.goto 17, 3) := by decide +kernel
theorem dX9_cellOf_39 : decode cX9_cellOf 39 = .ok (.iload 7, 2) := by decide +kernel
theorem dX9_cellOf_41 : decode cX9_cellOf 41 = .ok (.bipush 10, 2) := by decide +kernel
theorem dX9_cellOf_43 : decode cX9_cellOf 43 = .ok (.if_icmp .ne 8, 3) := by decide +kernel
theorem dX9_cellOf_46 : decode cX9_cellOf 46 = .ok (.iload 6, 2) := by decide +kernel
theorem dX9_cellOf_48 : decode cX9_cellOf 48 = .ok (.goto 5, 3) := by decide +kernel
theorem dX9_cellOf_51 : decode cX9_cellOf 51 = .ok (.iload 7, 2) := by decide +kernel
theorem dX9_cellOf_53 : decode cX9_cellOf 53 = .ok (.ireturn, 1) := by decide +kernel
theorem dX9_varied_0 : decode cX9_varied 0 = .ok (.iload_n 1, 1) := by decide +kernel
theorem dX9_varied_1 : decode cX9_varied 1 = .ok (.invokestatic 138, 3) := by decide +kernel
theorem dX9_varied_4 : decode cX9_varied 4 = .ok (.ifCond .ne 6, 3) := by decide +kernel
theorem dX9_varied_7 : decode cX9_varied 7 = .ok (.bipush (-2), 2) := by decide +kernel
theorem dX9_varied_9 : decode cX9_varied 9 = .ok (.ireturn, 1) := by decide +kernel
theorem dX9_varied_10 : decode cX9_varied 10 = .ok (.iload_n 2, 1) := by decide +kernel
theorem dX9_varied_11 : decode cX9_varied 11 = .ok (.iconst 0, 1) := by decide +kernel
theorem dX9_varied_12 : decode cX9_varied 12 = .ok (.ldc 147, 2) := by decide +kernel
theorem dX9_varied_14 : decode cX9_varied 14 = .ok (.invokestatic 86, 3) := by decide +kernel
theorem dX9_varied_17 : decode cX9_varied 17 = .ok (.ifCond .eq 7, 3) := by decide +kernel
theorem dX9_varied_20 : decode cX9_varied 20 = .ok (.iload_n 3, 1) := by decide +kernel
theorem dX9_varied_21 : decode cX9_varied 21 = .ok (.ifCond .ge 6, 3) := by decide +kernel
theorem dX9_varied_24 : decode cX9_varied 24 = .ok (.bipush (-3), 2) := by decide +kernel
theorem dX9_varied_26 : decode cX9_varied 26 = .ok (.ireturn, 1) := by decide +kernel
theorem dX9_varied_27 : decode cX9_varied 27 = .ok (.iload_n 3, 1) := by decide +kernel
theorem dX9_varied_28 : decode cX9_varied 28 = .ok (.istore 4, 2) := by decide +kernel
theorem dX9_varied_30 : decode cX9_varied 30 = .ok (.iconst 0, 1) := by decide +kernel
theorem dX9_varied_31 : decode cX9_varied 31 = .ok (.istore 5, 2) := by decide +kernel
theorem dX9_varied_33 : decode cX9_varied 33 = .ok (.iload 5, 2) := by decide +kernel
theorem dX9_varied_35 : decode cX9_varied 35 = .ok (.aload_n 0, 1) := by decide +kernel
theorem dX9_varied_36 : decode cX9_varied 36 = .ok (.getfield 144, 3) := by decide +kernel
theorem dX9_varied_39 : decode cX9_varied 39 = .ok (.if_icmp .ge 65, 3) := by decide +kernel
theorem dX9_varied_42 : decode cX9_varied 42 = .ok (.aload_n 0, 1) := by decide +kernel
theorem dX9_varied_43 : decode cX9_varied 43 = .ok (.iload_n 1, 1) := by decide +kernel
theorem dX9_varied_44 : decode cX9_varied 44 = .ok (.iload_n 2, 1) := by decide +kernel
theorem dX9_varied_45 : decode cX9_varied 45 = .ok (.iload 5, 2) := by decide +kernel
theorem dX9_varied_47 : decode cX9_varied 47 = .ok (.invokevirtual 148, 3) := by decide +kernel
theorem dX9_varied_50 : decode cX9_varied 50 = .ok (.istore 6, 2) := by decide +kernel
theorem dX9_varied_52 : decode cX9_varied 52 = .ok (.iload 4, 2) := by decide +kernel
theorem dX9_varied_54 : decode cX9_varied 54 = .ok (.iload 6, 2) := by decide +kernel
theorem dX9_varied_56 : decode cX9_varied 56 = .ok (.if_icmp .ge 35, 3) := by decide +kernel
theorem dX9_varied_59 : decode cX9_varied 59 = .ok (.aload_n 0, 1) := by decide +kernel
theorem dX9_varied_60 : decode cX9_varied 60 = .ok (.iload_n 1, 1) := by decide +kernel
theorem dX9_varied_61 : decode cX9_varied 61 = .ok (.iload_n 2, 1) := by decide +kernel
theorem dX9_varied_62 : decode cX9_varied 62 = .ok (.iload 5, 2) := by decide +kernel
theorem dX9_varied_64 : decode cX9_varied 64 = .ok (.iload 4, 2) := by decide +kernel
theorem dX9_varied_66 : decode cX9_varied 66 = .ok (.aload_n 0, 1) := by decide +kernel
theorem dX9_varied_67 : decode cX9_varied 67 = .ok (.getfield 53, 3) := by decide +kernel
theorem dX9_varied_70 : decode cX9_varied 70 = .ok (.iload 5, 2) := by decide +kernel
theorem dX9_varied_72 : decode cX9_varied 72 = .ok (.iaload, 1) := by decide +kernel
theorem dX9_varied_73 : decode cX9_varied 73 = .ok (.aload_n 0, 1) := by decide +kernel
theorem dX9_varied_74 : decode cX9_varied 74 = .ok (.getfield 53, 3) := by decide +kernel
theorem dX9_varied_77 : decode cX9_varied 77 = .ok (.iload 5, 2) := by decide +kernel
theorem dX9_varied_79 : decode cX9_varied 79 = .ok (.iconst 1, 1) := by decide +kernel
theorem dX9_varied_80 : decode cX9_varied 80 = .ok (.iadd, 1) := by decide +kernel
theorem dX9_varied_81 : decode cX9_varied 81 = .ok (.aload_n 0, 1) := by decide +kernel
theorem dX9_varied_82 : decode cX9_varied 82 = .ok (.getfield 144, 3) := by decide +kernel
theorem dX9_varied_85 : decode cX9_varied 85 = .ok (.irem, 1) := by decide +kernel
theorem dX9_varied_86 : decode cX9_varied 86 = .ok (.iaload, 1) := by decide +kernel
theorem dX9_varied_87 : decode cX9_varied 87 = .ok (.invokevirtual 152, 3) := by decide +kernel
theorem dX9_varied_90 : decode cX9_varied 90 = .ok (.ireturn, 1) := by decide +kernel
theorem dX9_varied_91 : decode cX9_varied 91 = .ok (.iload 4, 2) := by decide +kernel
theorem dX9_varied_93 : decode cX9_varied 93 = .ok (.iload 6, 2) := by decide +kernel
theorem dX9_varied_95 : decode cX9_varied 95 = .ok (.isub, 1) := by decide +kernel
theorem dX9_varied_96 : decode cX9_varied 96 = .ok (.istore 4, 2) := by decide +kernel
theorem dX9_varied_98 : decode cX9_varied 98 = .ok (.iinc 5 1, 3) := by decide +kernel
theorem dX9_varied_101 : decode cX9_varied 101 = .ok (.goto (-68), 3) := by decide +kernel
theorem dX9_varied_104 : decode cX9_varied 104 = .ok (.iconst (-1), 1) := by decide +kernel
theorem dX9_varied_105 : decode cX9_varied 105 = .ok (.ireturn, 1) := by decide +kernel
theorem dX9_sheet_0 : decode cX9_sheet 0 = .ok (.iload_n 1, 1) := by decide +kernel
theorem dX9_sheet_1 : decode cX9_sheet 1 = .ok (.invokestatic 138, 3) := by decide +kernel
theorem dX9_sheet_4 : decode cX9_sheet 4 = .ok (.ifCond .ne 6, 3) := by decide +kernel
theorem dX9_sheet_7 : decode cX9_sheet 7 = .ok (.bipush (-2), 2) := by decide +kernel
theorem dX9_sheet_9 : decode cX9_sheet 9 = .ok (.ireturn, 1) := by decide +kernel
theorem dX9_sheet_10 : decode cX9_sheet 10 = .ok (.iload_n 2, 1) := by decide +kernel
theorem dX9_sheet_11 : decode cX9_sheet 11 = .ok (.iconst 1, 1) := by decide +kernel
theorem dX9_sheet_12 : decode cX9_sheet 12 = .ok (.bipush 16, 2) := by decide +kernel
theorem dX9_sheet_14 : decode cX9_sheet 14 = .ok (.invokestatic 86, 3) := by decide +kernel
theorem dX9_sheet_17 : decode cX9_sheet 17 = .ok (.ifCond .eq 16, 3) := by decide +kernel
theorem dX9_sheet_20 : decode cX9_sheet 20 = .ok (.iload_n 3, 1) := by decide +kernel
theorem dX9_sheet_21 : decode cX9_sheet 21 = .ok (.iconst 0, 1) := by decide +kernel
theorem dX9_sheet_22 : decode cX9_sheet 22 = .ok (.iconst 1, 1) := by decide +kernel
theorem dX9_sheet_23 : decode cX9_sheet 23 = .ok (.iload_n 2, 1) := by decide +kernel
theorem dX9_sheet_24 : decode cX9_sheet 24 = .ok (.ishl, 1) := by decide +kernel
theorem dX9_sheet_25 : decode cX9_sheet 25 = .ok (.iconst 1, 1) := by decide +kernel
theorem dX9_sheet_26 : decode cX9_sheet 26 = .ok (.isub, 1) := by decide +kernel
theorem dX9_sheet_27 : decode cX9_sheet 27 = .ok (.invokestatic 86, 3) := by decide +kernel
theorem dX9_sheet_30 : decode cX9_sheet 30 = .ok (.ifCond .ne 6, 3) := by decide +kernel
theorem dX9_sheet_33 : decode cX9_sheet 33 = .ok (.bipush (-3), 2) := by decide +kernel
theorem dX9_sheet_35 : decode cX9_sheet 35 = .ok (.ireturn, 1) := by decide +kernel
theorem dX9_sheet_36 : decode cX9_sheet 36 = .ok (.aload_n 0, 1) := by decide +kernel
theorem dX9_sheet_37 : decode cX9_sheet 37 = .ok (.getfield 141, 3) := by decide +kernel
theorem dX9_sheet_40 : decode cX9_sheet 40 = .ok (.ifCond .le 22, 3) := by decide +kernel
theorem dX9_sheet_43 : decode cX9_sheet 43 = .ok (.iload_n 2, 1) := by decide +kernel
theorem dX9_sheet_44 : decode cX9_sheet 44 = .ok (.aload_n 0, 1) := by decide +kernel
theorem dX9_sheet_45 : decode cX9_sheet 45 = .ok (.getfield 156, 3) := by decide +kernel
theorem dX9_sheet_48 : decode cX9_sheet 48 = .ok (.if_icmp .ne 11, 3) := by decide +kernel
theorem dX9_sheet_51 : decode cX9_sheet 51 = .ok (.iload_n 3, 1) := by decide +kernel
theorem dX9_sheet_52 : decode cX9_sheet 52 = .ok (.aload_n 0, 1) := by decide +kernel
theorem dX9_sheet_53 : decode cX9_sheet 53 = .ok (.getfield 159, 3) := by decide +kernel
theorem dX9_sheet_56 : decode cX9_sheet 56 = .ok (.if_icmp .eq 6, 3) := by decide +kernel
theorem dX9_sheet_59 : decode cX9_sheet 59 = .ok (.bipush (-4), 2) := by decide +kernel
theorem dX9_sheet_61 : decode cX9_sheet 61 = .ok (.ireturn, 1) := by decide +kernel
theorem dX9_sheet_62 : decode cX9_sheet 62 = .ok (.aload_n 0, 1) := by decide +kernel
theorem dX9_sheet_63 : decode cX9_sheet 63 = .ok (.getfield 141, 3) := by decide +kernel
theorem dX9_sheet_66 : decode cX9_sheet 66 = .ok (.iconst 3, 1) := by decide +kernel
theorem dX9_sheet_67 : decode cX9_sheet 67 = .ok (.if_icmp .ne 6, 3) := by decide +kernel
theorem dX9_sheet_70 : decode cX9_sheet 70 = .ok (.bipush (-5), 2) := by decide +kernel
theorem dX9_sheet_72 : decode cX9_sheet 72 = .ok (.ireturn, 1) := by decide +kernel
theorem dX9_sheet_73 : decode cX9_sheet 73 = .ok (.aload_n 0, 1) := by decide +kernel
theorem dX9_sheet_74 : decode cX9_sheet 74 = .ok (.iload_n 2, 1) := by decide +kernel
theorem dX9_sheet_75 : decode cX9_sheet 75 = .ok (.putfield 156, 3) := by decide +kernel
theorem dX9_sheet_78 : decode cX9_sheet 78 = .ok (.aload_n 0, 1) := by decide +kernel
theorem dX9_sheet_79 : decode cX9_sheet 79 = .ok (.iload_n 3, 1) := by decide +kernel
theorem dX9_sheet_80 : decode cX9_sheet 80 = .ok (.putfield 159, 3) := by decide +kernel
theorem dX9_sheet_83 : decode cX9_sheet 83 = .ok (.aload_n 0, 1) := by decide +kernel
theorem dX9_sheet_84 : decode cX9_sheet 84 = .ok (.getfield 56, 3) := by decide +kernel
theorem dX9_sheet_87 : decode cX9_sheet 87 = .ok (.aload_n 0, 1) := by decide +kernel
theorem dX9_sheet_88 : decode cX9_sheet 88 = .ok (.getfield 141, 3) := by decide +kernel
theorem dX9_sheet_91 : decode cX9_sheet 91 = .ok (.iload_n 1, 1) := by decide +kernel
theorem dX9_sheet_92 : decode cX9_sheet 92 = .ok (.iastore, 1) := by decide +kernel
theorem dX9_sheet_93 : decode cX9_sheet 93 = .ok (.iconst 0, 1) := by decide +kernel
theorem dX9_sheet_94 : decode cX9_sheet 94 = .ok (.istore 4, 2) := by decide +kernel
theorem dX9_sheet_96 : decode cX9_sheet 96 = .ok (.iload 4, 2) := by decide +kernel
theorem dX9_sheet_98 : decode cX9_sheet 98 = .ok (.bipush 64, 2) := by decide +kernel
theorem dX9_sheet_100 : decode cX9_sheet 100 = .ok (.if_icmp .ge 25, 3) := by decide +kernel
theorem dX9_sheet_103 : decode cX9_sheet 103 = .ok (.aload_n 0, 1) := by decide +kernel
theorem dX9_sheet_104 : decode cX9_sheet 104 = .ok (.getfield 59, 3) := by decide +kernel
theorem dX9_sheet_107 : decode cX9_sheet 107 = .ok (.bipush 64, 2) := by decide +kernel
theorem dX9_sheet_109 : decode cX9_sheet 109 = .ok (.aload_n 0, 1) := by decide +kernel
theorem dX9_sheet_110 : decode cX9_sheet 110 = .ok (.getfield 141, 3) := by decide +kernel
theorem dX9_sheet_113 : decode cX9_sheet 113 = .ok (.imul, 1) := by decide +kernel
theorem dX9_sheet_114 : decode cX9_sheet 114 = .ok (.iload 4, 2) := by decide +kernel
theorem dX9_sheet_116 : decode cX9_sheet 116 = .ok (.iadd, 1) := by decide +kernel
theorem dX9_sheet_117 : decode cX9_sheet 117 = .ok (.iconst (-1), 1) := by decide +kernel
theorem dX9_sheet_118 : decode cX9_sheet 118 = .ok (.iastore, 1) := by decide +kernel
theorem dX9_sheet_119 : decode cX9_sheet 119 = .ok (.iinc 4 1, 3) := by decide +kernel
theorem dX9_sheet_122 : decode cX9_sheet 122 = .ok (.goto (-26), 3) := by decide +kernel
theorem dX9_sheet_125 : decode cX9_sheet 125 = .ok (.aload_n 0, 1) := by decide +kernel
theorem dX9_sheet_126 : decode cX9_sheet 126 = .ok (.dup, 1) := by decide +kernel
theorem dX9_sheet_127 : decode cX9_sheet 127 = .ok (.getfield 141, 3) := by decide +kernel
theorem dX9_sheet_130 : decode cX9_sheet 130 = .ok (.iconst 1, 1) := by decide +kernel
theorem dX9_sheet_131 : decode cX9_sheet 131 = .ok (.iadd, 1) := by decide +kernel
theorem dX9_sheet_132 : decode cX9_sheet 132 = .ok (.putfield 141, 3) := by decide +kernel
theorem dX9_sheet_135 : decode cX9_sheet 135 = .ok (.aload_n 0, 1) := by decide +kernel
theorem dX9_sheet_136 : decode cX9_sheet 136 = .ok (.getfield 141, 3) := by decide +kernel
theorem dX9_sheet_139 : decode cX9_sheet 139 = .ok (.iconst 1, 1) := by decide +kernel
theorem dX9_sheet_140 : decode cX9_sheet 140 = .ok (.isub, 1) := by decide +kernel
theorem dX9_sheet_141 : decode cX9_sheet 141 = .ok (.ireturn, 1) := by decide +kernel
theorem dX9_isSheet_0 : decode cX9_isSheet 0 = .ok (.iload_n 1, 1) := by decide +kernel
theorem dX9_isSheet_1 : decode cX9_isSheet 1 = .ok (.iconst 0, 1) := by decide +kernel
theorem dX9_isSheet_2 : decode cX9_isSheet 2 = .ok (.aload_n 0, 1) := by decide +kernel
theorem dX9_isSheet_3 : decode cX9_isSheet 3 = .ok (.getfield 141, 3) := by decide +kernel
theorem dX9_isSheet_6 : decode cX9_isSheet 6 = .ok (.iconst 1, 1) := by decide +kernel
theorem dX9_isSheet_7 : decode cX9_isSheet 7 = .ok (.isub, 1) := by decide +kernel
theorem dX9_isSheet_8 : decode cX9_isSheet 8 = .ok (.invokestatic 86, 3) := by decide +kernel
theorem dX9_isSheet_11 : decode cX9_isSheet 11 = .ok (.ireturn, 1) := by decide +kernel
theorem dX9_sizeOf_0 : decode cX9_sizeOf 0 = .ok (.iconst 0, 1) := by decide +kernel
theorem dX9_sizeOf_1 : decode cX9_sizeOf 1 = .ok (.istore_n 2, 1) := by decide +kernel
theorem dX9_sizeOf_2 : decode cX9_sizeOf 2 = .ok (.iconst 0, 1) := by decide +kernel
theorem dX9_sizeOf_3 : decode cX9_sizeOf 3 = .ok (.istore_n 3, 1) := by decide +kernel
theorem dX9_sizeOf_4 : decode cX9_sizeOf 4 = .ok (.iload_n 3, 1) := by decide +kernel
theorem dX9_sizeOf_5 : decode cX9_sizeOf 5 = .ok (.aload_n 0, 1) := by decide +kernel
theorem dX9_sizeOf_6 : decode cX9_sizeOf 6 = .ok (.getfield 156, 3) := by decide +kernel
theorem dX9_sizeOf_9 : decode cX9_sizeOf 9 = .ok (.if_icmp .ge 27, 3) := by decide +kernel
theorem dX9_sizeOf_12 : decode cX9_sizeOf 12 = .ok (.iload_n 2, 1) := by decide +kernel
theorem dX9_sizeOf_13 : decode cX9_sizeOf 13 = .ok (.aload_n 0, 1) := by decide +kernel
theorem dX9_sizeOf_14 : decode cX9_sizeOf 14 = .ok (.aload_n 0, 1) := by decide +kernel
theorem dX9_sizeOf_15 : decode cX9_sizeOf 15 = .ok (.getfield 56, 3) := by decide +kernel
theorem dX9_sizeOf_18 : decode cX9_sizeOf 18 = .ok (.iload_n 1, 1) := by decide +kernel
theorem dX9_sizeOf_19 : decode cX9_sizeOf 19 = .ok (.iaload, 1) := by decide +kernel
theorem dX9_sizeOf_20 : decode cX9_sizeOf 20 = .ok (.aload_n 0, 1) := by decide +kernel
theorem dX9_sizeOf_21 : decode cX9_sizeOf 21 = .ok (.getfield 159, 3) := by decide +kernel
theorem dX9_sizeOf_24 : decode cX9_sizeOf 24 = .ok (.iload_n 3, 1) := by decide +kernel
theorem dX9_sizeOf_25 : decode cX9_sizeOf 25 = .ok (.invokevirtual 148, 3) := by decide +kernel
theorem dX9_sizeOf_28 : decode cX9_sizeOf 28 = .ok (.iadd, 1) := by decide +kernel
theorem dX9_sizeOf_29 : decode cX9_sizeOf 29 = .ok (.istore_n 2, 1) := by decide +kernel
theorem dX9_sizeOf_30 : decode cX9_sizeOf 30 = .ok (.iinc 3 1, 3) := by decide +kernel
theorem dX9_sizeOf_33 : decode cX9_sizeOf 33 = .ok (.goto (-29), 3) := by decide +kernel
theorem dX9_sizeOf_36 : decode cX9_sizeOf 36 = .ok (.iload_n 2, 1) := by decide +kernel
theorem dX9_sizeOf_37 : decode cX9_sizeOf 37 = .ok (.ireturn, 1) := by decide +kernel
theorem dX9_tell_0 : decode cX9_tell 0 = .ok (.aload_n 0, 1) := by decide +kernel
theorem dX9_tell_1 : decode cX9_tell 1 = .ok (.iload_n 1, 1) := by decide +kernel
theorem dX9_tell_2 : decode cX9_tell 2 = .ok (.invokevirtual 162, 3) := by decide +kernel
theorem dX9_tell_5 : decode cX9_tell 5 = .ok (.ifCond .eq 18, 3) := by decide +kernel
theorem dX9_tell_8 : decode cX9_tell 8 = .ok (.iload_n 2, 1) := by decide +kernel
theorem dX9_tell_9 : decode cX9_tell 9 = .ok (.iconst 0, 1) := by decide +kernel
theorem dX9_tell_10 : decode cX9_tell 10 = .ok (.aload_n 0, 1) := by decide +kernel
theorem dX9_tell_11 : decode cX9_tell 11 = .ok (.iload_n 1, 1) := by decide +kernel
theorem dX9_tell_12 : decode cX9_tell 12 = .ok (.invokevirtual 165, 3) := by decide +kernel
theorem dX9_tell_15 : decode cX9_tell 15 = .ok (.iconst 1, 1) := by decide +kernel
theorem dX9_tell_16 : decode cX9_tell 16 = .ok (.isub, 1) := by decide +kernel
theorem dX9_tell_17 : decode cX9_tell 17 = .ok (.invokestatic 86, 3) := by decide +kernel
theorem dX9_tell_20 : decode cX9_tell 20 = .ok (.ifCond .ne 6, 3) := by decide +kernel
theorem dX9_tell_23 : decode cX9_tell 23 = .ok (.bipush (-2), 2) := by decide +kernel
theorem dX9_tell_25 : decode cX9_tell 25 = .ok (.ireturn, 1) := by decide +kernel
theorem dX9_tell_26 : decode cX9_tell 26 = .ok (.iload_n 3, 1) := by decide +kernel
theorem dX9_tell_27 : decode cX9_tell 27 = .ok (.iconst (-1), 1) := by decide +kernel
theorem dX9_tell_28 : decode cX9_tell 28 = .ok (.bipush 8, 2) := by decide +kernel
theorem dX9_tell_30 : decode cX9_tell 30 = .ok (.invokestatic 86, 3) := by decide +kernel
theorem dX9_tell_33 : decode cX9_tell 33 = .ok (.ifCond .ne 6, 3) := by decide +kernel
theorem dX9_tell_36 : decode cX9_tell 36 = .ok (.bipush (-3), 2) := by decide +kernel
theorem dX9_tell_38 : decode cX9_tell 38 = .ok (.ireturn, 1) := by decide +kernel
theorem dX9_tell_39 : decode cX9_tell 39 = .ok (.aload_n 0, 1) := by decide +kernel
theorem dX9_tell_40 : decode cX9_tell 40 = .ok (.getfield 59, 3) := by decide +kernel
theorem dX9_tell_43 : decode cX9_tell 43 = .ok (.bipush 64, 2) := by decide +kernel
theorem dX9_tell_45 : decode cX9_tell 45 = .ok (.iload_n 1, 1) := by decide +kernel
theorem dX9_tell_46 : decode cX9_tell 46 = .ok (.imul, 1) := by decide +kernel
theorem dX9_tell_47 : decode cX9_tell 47 = .ok (.iload_n 2, 1) := by decide +kernel
theorem dX9_tell_48 : decode cX9_tell 48 = .ok (.iadd, 1) := by decide +kernel
theorem dX9_tell_49 : decode cX9_tell 49 = .ok (.iaload, 1) := by decide +kernel
theorem dX9_tell_50 : decode cX9_tell 50 = .ok (.istore 4, 2) := by decide +kernel
theorem dX9_tell_52 : decode cX9_tell 52 = .ok (.aload_n 0, 1) := by decide +kernel
theorem dX9_tell_53 : decode cX9_tell 53 = .ok (.getfield 59, 3) := by decide +kernel
theorem dX9_tell_56 : decode cX9_tell 56 = .ok (.bipush 64, 2) := by decide +kernel
theorem dX9_tell_58 : decode cX9_tell 58 = .ok (.iload_n 1, 1) := by decide +kernel
theorem dX9_tell_59 : decode cX9_tell 59 = .ok (.imul, 1) := by decide +kernel
theorem dX9_tell_60 : decode cX9_tell 60 = .ok (.iload_n 2, 1) := by decide +kernel
theorem dX9_tell_61 : decode cX9_tell 61 = .ok (.iadd, 1) := by decide +kernel
theorem dX9_tell_62 : decode cX9_tell 62 = .ok (.iload_n 3, 1) := by decide +kernel
theorem dX9_tell_63 : decode cX9_tell 63 = .ok (.iastore, 1) := by decide +kernel
theorem dX9_tell_64 : decode cX9_tell 64 = .ok (.iload 4, 2) := by decide +kernel
theorem dX9_tell_66 : decode cX9_tell 66 = .ok (.ireturn, 1) := by decide +kernel
theorem dX9_cells_0 : decode cX9_cells 0 = .ok (.aload_n 0, 1) := by decide +kernel
theorem dX9_cells_1 : decode cX9_cells 1 = .ok (.iload_n 1, 1) := by decide +kernel
theorem dX9_cells_2 : decode cX9_cells 2 = .ok (.invokevirtual 162, 3) := by decide +kernel
theorem dX9_cells_5 : decode cX9_cells 5 = .ok (.ifCond .eq 11, 3) := by decide +kernel
theorem dX9_cells_8 : decode cX9_cells 8 = .ok (.aload_n 0, 1) := by decide +kernel
theorem dX9_cells_9 : decode cX9_cells 9 = .ok (.iload_n 1, 1) := by decide +kernel
theorem dX9_cells_10 : decode cX9_cells 10 = .ok (.invokevirtual 165, 3) := by decide +kernel
theorem dX9_cells_13 : decode cX9_cells 13 = .ok (.goto 5, 3) := by decide +kernel
theorem dX9_cells_16 : decode cX9_cells 16 = .ok (.bipush (-2), 2) := by decide +kernel
theorem dX9_cells_18 : decode cX9_cells 18 = .ok (.ireturn, 1) := by decide +kernel
theorem dX9_clear_0 : decode cX9_clear 0 = .ok (.aload_n 0, 1) := by decide +kernel
theorem dX9_clear_1 : decode cX9_clear 1 = .ok (.getfield 141, 3) := by decide +kernel
theorem dX9_clear_4 : decode cX9_clear 4 = .ok (.istore_n 1, 1) := by decide +kernel
theorem dX9_clear_5 : decode cX9_clear 5 = .ok (.aload_n 0, 1) := by decide +kernel
theorem dX9_clear_6 : decode cX9_clear 6 = .ok (.iconst 0, 1) := by decide +kernel
theorem dX9_clear_7 : decode cX9_clear 7 = .ok (.putfield 141, 3) := by decide +kernel
theorem dX9_clear_10 : decode cX9_clear 10 = .ok (.iload_n 1, 1) := by decide +kernel
theorem dX9_clear_11 : decode cX9_clear 11 = .ok (.ireturn, 1) := by decide +kernel
theorem dX9_findOff_0 : decode cX9_findOff 0 = .ok (.iconst 0, 1) := by decide +kernel
theorem dX9_findOff_1 : decode cX9_findOff 1 = .ok (.istore_n 1, 1) := by decide +kernel
theorem dX9_findOff_2 : decode cX9_findOff 2 = .ok (.iload_n 1, 1) := by decide +kernel
theorem dX9_findOff_3 : decode cX9_findOff 3 = .ok (.bipush 81, 2) := by decide +kernel
theorem dX9_findOff_5 : decode cX9_findOff 5 = .ok (.aload_n 0, 1) := by decide +kernel
theorem dX9_findOff_6 : decode cX9_findOff 6 = .ok (.getfield 156, 3) := by decide +kernel
theorem dX9_findOff_9 : decode cX9_findOff 9 = .ok (.imul, 1) := by decide +kernel
theorem dX9_findOff_10 : decode cX9_findOff 10 = .ok (.if_icmp .ge 16, 3) := by decide +kernel
theorem dX9_findOff_13 : decode cX9_findOff 13 = .ok (.aload_n 0, 1) := by decide +kernel
theorem dX9_findOff_14 : decode cX9_findOff 14 = .ok (.getfield 62, 3) := by decide +kernel
theorem dX9_findOff_17 : decode cX9_findOff 17 = .ok (.iload_n 1, 1) := by decide +kernel
theorem dX9_findOff_18 : decode cX9_findOff 18 = .ok (.iconst 0, 1) := by decide +kernel
theorem dX9_findOff_19 : decode cX9_findOff 19 = .ok (.iastore, 1) := by decide +kernel
theorem dX9_findOff_20 : decode cX9_findOff 20 = .ok (.iinc 1 1, 3) := by decide +kernel
theorem dX9_findOff_23 : decode cX9_findOff 23 = .ok (.goto (-21), 3) := by decide +kernel
theorem dX9_findOff_26 : decode cX9_findOff 26 = .ok (.iconst 0, 1) := by decide +kernel
theorem dX9_findOff_27 : decode cX9_findOff 27 = .ok (.istore_n 1, 1) := by decide +kernel
theorem dX9_findOff_28 : decode cX9_findOff 28 = .ok (.iload_n 1, 1) := by decide +kernel
theorem dX9_findOff_29 : decode cX9_findOff 29 = .ok (.aload_n 0, 1) := by decide +kernel
theorem dX9_findOff_30 : decode cX9_findOff 30 = .ok (.getfield 141, 3) := by decide +kernel
theorem dX9_findOff_33 : decode cX9_findOff 33 = .ok (.if_icmp .ge 146, 3) := by decide +kernel
theorem dX9_findOff_36 : decode cX9_findOff 36 = .ok (.iconst 0, 1) := by decide +kernel
theorem dX9_findOff_37 : decode cX9_findOff 37 = .ok (.istore_n 2, 1) := by decide +kernel
theorem dX9_findOff_38 : decode cX9_findOff 38 = .ok (.iconst 0, 1) := by decide +kernel
theorem dX9_findOff_39 : decode cX9_findOff 39 = .ok (.istore_n 3, 1) := by decide +kernel
theorem dX9_findOff_40 : decode cX9_findOff 40 = .ok (.iload_n 3, 1) := by decide +kernel
theorem dX9_findOff_41 : decode cX9_findOff 41 = .ok (.aload_n 0, 1) := by decide +kernel
theorem dX9_findOff_42 : decode cX9_findOff 42 = .ok (.getfield 156, 3) := by decide +kernel
theorem dX9_findOff_45 : decode cX9_findOff 45 = .ok (.if_icmp .ge 128, 3) := by decide +kernel
theorem dX9_findOff_48 : decode cX9_findOff 48 = .ok (.iconst 0, 1) := by decide +kernel
theorem dX9_findOff_49 : decode cX9_findOff 49 = .ok (.istore 4, 2) := by decide +kernel
theorem dX9_findOff_51 : decode cX9_findOff 51 = .ok (.iload 4, 2) := by decide +kernel
theorem dX9_findOff_53 : decode cX9_findOff 53 = .ok (.aload_n 0, 1) := by decide +kernel
theorem dX9_findOff_54 : decode cX9_findOff 54 = .ok (.aload_n 0, 1) := by decide +kernel
theorem dX9_findOff_55 : decode cX9_findOff 55 = .ok (.getfield 56, 3) := by decide +kernel
theorem dX9_findOff_58 : decode cX9_findOff 58 = .ok (.iload_n 1, 1) := by decide +kernel
theorem dX9_findOff_59 : decode cX9_findOff 59 = .ok (.iaload, 1) := by decide +kernel
theorem dX9_findOff_60 : decode cX9_findOff 60 = .ok (.aload_n 0, 1) := by decide +kernel
theorem dX9_findOff_61 : decode cX9_findOff 61 = .ok (.getfield 159, 3) := by decide +kernel
theorem dX9_findOff_64 : decode cX9_findOff 64 = .ok (.iload_n 3, 1) := by decide +kernel
theorem dX9_findOff_65 : decode cX9_findOff 65 = .ok (.invokevirtual 148, 3) := by decide +kernel
theorem dX9_findOff_68 : decode cX9_findOff 68 = .ok (.if_icmp .ge 99, 3) := by decide +kernel
theorem dX9_findOff_71 : decode cX9_findOff 71 = .ok (.aload_n 0, 1) := by decide +kernel
theorem dX9_findOff_72 : decode cX9_findOff 72 = .ok (.getfield 59, 3) := by decide +kernel
theorem dX9_findOff_75 : decode cX9_findOff 75 = .ok (.bipush 64, 2) := by decide +kernel
theorem dX9_findOff_77 : decode cX9_findOff 77 = .ok (.iload_n 1, 1) := by decide +kernel
theorem dX9_findOff_78 : decode cX9_findOff 78 = .ok (.imul, 1) := by decide +kernel
theorem dX9_findOff_79 : decode cX9_findOff 79 = .ok (.iload_n 2, 1) := by decide +kernel
theorem dX9_findOff_80 : decode cX9_findOff 80 = .ok (.iadd, 1) := by decide +kernel
theorem dX9_findOff_81 : decode cX9_findOff 81 = .ok (.iaload, 1) := by decide +kernel
theorem dX9_findOff_82 : decode cX9_findOff 82 = .ok (.istore 5, 2) := by decide +kernel
theorem dX9_findOff_84 : decode cX9_findOff 84 = .ok (.iconst 0, 1) := by decide +kernel
theorem dX9_findOff_85 : decode cX9_findOff 85 = .ok (.istore 6, 2) := by decide +kernel
theorem dX9_findOff_87 : decode cX9_findOff 87 = .ok (.iload 6, 2) := by decide +kernel
theorem dX9_findOff_89 : decode cX9_findOff 89 = .ok (.bipush 81, 2) := by decide +kernel
theorem dX9_findOff_91 : decode cX9_findOff 91 = .ok (.if_icmp .ge 67, 3) := by decide +kernel
theorem dX9_findOff_94 : decode cX9_findOff 94 = .ok (.iload 5, 2) := by decide +kernel
theorem dX9_findOff_96 : decode cX9_findOff 96 = .ok (.iconst (-1), 1) := by decide +kernel
theorem dX9_findOff_97 : decode cX9_findOff 97 = .ok (.if_icmp .eq 61, 3) := by decide +kernel
theorem dX9_findOff_100 : decode cX9_findOff 100 = .ok (.aload_n 0, 1) := by decide +kernel
theorem dX9_findOff_101 : decode cX9_findOff 101 = .ok (.getfield 62, 3) := by decide +kernel
theorem dX9_findOff_104 : decode cX9_findOff 104 = .ok (.bipush 81, 2) := by decide +kernel
theorem dX9_findOff_106 : decode cX9_findOff 106 = .ok (.iload_n 3, 1) := by decide +kernel
theorem dX9_findOff_107 : decode cX9_findOff 107 = .ok (.imul, 1) := by decide +kernel
theorem dX9_findOff_108 : decode cX9_findOff 108 = .ok (.iload 6, 2) := by decide +kernel
theorem dX9_findOff_110 : decode cX9_findOff 110 = .ok (.iadd, 1) := by decide +kernel
theorem dX9_findOff_111 : decode cX9_findOff 111 = .ok (.dup2, 1) := by decide +kernel
theorem dX9_findOff_112 : decode cX9_findOff 112 = .ok (.iaload, 1) := by decide +kernel
theorem dX9_findOff_113 : decode cX9_findOff 113 = .ok (.aload_n 0, 1) := by decide +kernel
theorem dX9_findOff_114 : decode cX9_findOff 114 = .ok (.aload_n 0, 1) := by decide +kernel
theorem dX9_findOff_115 : decode cX9_findOff 115 = .ok (.getfield 56, 3) := by decide +kernel
theorem dX9_findOff_118 : decode cX9_findOff 118 = .ok (.iload_n 1, 1) := by decide +kernel
theorem dX9_findOff_119 : decode cX9_findOff 119 = .ok (.iaload, 1) := by decide +kernel
theorem dX9_findOff_120 : decode cX9_findOff 120 = .ok (.aload_n 0, 1) := by decide +kernel
theorem dX9_findOff_121 : decode cX9_findOff 121 = .ok (.getfield 159, 3) := by decide +kernel
theorem dX9_findOff_124 : decode cX9_findOff 124 = .ok (.iload_n 3, 1) := by decide +kernel
theorem dX9_findOff_125 : decode cX9_findOff 125 = .ok (.iload 4, 2) := by decide +kernel
theorem dX9_findOff_127 : decode cX9_findOff 127 = .ok (.iload 6, 2) := by decide +kernel
theorem dX9_findOff_129 : decode cX9_findOff 129 = .ok (.bipush 9, 2) := by decide +kernel
theorem dX9_findOff_131 : decode cX9_findOff 131 = .ok (.idiv, 1) := by decide +kernel
theorem dX9_findOff_132 : decode cX9_findOff 132 = .ok (.iload 6, 2) := by decide +kernel
theorem dX9_findOff_134 : decode cX9_findOff 134 = .ok (.bipush 9, 2) := by decide +kernel
theorem dX9_findOff_136 : decode cX9_findOff 136 = .ok (.irem, 1) := by decide +kernel
theorem dX9_findOff_137 : decode cX9_findOff 137 = .ok (.invokevirtual 152, 3) := by decide +kernel
theorem dX9_findOff_140 : decode cX9_findOff 140 = .ok (.iload 5, 2) := by decide +kernel
theorem dX9_findOff_142 : decode cX9_findOff 142 = .ok (.if_icmp .eq 7, 3) := by decide +kernel
theorem dX9_findOff_145 : decode cX9_findOff 145 = .ok (.iconst 1, 1) := by decide +kernel
theorem dX9_findOff_146 : decode cX9_findOff 146 = .ok (.goto 4, 3) := by decide +kernel
theorem dX9_findOff_149 : decode cX9_findOff 149 = .ok (.iconst 0, 1) := by decide +kernel
theorem dX9_findOff_150 : decode cX9_findOff 150 = .ok (.iadd, 1) := by decide +kernel
theorem dX9_findOff_151 : decode cX9_findOff 151 = .ok (.iastore, 1) := by decide +kernel
theorem dX9_findOff_152 : decode cX9_findOff 152 = .ok (.iinc 6 1, 3) := by decide +kernel
theorem dX9_findOff_155 : decode cX9_findOff 155 = .ok (.goto (-68), 3) := by decide +kernel
theorem dX9_findOff_158 : decode cX9_findOff 158 = .ok (.iinc 2 1, 3) := by decide +kernel
theorem dX9_findOff_161 : decode cX9_findOff 161 = .ok (.iinc 4 1, 3) := by decide +kernel
theorem dX9_findOff_164 : decode cX9_findOff 164 = .ok (.goto (-113), 3) := by decide +kernel
theorem dX9_findOff_167 : decode cX9_findOff 167 = .ok (.iinc 3 1, 3) := by decide +kernel
theorem dX9_findOff_170 : decode cX9_findOff 170 = .ok (.goto (-130), 3) := by decide +kernel
theorem dX9_findOff_173 : decode cX9_findOff 173 = .ok (.iinc 1 1, 3) := by decide +kernel
theorem dX9_findOff_176 : decode cX9_findOff 176 = .ok (.goto (-148), 3) := by decide +kernel
theorem dX9_findOff_179 : decode cX9_findOff 179 = .ok (.return_, 1) := by decide +kernel
theorem dX9_agreeing_0 : decode cX9_agreeing 0 = .ok (.aload_n 0, 1) := by decide +kernel
theorem dX9_agreeing_1 : decode cX9_agreeing 1 = .ok (.getfield 141, 3) := by decide +kernel
theorem dX9_agreeing_4 : decode cX9_agreeing 4 = .ok (.ifCond .ne 6, 3) := by decide +kernel
theorem dX9_agreeing_7 : decode cX9_agreeing 7 = .ok (.bipush (-4), 2) := by decide +kernel
theorem dX9_agreeing_9 : decode cX9_agreeing 9 = .ok (.ireturn, 1) := by decide +kernel
theorem dX9_agreeing_10 : decode cX9_agreeing 10 = .ok (.aload_n 0, 1) := by decide +kernel
theorem dX9_agreeing_11 : decode cX9_agreeing 11 = .ok (.invokevirtual 168, 3) := by decide +kernel
theorem dX9_agreeing_14 : decode cX9_agreeing 14 = .ok (.iconst 0, 1) := by decide +kernel
theorem dX9_agreeing_15 : decode cX9_agreeing 15 = .ok (.istore_n 1, 1) := by decide +kernel
theorem dX9_agreeing_16 : decode cX9_agreeing 16 = .ok (.iconst 0, 1) := by decide +kernel
theorem dX9_agreeing_17 : decode cX9_agreeing 17 = .ok (.istore_n 2, 1) := by decide +kernel
theorem dX9_agreeing_18 : decode cX9_agreeing 18 = .ok (.iload_n 2, 1) := by decide +kernel
theorem dX9_agreeing_19 : decode cX9_agreeing 19 = .ok (.bipush 9, 2) := by decide +kernel
theorem dX9_agreeing_21 : decode cX9_agreeing 21 = .ok (.if_icmp .ge 171, 3) := by decide +kernel
theorem dX9_agreeing_24 : decode cX9_agreeing 24 = .ok (.iconst 0, 1) := by decide +kernel
theorem dX9_agreeing_25 : decode cX9_agreeing 25 = .ok (.istore_n 3, 1) := by decide +kernel
theorem dX9_agreeing_26 : decode cX9_agreeing 26 = .ok (.iload_n 3, 1) := by decide +kernel
theorem dX9_agreeing_27 : decode cX9_agreeing 27 = .ok (.bipush 9, 2) := by decide +kernel
theorem dX9_agreeing_29 : decode cX9_agreeing 29 = .ok (.if_icmp .ge 33, 3) := by decide +kernel
theorem dX9_agreeing_32 : decode cX9_agreeing 32 = .ok (.aload_n 0, 1) := by decide +kernel
theorem dX9_agreeing_33 : decode cX9_agreeing 33 = .ok (.getfield 65, 3) := by decide +kernel
theorem dX9_agreeing_36 : decode cX9_agreeing 36 = .ok (.bipush 9, 2) := by decide +kernel
theorem dX9_agreeing_38 : decode cX9_agreeing 38 = .ok (.aload_n 0, 1) := by decide +kernel
theorem dX9_agreeing_39 : decode cX9_agreeing 39 = .ok (.getfield 156, 3) := by decide +kernel
theorem dX9_agreeing_42 : decode cX9_agreeing 42 = .ok (.imul, 1) := by decide +kernel
theorem dX9_agreeing_43 : decode cX9_agreeing 43 = .ok (.iload_n 3, 1) := by decide +kernel
theorem dX9_agreeing_44 : decode cX9_agreeing 44 = .ok (.iadd, 1) := by decide +kernel
theorem dX9_agreeing_45 : decode cX9_agreeing 45 = .ok (.iload_n 3, 1) := by decide +kernel
theorem dX9_agreeing_46 : decode cX9_agreeing 46 = .ok (.iload_n 2, 1) := by decide +kernel
theorem dX9_agreeing_47 : decode cX9_agreeing 47 = .ok (.if_icmp .ne 7, 3) := by decide +kernel
theorem dX9_agreeing_50 : decode cX9_agreeing 50 = .ok (.iconst 1, 1) := by decide +kernel
theorem dX9_agreeing_51 : decode cX9_agreeing 51 = .ok (.goto 4, 3) := by decide +kernel
theorem dX9_agreeing_54 : decode cX9_agreeing 54 = .ok (.iconst 0, 1) := by decide +kernel
theorem dX9_agreeing_55 : decode cX9_agreeing 55 = .ok (.iastore, 1) := by decide +kernel
theorem dX9_agreeing_56 : decode cX9_agreeing 56 = .ok (.iinc 3 1, 3) := by decide +kernel
theorem dX9_agreeing_59 : decode cX9_agreeing 59 = .ok (.goto (-33), 3) := by decide +kernel
theorem dX9_agreeing_62 : decode cX9_agreeing 62 = .ok (.aload_n 0, 1) := by decide +kernel
theorem dX9_agreeing_63 : decode cX9_agreeing 63 = .ok (.getfield 156, 3) := by decide +kernel
theorem dX9_agreeing_66 : decode cX9_agreeing 66 = .ok (.iconst 1, 1) := by decide +kernel
theorem dX9_agreeing_67 : decode cX9_agreeing 67 = .ok (.isub, 1) := by decide +kernel
theorem dX9_agreeing_68 : decode cX9_agreeing 68 = .ok (.istore_n 3, 1) := by decide +kernel
theorem dX9_agreeing_69 : decode cX9_agreeing 69 = .ok (.iload_n 3, 1) := by decide +kernel
theorem dX9_agreeing_70 : decode cX9_agreeing 70 = .ok (.ifCond .lt 105, 3) := by decide +kernel
theorem dX9_agreeing_73 : decode cX9_agreeing 73 = .ok (.iconst 0, 1) := by decide +kernel
theorem dX9_agreeing_74 : decode cX9_agreeing 74 = .ok (.istore 4, 2) := by decide +kernel
theorem dX9_agreeing_76 : decode cX9_agreeing 76 = .ok (.iload 4, 2) := by decide +kernel
theorem dX9_agreeing_78 : decode cX9_agreeing 78 = .ok (.bipush 9, 2) := by decide +kernel
theorem dX9_agreeing_80 : decode cX9_agreeing 80 = .ok (.if_icmp .ge 89, 3) := by decide +kernel
theorem dX9_agreeing_83 : decode cX9_agreeing 83 = .ok (.iconst 0, 1) := by decide +kernel
theorem dX9_agreeing_84 : decode cX9_agreeing 84 = .ok (.istore 5, 2) := by decide +kernel
theorem dX9_agreeing_86 : decode cX9_agreeing 86 = .ok (.iconst 0, 1) := by decide +kernel
theorem dX9_agreeing_87 : decode cX9_agreeing 87 = .ok (.istore 6, 2) := by decide +kernel
theorem dX9_agreeing_89 : decode cX9_agreeing 89 = .ok (.iload 6, 2) := by decide +kernel
theorem dX9_agreeing_91 : decode cX9_agreeing 91 = .ok (.bipush 9, 2) := by decide +kernel
theorem dX9_agreeing_93 : decode cX9_agreeing 93 = .ok (.if_icmp .ge 56, 3) := by decide +kernel
theorem dX9_agreeing_96 : decode cX9_agreeing 96 = .ok (.aload_n 0, 1) := by decide +kernel
theorem dX9_agreeing_97 : decode cX9_agreeing 97 = .ok (.getfield 62, 3) := by decide +kernel
theorem dX9_agreeing_100 : decode cX9_agreeing 100 = .ok (.bipush 81, 2) := by decide +kernel
theorem dX9_agreeing_102 : decode cX9_agreeing 102 = .ok (.iload_n 3, 1) := by decide +kernel
theorem dX9_agreeing_103 : decode cX9_agreeing 103 = .ok (.imul, 1) := by decide +kernel
theorem dX9_agreeing_104 : decode cX9_agreeing 104 = .ok (.bipush 9, 2) := by decide +kernel
theorem dX9_agreeing_106 : decode cX9_agreeing 106 = .ok (.iload 4, 2) := by decide +kernel
theorem dX9_agreeing_108 : decode cX9_agreeing 108 = .ok (.imul, 1) := by decide +kernel
theorem dX9_agreeing_109 : decode cX9_agreeing 109 = .ok (.iadd, 1) := by decide +kernel
theorem dX9_agreeing_110 : decode cX9_agreeing 110 = .ok (.iload 6, 2) := by decide +kernel
theorem dX9_agreeing_112 : decode cX9_agreeing 112 = .ok (.iadd, 1) := by decide +kernel
theorem dX9_agreeing_113 : decode cX9_agreeing 113 = .ok (.iaload, 1) := by decide +kernel
theorem dX9_agreeing_114 : decode cX9_agreeing 114 = .ok (.ifCond .ne 25, 3) := by decide +kernel
theorem dX9_agreeing_117 : decode cX9_agreeing 117 = .ok (.iload 5, 2) := by decide +kernel
theorem dX9_agreeing_119 : decode cX9_agreeing 119 = .ok (.aload_n 0, 1) := by decide +kernel
theorem dX9_agreeing_120 : decode cX9_agreeing 120 = .ok (.getfield 65, 3) := by decide +kernel
theorem dX9_agreeing_123 : decode cX9_agreeing 123 = .ok (.bipush 9, 2) := by decide +kernel
theorem dX9_agreeing_125 : decode cX9_agreeing 125 = .ok (.iload_n 3, 1) := by decide +kernel
theorem dX9_agreeing_126 : decode cX9_agreeing 126 = .ok (.iconst 1, 1) := by decide +kernel
theorem dX9_agreeing_127 : decode cX9_agreeing 127 = .ok (.iadd, 1) := by decide +kernel
theorem dX9_agreeing_128 : decode cX9_agreeing 128 = .ok (.imul, 1) := by decide +kernel
theorem dX9_agreeing_129 : decode cX9_agreeing 129 = .ok (.iload 6, 2) := by decide +kernel
theorem dX9_agreeing_131 : decode cX9_agreeing 131 = .ok (.iadd, 1) := by decide +kernel
theorem dX9_agreeing_132 : decode cX9_agreeing 132 = .ok (.iaload, 1) := by decide +kernel
theorem dX9_agreeing_133 : decode cX9_agreeing 133 = .ok (.invokestatic 131, 3) := by decide +kernel
theorem dX9_agreeing_136 : decode cX9_agreeing 136 = .ok (.goto 5, 3) := by decide +kernel
theorem dX9_agreeing_139 : decode cX9_agreeing 139 = .ok (.iload 5, 2) := by decide +kernel
theorem dX9_agreeing_141 : decode cX9_agreeing 141 = .ok (.istore 5, 2) := by decide +kernel
theorem dX9_agreeing_143 : decode cX9_agreeing 143 = .ok (.iinc 6 1, 3) := by decide +kernel
theorem dX9_agreeing_146 : decode cX9_agreeing 146 = .ok (.goto (-57), 3) := by decide +kernel
theorem dX9_agreeing_149 : decode cX9_agreeing 149 = .ok (.aload_n 0, 1) := by decide +kernel
theorem dX9_agreeing_150 : decode cX9_agreeing 150 = .ok (.getfield 65, 3) := by decide +kernel
theorem dX9_agreeing_153 : decode cX9_agreeing 153 = .ok (.bipush 9, 2) := by decide +kernel
theorem dX9_agreeing_155 : decode cX9_agreeing 155 = .ok (.iload_n 3, 1) := by decide +kernel
theorem dX9_agreeing_156 : decode cX9_agreeing 156 = .ok (.imul, 1) := by decide +kernel
theorem dX9_agreeing_157 : decode cX9_agreeing 157 = .ok (.iload 4, 2) := by decide +kernel
theorem dX9_agreeing_159 : decode cX9_agreeing 159 = .ok (.iadd, 1) := by decide +kernel
theorem dX9_agreeing_160 : decode cX9_agreeing 160 = .ok (.iload 5, 2) := by decide +kernel
theorem dX9_agreeing_162 : decode cX9_agreeing 162 = .ok (.iastore, 1) := by decide +kernel
theorem dX9_agreeing_163 : decode cX9_agreeing 163 = .ok (.iinc 4 1, 3) := by decide +kernel
theorem dX9_agreeing_166 : decode cX9_agreeing 166 = .ok (.goto (-90), 3) := by decide +kernel
theorem dX9_agreeing_169 : decode cX9_agreeing 169 = .ok (.iinc 3 (-1), 3) := by decide +kernel
theorem dX9_agreeing_172 : decode cX9_agreeing 172 = .ok (.goto (-103), 3) := by decide +kernel
theorem dX9_agreeing_175 : decode cX9_agreeing 175 = .ok (.iload_n 1, 1) := by decide +kernel
theorem dX9_agreeing_176 : decode cX9_agreeing 176 = .ok (.aload_n 0, 1) := by decide +kernel
theorem dX9_agreeing_177 : decode cX9_agreeing 177 = .ok (.getfield 65, 3) := by decide +kernel
theorem dX9_agreeing_180 : decode cX9_agreeing 180 = .ok (.iload_n 2, 1) := by decide +kernel
theorem dX9_agreeing_181 : decode cX9_agreeing 181 = .ok (.iaload, 1) := by decide +kernel
theorem dX9_agreeing_182 : decode cX9_agreeing 182 = .ok (.invokestatic 131, 3) := by decide +kernel
theorem dX9_agreeing_185 : decode cX9_agreeing 185 = .ok (.istore_n 1, 1) := by decide +kernel
theorem dX9_agreeing_186 : decode cX9_agreeing 186 = .ok (.iinc 2 1, 3) := by decide +kernel
theorem dX9_agreeing_189 : decode cX9_agreeing 189 = .ok (.goto (-171), 3) := by decide +kernel
theorem dX9_agreeing_192 : decode cX9_agreeing 192 = .ok (.iload_n 1, 1) := by decide +kernel
theorem dX9_agreeing_193 : decode cX9_agreeing 193 = .ok (.ireturn, 1) := by decide +kernel
theorem dX9_findTable_0 : decode cX9_findTable 0 = .ok (.iconst 0, 1) := by decide +kernel
theorem dX9_findTable_1 : decode cX9_findTable 1 = .ok (.istore_n 2, 1) := by decide +kernel
theorem dX9_findTable_2 : decode cX9_findTable 2 = .ok (.iload_n 2, 1) := by decide +kernel
theorem dX9_findTable_3 : decode cX9_findTable 3 = .ok (.bipush 9, 2) := by decide +kernel
theorem dX9_findTable_5 : decode cX9_findTable 5 = .ok (.if_icmp .ge 35, 3) := by decide +kernel
theorem dX9_findTable_8 : decode cX9_findTable 8 = .ok (.aload_n 0, 1) := by decide +kernel
theorem dX9_findTable_9 : decode cX9_findTable 9 = .ok (.getfield 65, 3) := by decide +kernel
theorem dX9_findTable_12 : decode cX9_findTable 12 = .ok (.bipush 9, 2) := by decide +kernel
theorem dX9_findTable_14 : decode cX9_findTable 14 = .ok (.aload_n 0, 1) := by decide +kernel
theorem dX9_findTable_15 : decode cX9_findTable 15 = .ok (.getfield 156, 3) := by decide +kernel
theorem dX9_findTable_18 : decode cX9_findTable 18 = .ok (.imul, 1) := by decide +kernel
theorem dX9_findTable_19 : decode cX9_findTable 19 = .ok (.iload_n 2, 1) := by decide +kernel
theorem dX9_findTable_20 : decode cX9_findTable 20 = .ok (.iadd, 1) := by decide +kernel
theorem dX9_findTable_21 : decode cX9_findTable 21 = .ok (.iload_n 2, 1) := by decide +kernel
theorem dX9_findTable_22 : decode cX9_findTable 22 = .ok (.iload_n 1, 1) := by decide +kernel
theorem dX9_findTable_23 : decode cX9_findTable 23 = .ok (.if_icmp .ne 7, 3) := by decide +kernel
theorem dX9_findTable_26 : decode cX9_findTable 26 = .ok (.iconst 0, 1) := by decide +kernel
theorem dX9_findTable_27 : decode cX9_findTable 27 = .ok (.goto 6, 3) := by decide +kernel
theorem dX9_findTable_30 : decode cX9_findTable 30 = .ok (.sipush 10000, 3) := by decide +kernel
theorem dX9_findTable_33 : decode cX9_findTable 33 = .ok (.iastore, 1) := by decide +kernel
theorem dX9_findTable_34 : decode cX9_findTable 34 = .ok (.iinc 2 1, 3) := by decide +kernel
theorem dX9_findTable_37 : decode cX9_findTable 37 = .ok (.goto (-35), 3) := by decide +kernel
theorem dX9_findTable_40 : decode cX9_findTable 40 = .ok (.aload_n 0, 1) := by decide +kernel
theorem dX9_findTable_41 : decode cX9_findTable 41 = .ok (.getfield 156, 3) := by decide +kernel
theorem dX9_findTable_44 : decode cX9_findTable 44 = .ok (.iconst 1, 1) := by decide +kernel
theorem dX9_findTable_45 : decode cX9_findTable 45 = .ok (.isub, 1) := by decide +kernel
theorem dX9_findTable_46 : decode cX9_findTable 46 = .ok (.istore_n 2, 1) := by decide +kernel
theorem dX9_findTable_47 : decode cX9_findTable 47 = .ok (.iload_n 2, 1) := by decide +kernel
theorem dX9_findTable_48 : decode cX9_findTable 48 = .ok (.ifCond .lt 106, 3) := by decide +kernel
theorem dX9_findTable_51 : decode cX9_findTable 51 = .ok (.iconst 0, 1) := by decide +kernel
theorem dX9_findTable_52 : decode cX9_findTable 52 = .ok (.istore_n 3, 1) := by decide +kernel
theorem dX9_findTable_53 : decode cX9_findTable 53 = .ok (.iload_n 3, 1) := by decide +kernel
theorem dX9_findTable_54 : decode cX9_findTable 54 = .ok (.bipush 9, 2) := by decide +kernel
theorem dX9_findTable_56 : decode cX9_findTable 56 = .ok (.if_icmp .ge 92, 3) := by decide +kernel
theorem dX9_findTable_59 : decode cX9_findTable 59 = .ok (.ldc 171, 2) := by decide +kernel
theorem dX9_findTable_61 : decode cX9_findTable 61 = .ok (.istore 4, 2) := by decide +kernel
theorem dX9_findTable_63 : decode cX9_findTable 63 = .ok (.iconst 0, 1) := by decide +kernel
theorem dX9_findTable_64 : decode cX9_findTable 64 = .ok (.istore 5, 2) := by decide +kernel
theorem dX9_findTable_66 : decode cX9_findTable 66 = .ok (.iload 5, 2) := by decide +kernel
theorem dX9_findTable_68 : decode cX9_findTable 68 = .ok (.bipush 9, 2) := by decide +kernel
theorem dX9_findTable_70 : decode cX9_findTable 70 = .ok (.if_icmp .ge 59, 3) := by decide +kernel
theorem dX9_findTable_73 : decode cX9_findTable 73 = .ok (.aload_n 0, 1) := by decide +kernel
theorem dX9_findTable_74 : decode cX9_findTable 74 = .ok (.getfield 62, 3) := by decide +kernel
theorem dX9_findTable_77 : decode cX9_findTable 77 = .ok (.bipush 81, 2) := by decide +kernel
theorem dX9_findTable_79 : decode cX9_findTable 79 = .ok (.iload_n 2, 1) := by decide +kernel
theorem dX9_findTable_80 : decode cX9_findTable 80 = .ok (.imul, 1) := by decide +kernel
theorem dX9_findTable_81 : decode cX9_findTable 81 = .ok (.bipush 9, 2) := by decide +kernel
theorem dX9_findTable_83 : decode cX9_findTable 83 = .ok (.iload_n 3, 1) := by decide +kernel
theorem dX9_findTable_84 : decode cX9_findTable 84 = .ok (.imul, 1) := by decide +kernel
theorem dX9_findTable_85 : decode cX9_findTable 85 = .ok (.iadd, 1) := by decide +kernel
theorem dX9_findTable_86 : decode cX9_findTable 86 = .ok (.iload 5, 2) := by decide +kernel
theorem dX9_findTable_88 : decode cX9_findTable 88 = .ok (.iadd, 1) := by decide +kernel
theorem dX9_findTable_89 : decode cX9_findTable 89 = .ok (.iaload, 1) := by decide +kernel
theorem dX9_findTable_90 : decode cX9_findTable 90 = .ok (.aload_n 0, 1) := by decide +kernel
theorem dX9_findTable_91 : decode cX9_findTable 91 = .ok (.getfield 65, 3) := by decide +kernel
theorem dX9_findTable_94 : decode cX9_findTable 94 = .ok (.bipush 9, 2) := by decide +kernel
theorem dX9_findTable_96 : decode cX9_findTable 96 = .ok (.iload_n 2, 1) := by decide +kernel
theorem dX9_findTable_97 : decode cX9_findTable 97 = .ok (.iconst 1, 1) := by decide +kernel
theorem dX9_findTable_98 : decode cX9_findTable 98 = .ok (.iadd, 1) := by decide +kernel
theorem dX9_findTable_99 : decode cX9_findTable 99 = .ok (.imul, 1) := by decide +kernel
theorem dX9_findTable_100 : decode cX9_findTable 100 = .ok (.iload 5, 2) := by decide +kernel
theorem dX9_findTable_102 : decode cX9_findTable 102 = .ok (.iadd, 1) := by decide +kernel
theorem dX9_findTable_103 : decode cX9_findTable 103 = .ok (.iaload, 1) := by decide +kernel
theorem dX9_findTable_104 : decode cX9_findTable 104 = .ok (.iadd, 1) := by decide +kernel
theorem dX9_findTable_105 : decode cX9_findTable 105 = .ok (.istore 6, 2) := by decide +kernel
theorem dX9_findTable_107 : decode cX9_findTable 107 = .ok (.iload 6, 2) := by decide +kernel
theorem dX9_findTable_109 : decode cX9_findTable 109 = .ok (.iload 4, 2) := by decide +kernel
theorem dX9_findTable_111 : decode cX9_findTable 111 = .ok (.if_icmp .ge 8, 3) := by decide +kernel
theorem dX9_findTable_114 : decode cX9_findTable 114 = .ok (.iload 6, 2) := by decide +kernel
theorem dX9_findTable_116 : decode cX9_findTable 116 = .ok (.goto 5, 3) := by decide +kernel
theorem dX9_findTable_119 : decode cX9_findTable 119 = .ok (.iload 4, 2) := by decide +kernel
theorem dX9_findTable_121 : decode cX9_findTable 121 = .ok (.istore 4, 2) := by decide +kernel
theorem dX9_findTable_123 : decode cX9_findTable 123 = .ok (.iinc 5 1, 3) := by decide +kernel
theorem dX9_findTable_126 : decode cX9_findTable 126 = .ok (.goto (-60), 3) := by decide +kernel
theorem dX9_findTable_129 : decode cX9_findTable 129 = .ok (.aload_n 0, 1) := by decide +kernel
theorem dX9_findTable_130 : decode cX9_findTable 130 = .ok (.getfield 65, 3) := by decide +kernel
theorem dX9_findTable_133 : decode cX9_findTable 133 = .ok (.bipush 9, 2) := by decide +kernel
theorem dX9_findTable_135 : decode cX9_findTable 135 = .ok (.iload_n 2, 1) := by decide +kernel
theorem dX9_findTable_136 : decode cX9_findTable 136 = .ok (.imul, 1) := by decide +kernel
theorem dX9_findTable_137 : decode cX9_findTable 137 = .ok (.iload_n 3, 1) := by decide +kernel
theorem dX9_findTable_138 : decode cX9_findTable 138 = .ok (.iadd, 1) := by decide +kernel
theorem dX9_findTable_139 : decode cX9_findTable 139 = .ok (.iload 4, 2) := by decide +kernel
theorem dX9_findTable_141 : decode cX9_findTable 141 = .ok (.iastore, 1) := by decide +kernel
theorem dX9_findTable_142 : decode cX9_findTable 142 = .ok (.iinc 3 1, 3) := by decide +kernel
theorem dX9_findTable_145 : decode cX9_findTable 145 = .ok (.goto (-92), 3) := by decide +kernel
theorem dX9_findTable_148 : decode cX9_findTable 148 = .ok (.iinc 2 (-1), 3) := by decide +kernel
theorem dX9_findTable_151 : decode cX9_findTable 151 = .ok (.goto (-104), 3) := by decide +kernel
theorem dX9_findTable_154 : decode cX9_findTable 154 = .ok (.aload_n 0, 1) := by decide +kernel
theorem dX9_findTable_155 : decode cX9_findTable 155 = .ok (.getfield 65, 3) := by decide +kernel
theorem dX9_findTable_158 : decode cX9_findTable 158 = .ok (.iload_n 1, 1) := by decide +kernel
theorem dX9_findTable_159 : decode cX9_findTable 159 = .ok (.iaload, 1) := by decide +kernel
theorem dX9_findTable_160 : decode cX9_findTable 160 = .ok (.ireturn, 1) := by decide +kernel
theorem dX9_findBest_0 : decode cX9_findBest 0 = .ok (.aload_n 0, 1) := by decide +kernel
theorem dX9_findBest_1 : decode cX9_findBest 1 = .ok (.invokevirtual 168, 3) := by decide +kernel
theorem dX9_findBest_4 : decode cX9_findBest 4 = .ok (.iconst 0, 1) := by decide +kernel
theorem dX9_findBest_5 : decode cX9_findBest 5 = .ok (.istore_n 1, 1) := by decide +kernel
theorem dX9_findBest_6 : decode cX9_findBest 6 = .ok (.ldc 171, 2) := by decide +kernel
theorem dX9_findBest_8 : decode cX9_findBest 8 = .ok (.istore_n 2, 1) := by decide +kernel
theorem dX9_findBest_9 : decode cX9_findBest 9 = .ok (.iconst 0, 1) := by decide +kernel
theorem dX9_findBest_10 : decode cX9_findBest 10 = .ok (.istore_n 3, 1) := by decide +kernel
theorem dX9_findBest_11 : decode cX9_findBest 11 = .ok (.iload_n 3, 1) := by decide +kernel
theorem dX9_findBest_12 : decode cX9_findBest 12 = .ok (.bipush 9, 2) := by decide +kernel
theorem dX9_findBest_14 : decode cX9_findBest 14 = .ok (.if_icmp .ge 41, 3) := by decide +kernel
theorem dX9_findBest_17 : decode cX9_findBest 17 = .ok (.aload_n 0, 1) := by decide +kernel
theorem dX9_findBest_18 : decode cX9_findBest 18 = .ok (.iload_n 3, 1) := by decide +kernel
theorem dX9_findBest_19 : decode cX9_findBest 19 = .ok (.invokevirtual 172, 3) := by decide +kernel
theorem dX9_findBest_22 : decode cX9_findBest 22 = .ok (.istore 4, 2) := by decide +kernel
theorem dX9_findBest_24 : decode cX9_findBest 24 = .ok (.iload 4, 2) := by decide +kernel
theorem dX9_findBest_26 : decode cX9_findBest 26 = .ok (.iload_n 2, 1) := by decide +kernel
theorem dX9_findBest_27 : decode cX9_findBest 27 = .ok (.if_icmp .ge 7, 3) := by decide +kernel
theorem dX9_findBest_30 : decode cX9_findBest 30 = .ok (.iload_n 3, 1) := by decide +kernel
theorem dX9_findBest_31 : decode cX9_findBest 31 = .ok (.goto 4, 3) := by decide +kernel
theorem dX9_findBest_34 : decode cX9_findBest 34 = .ok (.iload_n 1, 1) := by decide +kernel
theorem dX9_findBest_35 : decode cX9_findBest 35 = .ok (.istore_n 1, 1) := by decide +kernel
theorem dX9_findBest_36 : decode cX9_findBest 36 = .ok (.iload 4, 2) := by decide +kernel
theorem dX9_findBest_38 : decode cX9_findBest 38 = .ok (.iload_n 2, 1) := by decide +kernel
theorem dX9_findBest_39 : decode cX9_findBest 39 = .ok (.if_icmp .ge 8, 3) := by decide +kernel
theorem dX9_findBest_42 : decode cX9_findBest 42 = .ok (.iload 4, 2) := by decide +kernel
theorem dX9_findBest_44 : decode cX9_findBest 44 = .ok (.goto 4, 3) := by decide +kernel
theorem dX9_findBest_47 : decode cX9_findBest 47 = .ok (.iload_n 2, 1) := by decide +kernel
theorem dX9_findBest_48 : decode cX9_findBest 48 = .ok (.istore_n 2, 1) := by decide +kernel
theorem dX9_findBest_49 : decode cX9_findBest 49 = .ok (.iinc 3 1, 3) := by decide +kernel
theorem dX9_findBest_52 : decode cX9_findBest 52 = .ok (.goto (-41), 3) := by decide +kernel
theorem dX9_findBest_55 : decode cX9_findBest 55 = .ok (.aload_n 0, 1) := by decide +kernel
theorem dX9_findBest_56 : decode cX9_findBest 56 = .ok (.iload_n 1, 1) := by decide +kernel
theorem dX9_findBest_57 : decode cX9_findBest 57 = .ok (.invokevirtual 172, 3) := by decide +kernel
theorem dX9_findBest_60 : decode cX9_findBest 60 = .ok (.pop, 1) := by decide +kernel
theorem dX9_findBest_61 : decode cX9_findBest 61 = .ok (.aload_n 0, 1) := by decide +kernel
theorem dX9_findBest_62 : decode cX9_findBest 62 = .ok (.getfield 68, 3) := by decide +kernel
theorem dX9_findBest_65 : decode cX9_findBest 65 = .ok (.iconst 0, 1) := by decide +kernel
theorem dX9_findBest_66 : decode cX9_findBest 66 = .ok (.iload_n 1, 1) := by decide +kernel
theorem dX9_findBest_67 : decode cX9_findBest 67 = .ok (.iastore, 1) := by decide +kernel
theorem dX9_findBest_68 : decode cX9_findBest 68 = .ok (.iconst 0, 1) := by decide +kernel
theorem dX9_findBest_69 : decode cX9_findBest 69 = .ok (.istore_n 3, 1) := by decide +kernel
theorem dX9_findBest_70 : decode cX9_findBest 70 = .ok (.iload_n 3, 1) := by decide +kernel
theorem dX9_findBest_71 : decode cX9_findBest 71 = .ok (.iconst 1, 1) := by decide +kernel
theorem dX9_findBest_72 : decode cX9_findBest 72 = .ok (.iadd, 1) := by decide +kernel
theorem dX9_findBest_73 : decode cX9_findBest 73 = .ok (.aload_n 0, 1) := by decide +kernel
theorem dX9_findBest_74 : decode cX9_findBest 74 = .ok (.getfield 156, 3) := by decide +kernel
theorem dX9_findBest_77 : decode cX9_findBest 77 = .ok (.if_icmp .ge 84, 3) := by decide +kernel
theorem dX9_findBest_80 : decode cX9_findBest 80 = .ok (.iconst 0, 1) := by decide +kernel
theorem dX9_findBest_81 : decode cX9_findBest 81 = .ok (.istore 4, 2) := by decide +kernel
theorem dX9_findBest_83 : decode cX9_findBest 83 = .ok (.aload_n 0, 1) := by decide +kernel
theorem dX9_findBest_84 : decode cX9_findBest 84 = .ok (.getfield 62, 3) := by decide +kernel
theorem dX9_findBest_87 : decode cX9_findBest 87 = .ok (.bipush 81, 2) := by decide +kernel
theorem dX9_findBest_89 : decode cX9_findBest 89 = .ok (.iload_n 3, 1) := by decide +kernel
theorem dX9_findBest_90 : decode cX9_findBest 90 = .ok (.imul, 1) := by decide +kernel
theorem dX9_findBest_91 : decode cX9_findBest 91 = .ok (.bipush 9, 2) := by decide +kernel
theorem dX9_findBest_93 : decode cX9_findBest 93 = .ok (.aload_n 0, 1) := by decide +kernel
theorem dX9_findBest_94 : decode cX9_findBest 94 = .ok (.getfield 68, 3) := by decide +kernel
theorem dX9_findBest_97 : decode cX9_findBest 97 = .ok (.iload_n 3, 1) := by decide +kernel
theorem dX9_findBest_98 : decode cX9_findBest 98 = .ok (.iaload, 1) := by decide +kernel
theorem dX9_findBest_99 : decode cX9_findBest 99 = .ok (.imul, 1) := by decide +kernel
theorem dX9_findBest_100 : decode cX9_findBest 100 = .ok (.iadd, 1) := by decide +kernel
theorem dX9_findBest_101 : decode cX9_findBest 101 = .ok (.iload 4, 2) := by decide +kernel
theorem dX9_findBest_103 : decode cX9_findBest 103 = .ok (.iadd, 1) := by decide +kernel
theorem dX9_findBest_104 : decode cX9_findBest 104 = .ok (.iaload, 1) := by decide +kernel
theorem dX9_findBest_105 : decode cX9_findBest 105 = .ok (.aload_n 0, 1) := by decide +kernel
theorem dX9_findBest_106 : decode cX9_findBest 106 = .ok (.getfield 65, 3) := by decide +kernel
theorem dX9_findBest_109 : decode cX9_findBest 109 = .ok (.bipush 9, 2) := by decide +kernel
theorem dX9_findBest_111 : decode cX9_findBest 111 = .ok (.iload_n 3, 1) := by decide +kernel
theorem dX9_findBest_112 : decode cX9_findBest 112 = .ok (.iconst 1, 1) := by decide +kernel
theorem dX9_findBest_113 : decode cX9_findBest 113 = .ok (.iadd, 1) := by decide +kernel
theorem dX9_findBest_114 : decode cX9_findBest 114 = .ok (.imul, 1) := by decide +kernel
theorem dX9_findBest_115 : decode cX9_findBest 115 = .ok (.iload 4, 2) := by decide +kernel
theorem dX9_findBest_117 : decode cX9_findBest 117 = .ok (.iadd, 1) := by decide +kernel
theorem dX9_findBest_118 : decode cX9_findBest 118 = .ok (.iaload, 1) := by decide +kernel
theorem dX9_findBest_119 : decode cX9_findBest 119 = .ok (.iadd, 1) := by decide +kernel
theorem dX9_findBest_120 : decode cX9_findBest 120 = .ok (.aload_n 0, 1) := by decide +kernel
theorem dX9_findBest_121 : decode cX9_findBest 121 = .ok (.getfield 65, 3) := by decide +kernel
theorem dX9_findBest_124 : decode cX9_findBest 124 = .ok (.bipush 9, 2) := by decide +kernel
theorem dX9_findBest_126 : decode cX9_findBest 126 = .ok (.iload_n 3, 1) := by decide +kernel
theorem dX9_findBest_127 : decode cX9_findBest 127 = .ok (.imul, 1) := by decide +kernel
theorem dX9_findBest_128 : decode cX9_findBest 128 = .ok (.aload_n 0, 1) := by decide +kernel
theorem dX9_findBest_129 : decode cX9_findBest 129 = .ok (.getfield 68, 3) := by decide +kernel
theorem dX9_findBest_132 : decode cX9_findBest 132 = .ok (.iload_n 3, 1) := by decide +kernel
theorem dX9_findBest_133 : decode cX9_findBest 133 = .ok (.iaload, 1) := by decide +kernel
theorem dX9_findBest_134 : decode cX9_findBest 134 = .ok (.iadd, 1) := by decide +kernel
theorem dX9_findBest_135 : decode cX9_findBest 135 = .ok (.iaload, 1) := by decide +kernel
theorem dX9_findBest_136 : decode cX9_findBest 136 = .ok (.if_icmp .eq 9, 3) := by decide +kernel
theorem dX9_findBest_139 : decode cX9_findBest 139 = .ok (.iinc 4 1, 3) := by decide +kernel
theorem dX9_findBest_142 : decode cX9_findBest 142 = .ok (.goto (-59), 3) := by decide +kernel
theorem dX9_findBest_145 : decode cX9_findBest 145 = .ok (.aload_n 0, 1) := by decide +kernel
theorem dX9_findBest_146 : decode cX9_findBest 146 = .ok (.getfield 68, 3) := by decide +kernel
theorem dX9_findBest_149 : decode cX9_findBest 149 = .ok (.iload_n 3, 1) := by decide +kernel
theorem dX9_findBest_150 : decode cX9_findBest 150 = .ok (.iconst 1, 1) := by decide +kernel
theorem dX9_findBest_151 : decode cX9_findBest 151 = .ok (.iadd, 1) := by decide +kernel
theorem dX9_findBest_152 : decode cX9_findBest 152 = .ok (.iload 4, 2) := by decide +kernel
theorem dX9_findBest_154 : decode cX9_findBest 154 = .ok (.iastore, 1) := by decide +kernel
theorem dX9_findBest_155 : decode cX9_findBest 155 = .ok (.iinc 3 1, 3) := by decide +kernel
theorem dX9_findBest_158 : decode cX9_findBest 158 = .ok (.goto (-88), 3) := by decide +kernel
theorem dX9_findBest_161 : decode cX9_findBest 161 = .ok (.return_, 1) := by decide +kernel
theorem dX9_least_0 : decode cX9_least 0 = .ok (.aload_n 0, 1) := by decide +kernel
theorem dX9_least_1 : decode cX9_least 1 = .ok (.getfield 141, 3) := by decide +kernel
theorem dX9_least_4 : decode cX9_least 4 = .ok (.ifCond .ne 6, 3) := by decide +kernel
theorem dX9_least_7 : decode cX9_least 7 = .ok (.bipush (-4), 2) := by decide +kernel
theorem dX9_least_9 : decode cX9_least 9 = .ok (.ireturn, 1) := by decide +kernel
theorem dX9_least_10 : decode cX9_least 10 = .ok (.iload_n 1, 1) := by decide +kernel
theorem dX9_least_11 : decode cX9_least 11 = .ok (.iconst 0, 1) := by decide +kernel
theorem dX9_least_12 : decode cX9_least 12 = .ok (.aload_n 0, 1) := by decide +kernel
theorem dX9_least_13 : decode cX9_least 13 = .ok (.getfield 156, 3) := by decide +kernel
theorem dX9_least_16 : decode cX9_least 16 = .ok (.iconst 1, 1) := by decide +kernel
theorem dX9_least_17 : decode cX9_least 17 = .ok (.isub, 1) := by decide +kernel
theorem dX9_least_18 : decode cX9_least 18 = .ok (.invokestatic 86, 3) := by decide +kernel
theorem dX9_least_21 : decode cX9_least 21 = .ok (.ifCond .ne 5, 3) := by decide +kernel
theorem dX9_least_24 : decode cX9_least 24 = .ok (.iconst (-1), 1) := by decide +kernel
theorem dX9_least_25 : decode cX9_least 25 = .ok (.ireturn, 1) := by decide +kernel
theorem dX9_least_26 : decode cX9_least 26 = .ok (.aload_n 0, 1) := by decide +kernel
theorem dX9_least_27 : decode cX9_least 27 = .ok (.invokevirtual 175, 3) := by decide +kernel
theorem dX9_least_30 : decode cX9_least 30 = .ok (.aload_n 0, 1) := by decide +kernel
theorem dX9_least_31 : decode cX9_least 31 = .ok (.getfield 68, 3) := by decide +kernel
theorem dX9_least_34 : decode cX9_least 34 = .ok (.iload_n 1, 1) := by decide +kernel
theorem dX9_least_35 : decode cX9_least 35 = .ok (.iaload, 1) := by decide +kernel
theorem dX9_least_36 : decode cX9_least 36 = .ok (.ireturn, 1) := by decide +kernel
theorem dX9_blamed_0 : decode cX9_blamed 0 = .ok (.aload_n 0, 1) := by decide +kernel
theorem dX9_blamed_1 : decode cX9_blamed 1 = .ok (.iload_n 1, 1) := by decide +kernel
theorem dX9_blamed_2 : decode cX9_blamed 2 = .ok (.invokevirtual 162, 3) := by decide +kernel
theorem dX9_blamed_5 : decode cX9_blamed 5 = .ok (.ifCond .eq 18, 3) := by decide +kernel
theorem dX9_blamed_8 : decode cX9_blamed 8 = .ok (.iload_n 2, 1) := by decide +kernel
theorem dX9_blamed_9 : decode cX9_blamed 9 = .ok (.iconst (-1), 1) := by decide +kernel
theorem dX9_blamed_10 : decode cX9_blamed 10 = .ok (.aload_n 0, 1) := by decide +kernel
theorem dX9_blamed_11 : decode cX9_blamed 11 = .ok (.iload_n 1, 1) := by decide +kernel
theorem dX9_blamed_12 : decode cX9_blamed 12 = .ok (.invokevirtual 165, 3) := by decide +kernel
theorem dX9_blamed_15 : decode cX9_blamed 15 = .ok (.iconst 1, 1) := by decide +kernel
theorem dX9_blamed_16 : decode cX9_blamed 16 = .ok (.isub, 1) := by decide +kernel
theorem dX9_blamed_17 : decode cX9_blamed 17 = .ok (.invokestatic 86, 3) := by decide +kernel
theorem dX9_blamed_20 : decode cX9_blamed 20 = .ok (.ifCond .ne 6, 3) := by decide +kernel
theorem dX9_blamed_23 : decode cX9_blamed 23 = .ok (.bipush (-2), 2) := by decide +kernel
theorem dX9_blamed_25 : decode cX9_blamed 25 = .ok (.ireturn, 1) := by decide +kernel
theorem dX9_blamed_26 : decode cX9_blamed 26 = .ok (.aload_n 0, 1) := by decide +kernel
theorem dX9_blamed_27 : decode cX9_blamed 27 = .ok (.invokevirtual 175, 3) := by decide +kernel
theorem dX9_blamed_30 : decode cX9_blamed 30 = .ok (.iconst 0, 1) := by decide +kernel
theorem dX9_blamed_31 : decode cX9_blamed 31 = .ok (.istore_n 3, 1) := by decide +kernel
theorem dX9_blamed_32 : decode cX9_blamed 32 = .ok (.iconst 0, 1) := by decide +kernel
theorem dX9_blamed_33 : decode cX9_blamed 33 = .ok (.istore 4, 2) := by decide +kernel
theorem dX9_blamed_35 : decode cX9_blamed 35 = .ok (.iconst 0, 1) := by decide +kernel
theorem dX9_blamed_36 : decode cX9_blamed 36 = .ok (.istore 5, 2) := by decide +kernel
theorem dX9_blamed_38 : decode cX9_blamed 38 = .ok (.iload 5, 2) := by decide +kernel
theorem dX9_blamed_40 : decode cX9_blamed 40 = .ok (.aload_n 0, 1) := by decide +kernel
theorem dX9_blamed_41 : decode cX9_blamed 41 = .ok (.getfield 156, 3) := by decide +kernel
theorem dX9_blamed_44 : decode cX9_blamed 44 = .ok (.if_icmp .ge 137, 3) := by decide +kernel
theorem dX9_blamed_47 : decode cX9_blamed 47 = .ok (.iconst 0, 1) := by decide +kernel
theorem dX9_blamed_48 : decode cX9_blamed 48 = .ok (.istore 6, 2) := by decide +kernel
theorem dX9_blamed_50 : decode cX9_blamed 50 = .ok (.iload 6, 2) := by decide +kernel
theorem dX9_blamed_52 : decode cX9_blamed 52 = .ok (.aload_n 0, 1) := by decide +kernel
theorem dX9_blamed_53 : decode cX9_blamed 53 = .ok (.aload_n 0, 1) := by decide +kernel
theorem dX9_blamed_54 : decode cX9_blamed 54 = .ok (.getfield 56, 3) := by decide +kernel
theorem dX9_blamed_57 : decode cX9_blamed 57 = .ok (.iload_n 1, 1) := by decide +kernel
theorem dX9_blamed_58 : decode cX9_blamed 58 = .ok (.iaload, 1) := by decide +kernel
theorem dX9_blamed_59 : decode cX9_blamed 59 = .ok (.aload_n 0, 1) := by decide +kernel
theorem dX9_blamed_60 : decode cX9_blamed 60 = .ok (.getfield 159, 3) := by decide +kernel
theorem dX9_blamed_63 : decode cX9_blamed 63 = .ok (.iload 5, 2) := by decide +kernel
theorem dX9_blamed_65 : decode cX9_blamed 65 = .ok (.invokevirtual 148, 3) := by decide +kernel
theorem dX9_blamed_68 : decode cX9_blamed 68 = .ok (.if_icmp .ge 107, 3) := by decide +kernel
theorem dX9_blamed_71 : decode cX9_blamed 71 = .ok (.aload_n 0, 1) := by decide +kernel
theorem dX9_blamed_72 : decode cX9_blamed 72 = .ok (.getfield 59, 3) := by decide +kernel
theorem dX9_blamed_75 : decode cX9_blamed 75 = .ok (.bipush 64, 2) := by decide +kernel
theorem dX9_blamed_77 : decode cX9_blamed 77 = .ok (.iload_n 1, 1) := by decide +kernel
theorem dX9_blamed_78 : decode cX9_blamed 78 = .ok (.imul, 1) := by decide +kernel
theorem dX9_blamed_79 : decode cX9_blamed 79 = .ok (.iload 4, 2) := by decide +kernel
theorem dX9_blamed_81 : decode cX9_blamed 81 = .ok (.iadd, 1) := by decide +kernel
theorem dX9_blamed_82 : decode cX9_blamed 82 = .ok (.iaload, 1) := by decide +kernel
theorem dX9_blamed_83 : decode cX9_blamed 83 = .ok (.istore 7, 2) := by decide +kernel
theorem dX9_blamed_85 : decode cX9_blamed 85 = .ok (.iload 7, 2) := by decide +kernel
theorem dX9_blamed_87 : decode cX9_blamed 87 = .ok (.iconst (-1), 1) := by decide +kernel
theorem dX9_blamed_88 : decode cX9_blamed 88 = .ok (.if_icmp .eq 51, 3) := by decide +kernel
theorem dX9_blamed_91 : decode cX9_blamed 91 = .ok (.iload 7, 2) := by decide +kernel
theorem dX9_blamed_93 : decode cX9_blamed 93 = .ok (.aload_n 0, 1) := by decide +kernel
theorem dX9_blamed_94 : decode cX9_blamed 94 = .ok (.aload_n 0, 1) := by decide +kernel
theorem dX9_blamed_95 : decode cX9_blamed 95 = .ok (.getfield 56, 3) := by decide +kernel
theorem dX9_blamed_98 : decode cX9_blamed 98 = .ok (.iload_n 1, 1) := by decide +kernel
theorem dX9_blamed_99 : decode cX9_blamed 99 = .ok (.iaload, 1) := by decide +kernel
theorem dX9_blamed_100 : decode cX9_blamed 100 = .ok (.aload_n 0, 1) := by decide +kernel
theorem dX9_blamed_101 : decode cX9_blamed 101 = .ok (.getfield 159, 3) := by decide +kernel
theorem dX9_blamed_104 : decode cX9_blamed 104 = .ok (.iload 5, 2) := by decide +kernel
theorem dX9_blamed_106 : decode cX9_blamed 106 = .ok (.iload 6, 2) := by decide +kernel
theorem dX9_blamed_108 : decode cX9_blamed 108 = .ok (.aload_n 0, 1) := by decide +kernel
theorem dX9_blamed_109 : decode cX9_blamed 109 = .ok (.getfield 68, 3) := by decide +kernel
theorem dX9_blamed_112 : decode cX9_blamed 112 = .ok (.iload 5, 2) := by decide +kernel
theorem dX9_blamed_114 : decode cX9_blamed 114 = .ok (.iaload, 1) := by decide +kernel
theorem dX9_blamed_115 : decode cX9_blamed 115 = .ok (.aload_n 0, 1) := by decide +kernel
theorem dX9_blamed_116 : decode cX9_blamed 116 = .ok (.getfield 68, 3) := by decide +kernel
theorem dX9_blamed_119 : decode cX9_blamed 119 = .ok (.iload 5, 2) := by decide +kernel
theorem dX9_blamed_121 : decode cX9_blamed 121 = .ok (.iconst 1, 1) := by decide +kernel
theorem dX9_blamed_122 : decode cX9_blamed 122 = .ok (.iadd, 1) := by decide +kernel
theorem dX9_blamed_123 : decode cX9_blamed 123 = .ok (.aload_n 0, 1) := by decide +kernel
theorem dX9_blamed_124 : decode cX9_blamed 124 = .ok (.getfield 156, 3) := by decide +kernel
theorem dX9_blamed_127 : decode cX9_blamed 127 = .ok (.irem, 1) := by decide +kernel
theorem dX9_blamed_128 : decode cX9_blamed 128 = .ok (.iaload, 1) := by decide +kernel
theorem dX9_blamed_129 : decode cX9_blamed 129 = .ok (.invokevirtual 152, 3) := by decide +kernel
theorem dX9_blamed_132 : decode cX9_blamed 132 = .ok (.if_icmp .eq 7, 3) := by decide +kernel
theorem dX9_blamed_135 : decode cX9_blamed 135 = .ok (.iconst 1, 1) := by decide +kernel
theorem dX9_blamed_136 : decode cX9_blamed 136 = .ok (.goto 4, 3) := by decide +kernel
theorem dX9_blamed_139 : decode cX9_blamed 139 = .ok (.iconst 0, 1) := by decide +kernel
theorem dX9_blamed_140 : decode cX9_blamed 140 = .ok (.istore 8, 2) := by decide +kernel
theorem dX9_blamed_142 : decode cX9_blamed 142 = .ok (.iload_n 3, 1) := by decide +kernel
theorem dX9_blamed_143 : decode cX9_blamed 143 = .ok (.iload 8, 2) := by decide +kernel
theorem dX9_blamed_145 : decode cX9_blamed 145 = .ok (.ifCond .eq 18, 3) := by decide +kernel
theorem dX9_blamed_148 : decode cX9_blamed 148 = .ok (.iload_n 2, 1) := by decide +kernel
theorem dX9_blamed_149 : decode cX9_blamed 149 = .ok (.iconst (-1), 1) := by decide +kernel
theorem dX9_blamed_150 : decode cX9_blamed 150 = .ok (.if_icmp .eq 9, 3) := by decide +kernel
theorem dX9_blamed_153 : decode cX9_blamed 153 = .ok (.iload_n 2, 1) := by decide +kernel
theorem dX9_blamed_154 : decode cX9_blamed 154 = .ok (.iload 4, 2) := by decide +kernel
theorem dX9_blamed_156 : decode cX9_blamed 156 = .ok (.if_icmp .ne 7, 3) := by decide +kernel
theorem dX9_blamed_159 : decode cX9_blamed 159 = .ok (.iconst 1, 1) := by decide +kernel
theorem dX9_blamed_160 : decode cX9_blamed 160 = .ok (.goto 4, 3) := by decide +kernel
theorem dX9_blamed_163 : decode cX9_blamed 163 = .ok (.iconst 0, 1) := by decide +kernel
theorem dX9_blamed_164 : decode cX9_blamed 164 = .ok (.iadd, 1) := by decide +kernel
theorem dX9_blamed_165 : decode cX9_blamed 165 = .ok (.istore_n 3, 1) := by decide +kernel
theorem dX9_blamed_166 : decode cX9_blamed 166 = .ok (.iinc 4 1, 3) := by decide +kernel
theorem dX9_blamed_169 : decode cX9_blamed 169 = .ok (.iinc 6 1, 3) := by decide +kernel
theorem dX9_blamed_172 : decode cX9_blamed 172 = .ok (.goto (-122), 3) := by decide +kernel
theorem dX9_blamed_175 : decode cX9_blamed 175 = .ok (.iinc 5 1, 3) := by decide +kernel
theorem dX9_blamed_178 : decode cX9_blamed 178 = .ok (.goto (-140), 3) := by decide +kernel
theorem dX9_blamed_181 : decode cX9_blamed 181 = .ok (.iload_n 3, 1) := by decide +kernel
theorem dX9_blamed_182 : decode cX9_blamed 182 = .ok (.ireturn, 1) := by decide +kernel
theorem dX9_piper_0 : decode cX9_piper 0 = .ok (.iload_n 1, 1) := by decide +kernel
theorem dX9_piper_1 : decode cX9_piper 1 = .ok (.invokestatic 178, 3) := by decide +kernel
theorem dX9_piper_4 : decode cX9_piper 4 = .ok (.ifCond .ne 6, 3) := by decide +kernel
theorem dX9_piper_7 : decode cX9_piper 7 = .ok (.bipush (-2), 2) := by decide +kernel
theorem dX9_piper_9 : decode cX9_piper 9 = .ok (.ireturn, 1) := by decide +kernel
theorem dX9_piper_10 : decode cX9_piper 10 = .ok (.iload_n 2, 1) := by decide +kernel
theorem dX9_piper_11 : decode cX9_piper 11 = .ok (.bipush (-99), 2) := by decide +kernel
theorem dX9_piper_13 : decode cX9_piper 13 = .ok (.bipush 99, 2) := by decide +kernel
theorem dX9_piper_15 : decode cX9_piper 15 = .ok (.invokestatic 86, 3) := by decide +kernel
theorem dX9_piper_18 : decode cX9_piper 18 = .ok (.ifCond .eq 35, 3) := by decide +kernel
theorem dX9_piper_21 : decode cX9_piper 21 = .ok (.iload_n 3, 1) := by decide +kernel
theorem dX9_piper_22 : decode cX9_piper 22 = .ok (.iconst 0, 1) := by decide +kernel
theorem dX9_piper_23 : decode cX9_piper 23 = .ok (.bipush 9, 2) := by decide +kernel
theorem dX9_piper_25 : decode cX9_piper 25 = .ok (.invokestatic 86, 3) := by decide +kernel
theorem dX9_piper_28 : decode cX9_piper 28 = .ok (.ifCond .eq 25, 3) := by decide +kernel
theorem dX9_piper_31 : decode cX9_piper 31 = .ok (.iload 4, 2) := by decide +kernel
theorem dX9_piper_33 : decode cX9_piper 33 = .ok (.iconst 1, 1) := by decide +kernel
theorem dX9_piper_34 : decode cX9_piper 34 = .ok (.bipush 60, 2) := by decide +kernel
theorem dX9_piper_36 : decode cX9_piper 36 = .ok (.invokestatic 86, 3) := by decide +kernel
theorem dX9_piper_39 : decode cX9_piper 39 = .ok (.ifCond .eq 14, 3) := by decide +kernel
theorem dX9_piper_42 : decode cX9_piper 42 = .ok (.iload 5, 2) := by decide +kernel
theorem dX9_piper_44 : decode cX9_piper 44 = .ok (.iconst 0, 1) := by decide +kernel
theorem dX9_piper_45 : decode cX9_piper 45 = .ok (.bipush 90, 2) := by decide +kernel
theorem dX9_piper_47 : decode cX9_piper 47 = .ok (.invokestatic 86, 3) := by decide +kernel
theorem dX9_piper_50 : decode cX9_piper 50 = .ok (.ifCond .ne 6, 3) := by decide +kernel
theorem dX9_piper_53 : decode cX9_piper 53 = .ok (.bipush (-3), 2) := by decide +kernel
theorem dX9_piper_55 : decode cX9_piper 55 = .ok (.ireturn, 1) := by decide +kernel
theorem dX9_piper_56 : decode cX9_piper 56 = .ok (.aload_n 0, 1) := by decide +kernel
theorem dX9_piper_57 : decode cX9_piper 57 = .ok (.getfield 71, 3) := by decide +kernel
theorem dX9_piper_60 : decode cX9_piper 60 = .ok (.iload_n 1, 1) := by decide +kernel
theorem dX9_piper_61 : decode cX9_piper 61 = .ok (.iload_n 2, 1) := by decide +kernel
theorem dX9_piper_62 : decode cX9_piper 62 = .ok (.iastore, 1) := by decide +kernel
theorem dX9_piper_63 : decode cX9_piper 63 = .ok (.aload_n 0, 1) := by decide +kernel
theorem dX9_piper_64 : decode cX9_piper 64 = .ok (.getfield 74, 3) := by decide +kernel
theorem dX9_piper_67 : decode cX9_piper 67 = .ok (.iload_n 1, 1) := by decide +kernel
theorem dX9_piper_68 : decode cX9_piper 68 = .ok (.iload_n 3, 1) := by decide +kernel
theorem dX9_piper_69 : decode cX9_piper 69 = .ok (.iastore, 1) := by decide +kernel
theorem dX9_piper_70 : decode cX9_piper 70 = .ok (.aload_n 0, 1) := by decide +kernel
theorem dX9_piper_71 : decode cX9_piper 71 = .ok (.getfield 77, 3) := by decide +kernel
theorem dX9_piper_74 : decode cX9_piper 74 = .ok (.iload_n 1, 1) := by decide +kernel
theorem dX9_piper_75 : decode cX9_piper 75 = .ok (.iload 4, 2) := by decide +kernel
theorem dX9_piper_77 : decode cX9_piper 77 = .ok (.iastore, 1) := by decide +kernel
theorem dX9_piper_78 : decode cX9_piper 78 = .ok (.aload_n 0, 1) := by decide +kernel
theorem dX9_piper_79 : decode cX9_piper 79 = .ok (.getfield 80, 3) := by decide +kernel
theorem dX9_piper_82 : decode cX9_piper 82 = .ok (.iload_n 1, 1) := by decide +kernel
theorem dX9_piper_83 : decode cX9_piper 83 = .ok (.iload 5, 2) := by decide +kernel
theorem dX9_piper_85 : decode cX9_piper 85 = .ok (.iastore, 1) := by decide +kernel
theorem dX9_piper_86 : decode cX9_piper 86 = .ok (.iconst 1, 1) := by decide +kernel
theorem dX9_piper_87 : decode cX9_piper 87 = .ok (.ireturn, 1) := by decide +kernel
theorem dX9_damp_0 : decode cX9_damp 0 = .ok (.iload_n 1, 1) := by decide +kernel
theorem dX9_damp_1 : decode cX9_damp 1 = .ok (.iconst 0, 1) := by decide +kernel
theorem dX9_damp_2 : decode cX9_damp 2 = .ok (.iconst 5, 1) := by decide +kernel
theorem dX9_damp_3 : decode cX9_damp 3 = .ok (.invokestatic 86, 3) := by decide +kernel
theorem dX9_damp_6 : decode cX9_damp 6 = .ok (.ifCond .ne 6, 3) := by decide +kernel
theorem dX9_damp_9 : decode cX9_damp 9 = .ok (.bipush (-3), 2) := by decide +kernel
theorem dX9_damp_11 : decode cX9_damp 11 = .ok (.ireturn, 1) := by decide +kernel
theorem dX9_damp_12 : decode cX9_damp 12 = .ok (.aload_n 0, 1) := by decide +kernel
theorem dX9_damp_13 : decode cX9_damp 13 = .ok (.getfield 181, 3) := by decide +kernel
theorem dX9_damp_16 : decode cX9_damp 16 = .ok (.istore_n 2, 1) := by decide +kernel
theorem dX9_damp_17 : decode cX9_damp 17 = .ok (.aload_n 0, 1) := by decide +kernel
theorem dX9_damp_18 : decode cX9_damp 18 = .ok (.iload_n 1, 1) := by decide +kernel
theorem dX9_damp_19 : decode cX9_damp 19 = .ok (.putfield 181, 3) := by decide +kernel
theorem dX9_damp_22 : decode cX9_damp 22 = .ok (.iload_n 2, 1) := by decide +kernel
theorem dX9_damp_23 : decode cX9_damp 23 = .ok (.ireturn, 1) := by decide +kernel
theorem dX9_pitchFor_0 : decode cX9_pitchFor 0 = .ok (.aload_n 0, 1) := by decide +kernel
theorem dX9_pitchFor_1 : decode cX9_pitchFor 1 = .ok (.getfield 74, 3) := by decide +kernel
theorem dX9_pitchFor_4 : decode cX9_pitchFor 4 = .ok (.iload_n 1, 1) := by decide +kernel
theorem dX9_pitchFor_5 : decode cX9_pitchFor 5 = .ok (.iaload, 1) := by decide +kernel
theorem dX9_pitchFor_6 : decode cX9_pitchFor 6 = .ok (.aload_n 0, 1) := by decide +kernel
theorem dX9_pitchFor_7 : decode cX9_pitchFor 7 = .ok (.getfield 181, 3) := by decide +kernel
theorem dX9_pitchFor_10 : decode cX9_pitchFor 10 = .ok (.if_icmp .ge 7, 3) := by decide +kernel
theorem dX9_pitchFor_13 : decode cX9_pitchFor 13 = .ok (.iconst 0, 1) := by decide +kernel
theorem dX9_pitchFor_14 : decode cX9_pitchFor 14 = .ok (.goto 14, 3) := by decide +kernel
theorem dX9_pitchFor_17 : decode cX9_pitchFor 17 = .ok (.aload_n 0, 1) := by decide +kernel
theorem dX9_pitchFor_18 : decode cX9_pitchFor 18 = .ok (.getfield 74, 3) := by decide +kernel
theorem dX9_pitchFor_21 : decode cX9_pitchFor 21 = .ok (.iload_n 1, 1) := by decide +kernel
theorem dX9_pitchFor_22 : decode cX9_pitchFor 22 = .ok (.iaload, 1) := by decide +kernel
theorem dX9_pitchFor_23 : decode cX9_pitchFor 23 = .ok (.aload_n 0, 1) := by decide +kernel
theorem dX9_pitchFor_24 : decode cX9_pitchFor 24 = .ok (.getfield 181, 3) := by decide +kernel
theorem dX9_pitchFor_27 : decode cX9_pitchFor 27 = .ok (.isub, 1) := by decide +kernel
theorem dX9_pitchFor_28 : decode cX9_pitchFor 28 = .ok (.istore_n 3, 1) := by decide +kernel
theorem dX9_pitchFor_29 : decode cX9_pitchFor 29 = .ok (.aload_n 0, 1) := by decide +kernel
theorem dX9_pitchFor_30 : decode cX9_pitchFor 30 = .ok (.getfield 71, 3) := by decide +kernel
theorem dX9_pitchFor_33 : decode cX9_pitchFor 33 = .ok (.iload_n 1, 1) := by decide +kernel
theorem dX9_pitchFor_34 : decode cX9_pitchFor 34 = .ok (.iaload, 1) := by decide +kernel
theorem dX9_pitchFor_35 : decode cX9_pitchFor 35 = .ok (.iload_n 3, 1) := by decide +kernel
theorem dX9_pitchFor_36 : decode cX9_pitchFor 36 = .ok (.iload_n 2, 1) := by decide +kernel
theorem dX9_pitchFor_37 : decode cX9_pitchFor 37 = .ok (.aload_n 0, 1) := by decide +kernel
theorem dX9_pitchFor_38 : decode cX9_pitchFor 38 = .ok (.getfield 77, 3) := by decide +kernel
theorem dX9_pitchFor_41 : decode cX9_pitchFor 41 = .ok (.iload_n 1, 1) := by decide +kernel
theorem dX9_pitchFor_42 : decode cX9_pitchFor 42 = .ok (.iaload, 1) := by decide +kernel
theorem dX9_pitchFor_43 : decode cX9_pitchFor 43 = .ok (.if_icmp .ge 7, 3) := by decide +kernel
theorem dX9_pitchFor_46 : decode cX9_pitchFor 46 = .ok (.iload_n 2, 1) := by decide +kernel
theorem dX9_pitchFor_47 : decode cX9_pitchFor 47 = .ok (.goto 9, 3) := by decide +kernel
theorem dX9_pitchFor_50 : decode cX9_pitchFor 50 = .ok (.aload_n 0, 1) := by decide +kernel
theorem dX9_pitchFor_51 : decode cX9_pitchFor 51 = .ok (.getfield 77, 3) := by decide +kernel
theorem dX9_pitchFor_54 : decode cX9_pitchFor 54 = .ok (.iload_n 1, 1) := by decide +kernel
theorem dX9_pitchFor_55 : decode cX9_pitchFor 55 = .ok (.iaload, 1) := by decide +kernel
theorem dX9_pitchFor_56 : decode cX9_pitchFor 56 = .ok (.imul, 1) := by decide +kernel
theorem dX9_pitchFor_57 : decode cX9_pitchFor 57 = .ok (.iadd, 1) := by decide +kernel
theorem dX9_pitchFor_58 : decode cX9_pitchFor 58 = .ok (.ireturn, 1) := by decide +kernel
theorem dX9_pitch_0 : decode cX9_pitch 0 = .ok (.iload_n 1, 1) := by decide +kernel
theorem dX9_pitch_1 : decode cX9_pitch 1 = .ok (.invokestatic 178, 3) := by decide +kernel
theorem dX9_pitch_4 : decode cX9_pitch 4 = .ok (.ifCond .eq 28, 3) := by decide +kernel
theorem dX9_pitch_7 : decode cX9_pitch 7 = .ok (.iload_n 3, 1) := by decide +kernel
theorem dX9_pitch_8 : decode cX9_pitch 8 = .ok (.iconst 0, 1) := by decide +kernel
theorem dX9_pitch_9 : decode cX9_pitch 9 = .ok (.sipush 150, 3) := by decide +kernel
theorem dX9_pitch_12 : decode cX9_pitch 12 = .ok (.invokestatic 86, 3) := by decide +kernel
theorem dX9_pitch_15 : decode cX9_pitch 15 = .ok (.ifCond .eq 17, 3) := by decide +kernel
theorem dX9_pitch_18 : decode cX9_pitch 18 = .ok (.iload_n 2, 1) := by decide +kernel
theorem dX9_pitch_19 : decode cX9_pitch 19 = .ok (.aload_n 0, 1) := by decide +kernel
theorem dX9_pitch_20 : decode cX9_pitch 20 = .ok (.getfield 80, 3) := by decide +kernel
theorem dX9_pitch_23 : decode cX9_pitch 23 = .ok (.iload_n 1, 1) := by decide +kernel
theorem dX9_pitch_24 : decode cX9_pitch 24 = .ok (.iaload, 1) := by decide +kernel
theorem dX9_pitch_25 : decode cX9_pitch 25 = .ok (.iload_n 3, 1) := by decide +kernel
theorem dX9_pitch_26 : decode cX9_pitch 26 = .ok (.invokestatic 86, 3) := by decide +kernel
theorem dX9_pitch_29 : decode cX9_pitch 29 = .ok (.ifCond .ne 6, 3) := by decide +kernel
theorem dX9_pitch_32 : decode cX9_pitch 32 = .ok (.ldc 184, 2) := by decide +kernel
theorem dX9_pitch_34 : decode cX9_pitch 34 = .ok (.ireturn, 1) := by decide +kernel
theorem dX9_pitch_35 : decode cX9_pitch 35 = .ok (.aload_n 0, 1) := by decide +kernel
theorem dX9_pitch_36 : decode cX9_pitch 36 = .ok (.iload_n 1, 1) := by decide +kernel
theorem dX9_pitch_37 : decode cX9_pitch 37 = .ok (.iload_n 3, 1) := by decide +kernel
theorem dX9_pitch_38 : decode cX9_pitch 38 = .ok (.iload_n 2, 1) := by decide +kernel
theorem dX9_pitch_39 : decode cX9_pitch 39 = .ok (.isub, 1) := by decide +kernel
theorem dX9_pitch_40 : decode cX9_pitch 40 = .ok (.invokevirtual 185, 3) := by decide +kernel
theorem dX9_pitch_43 : decode cX9_pitch 43 = .ok (.ireturn, 1) := by decide +kernel
theorem dX9_longFor_0 : decode cX9_longFor 0 = .ok (.iconst 0, 1) := by decide +kernel
theorem dX9_longFor_1 : decode cX9_longFor 1 = .ok (.istore 4, 2) := by decide +kernel
theorem dX9_longFor_3 : decode cX9_longFor 3 = .ok (.iload 4, 2) := by decide +kernel
theorem dX9_longFor_5 : decode cX9_longFor 5 = .ok (.iload_n 2, 1) := by decide +kernel
theorem dX9_longFor_6 : decode cX9_longFor 6 = .ok (.aload_n 0, 1) := by decide +kernel
theorem dX9_longFor_7 : decode cX9_longFor 7 = .ok (.getfield 80, 3) := by decide +kernel
theorem dX9_longFor_10 : decode cX9_longFor 10 = .ok (.iload_n 1, 1) := by decide +kernel
theorem dX9_longFor_11 : decode cX9_longFor 11 = .ok (.iaload, 1) := by decide +kernel
theorem dX9_longFor_12 : decode cX9_longFor 12 = .ok (.isub, 1) := by decide +kernel
theorem dX9_longFor_13 : decode cX9_longFor 13 = .ok (.if_icmp .gt 23, 3) := by decide +kernel
theorem dX9_longFor_16 : decode cX9_longFor 16 = .ok (.aload_n 0, 1) := by decide +kernel
theorem dX9_longFor_17 : decode cX9_longFor 17 = .ok (.iload_n 1, 1) := by decide +kernel
theorem dX9_longFor_18 : decode cX9_longFor 18 = .ok (.iload 4, 2) := by decide +kernel
theorem dX9_longFor_20 : decode cX9_longFor 20 = .ok (.invokevirtual 185, 3) := by decide +kernel
theorem dX9_longFor_23 : decode cX9_longFor 23 = .ok (.iload_n 3, 1) := by decide +kernel
theorem dX9_longFor_24 : decode cX9_longFor 24 = .ok (.if_icmp .lt 6, 3) := by decide +kernel
theorem dX9_longFor_27 : decode cX9_longFor 27 = .ok (.iload 4, 2) := by decide +kernel
theorem dX9_longFor_29 : decode cX9_longFor 29 = .ok (.ireturn, 1) := by decide +kernel
theorem dX9_longFor_30 : decode cX9_longFor 30 = .ok (.iinc 4 1, 3) := by decide +kernel
theorem dX9_longFor_33 : decode cX9_longFor 33 = .ok (.goto (-30), 3) := by decide +kernel
theorem dX9_longFor_36 : decode cX9_longFor 36 = .ok (.iconst (-1), 1) := by decide +kernel
theorem dX9_longFor_37 : decode cX9_longFor 37 = .ok (.ireturn, 1) := by decide +kernel
theorem dX9_spreadFor_0 : decode cX9_spreadFor 0 = .ok (.iload_n 3, 1) := by decide +kernel
theorem dX9_spreadFor_1 : decode cX9_spreadFor 1 = .ok (.istore 4, 2) := by decide +kernel
theorem dX9_spreadFor_3 : decode cX9_spreadFor 3 = .ok (.iconst 0, 1) := by decide +kernel
end
section
theorem dX9_spreadFor_4 : decode cX9_spreadFor 4 = .ok (.istore 5, 2) := by decide +kernel
theorem dX9_spreadFor_6 : decode cX9_spreadFor 6 = .ok (.iload 5, 2) := by decide +kernel
theorem dX9_spreadFor_8 : decode cX9_spreadFor 8 = .ok (.bipush 6, 2) := by decide +kernel
theorem dX9_spreadFor_10 : decode cX9_spreadFor 10 = .ok (.if_icmp .ge 65, 3) := by decide +kernel
theorem dX9_spreadFor_13 : decode cX9_spreadFor 13 = .ok (.iload_n 1, 1) := by decide +kernel
theorem dX9_spreadFor_14 : decode cX9_spreadFor 14 = .ok (.iload 5, 2) := by decide +kernel
theorem dX9_spreadFor_16 : decode cX9_spreadFor 16 = .ok (.ishr, 1) := by decide +kernel
theorem dX9_spreadFor_17 : decode cX9_spreadFor 17 = .ok (.iconst 1, 1) := by decide +kernel
theorem dX9_spreadFor_18 : decode cX9_spreadFor 18 = .ok (.iand, 1) := by decide +kernel
theorem dX9_spreadFor_19 : decode cX9_spreadFor 19 = .ok (.iconst 1, 1) := by decide +kernel
theorem dX9_spreadFor_20 : decode cX9_spreadFor 20 = .ok (.if_icmp .ne 49, 3) := by decide +kernel
theorem dX9_spreadFor_23 : decode cX9_spreadFor 23 = .ok (.aload_n 0, 1) := by decide +kernel
theorem dX9_spreadFor_24 : decode cX9_spreadFor 24 = .ok (.iload 5, 2) := by decide +kernel
theorem dX9_spreadFor_26 : decode cX9_spreadFor 26 = .ok (.iload_n 2, 1) := by decide +kernel
theorem dX9_spreadFor_27 : decode cX9_spreadFor 27 = .ok (.iload_n 3, 1) := by decide +kernel
theorem dX9_spreadFor_28 : decode cX9_spreadFor 28 = .ok (.invokevirtual 188, 3) := by decide +kernel
theorem dX9_spreadFor_31 : decode cX9_spreadFor 31 = .ok (.istore 6, 2) := by decide +kernel
theorem dX9_spreadFor_33 : decode cX9_spreadFor 33 = .ok (.iload 6, 2) := by decide +kernel
theorem dX9_spreadFor_35 : decode cX9_spreadFor 35 = .ok (.iconst (-1), 1) := by decide +kernel
theorem dX9_spreadFor_36 : decode cX9_spreadFor 36 = .ok (.if_icmp .ne 5, 3) := by decide +kernel
theorem dX9_spreadFor_39 : decode cX9_spreadFor 39 = .ok (.iconst (-1), 1) := by decide +kernel
theorem dX9_spreadFor_40 : decode cX9_spreadFor 40 = .ok (.ireturn, 1) := by decide +kernel
theorem dX9_spreadFor_41 : decode cX9_spreadFor 41 = .ok (.aload_n 0, 1) := by decide +kernel
theorem dX9_spreadFor_42 : decode cX9_spreadFor 42 = .ok (.iload 5, 2) := by decide +kernel
theorem dX9_spreadFor_44 : decode cX9_spreadFor 44 = .ok (.iload 6, 2) := by decide +kernel
theorem dX9_spreadFor_46 : decode cX9_spreadFor 46 = .ok (.invokevirtual 185, 3) := by decide +kernel
theorem dX9_spreadFor_49 : decode cX9_spreadFor 49 = .ok (.iload 4, 2) := by decide +kernel
theorem dX9_spreadFor_51 : decode cX9_spreadFor 51 = .ok (.if_icmp .le 14, 3) := by decide +kernel
theorem dX9_spreadFor_54 : decode cX9_spreadFor 54 = .ok (.aload_n 0, 1) := by decide +kernel
theorem dX9_spreadFor_55 : decode cX9_spreadFor 55 = .ok (.iload 5, 2) := by decide +kernel
theorem dX9_spreadFor_57 : decode cX9_spreadFor 57 = .ok (.iload 6, 2) := by decide +kernel
theorem dX9_spreadFor_59 : decode cX9_spreadFor 59 = .ok (.invokevirtual 185, 3) := by decide +kernel
theorem dX9_spreadFor_62 : decode cX9_spreadFor 62 = .ok (.goto 5, 3) := by decide +kernel
theorem dX9_spreadFor_65 : decode cX9_spreadFor 65 = .ok (.iload 4, 2) := by decide +kernel
theorem dX9_spreadFor_67 : decode cX9_spreadFor 67 = .ok (.istore 4, 2) := by decide +kernel
theorem dX9_spreadFor_69 : decode cX9_spreadFor 69 = .ok (.iinc 5 1, 3) := by decide +kernel
theorem dX9_spreadFor_72 : decode cX9_spreadFor 72 = .ok (.goto (-66), 3) := by decide +kernel
theorem dX9_spreadFor_75 : decode cX9_spreadFor 75 = .ok (.iload 4, 2) := by decide +kernel
theorem dX9_spreadFor_77 : decode cX9_spreadFor 77 = .ok (.iload_n 3, 1) := by decide +kernel
theorem dX9_spreadFor_78 : decode cX9_spreadFor 78 = .ok (.isub, 1) := by decide +kernel
theorem dX9_spreadFor_79 : decode cX9_spreadFor 79 = .ok (.ireturn, 1) := by decide +kernel
theorem dX9_findBand_0 : decode cX9_findBand 0 = .ok (.aload_n 0, 1) := by decide +kernel
theorem dX9_findBand_1 : decode cX9_findBand 1 = .ok (.iconst (-1), 1) := by decide +kernel
theorem dX9_findBand_2 : decode cX9_findBand 2 = .ok (.putfield 191, 3) := by decide +kernel
theorem dX9_findBand_5 : decode cX9_findBand 5 = .ok (.iconst 0, 1) := by decide +kernel
theorem dX9_findBand_6 : decode cX9_findBand 6 = .ok (.istore_n 3, 1) := by decide +kernel
theorem dX9_findBand_7 : decode cX9_findBand 7 = .ok (.iload_n 3, 1) := by decide +kernel
theorem dX9_findBand_8 : decode cX9_findBand 8 = .ok (.bipush 6, 2) := by decide +kernel
theorem dX9_findBand_10 : decode cX9_findBand 10 = .ok (.if_icmp .ge 112, 3) := by decide +kernel
theorem dX9_findBand_13 : decode cX9_findBand 13 = .ok (.iconst 0, 1) := by decide +kernel
theorem dX9_findBand_14 : decode cX9_findBand 14 = .ok (.istore 4, 2) := by decide +kernel
theorem dX9_findBand_16 : decode cX9_findBand 16 = .ok (.iload 4, 2) := by decide +kernel
theorem dX9_findBand_18 : decode cX9_findBand 18 = .ok (.iload_n 2, 1) := by decide +kernel
theorem dX9_findBand_19 : decode cX9_findBand 19 = .ok (.aload_n 0, 1) := by decide +kernel
theorem dX9_findBand_20 : decode cX9_findBand 20 = .ok (.getfield 80, 3) := by decide +kernel
theorem dX9_findBand_23 : decode cX9_findBand 23 = .ok (.iload_n 3, 1) := by decide +kernel
theorem dX9_findBand_24 : decode cX9_findBand 24 = .ok (.iaload, 1) := by decide +kernel
theorem dX9_findBand_25 : decode cX9_findBand 25 = .ok (.isub, 1) := by decide +kernel
theorem dX9_findBand_26 : decode cX9_findBand 26 = .ok (.if_icmp .gt 90, 3) := by decide +kernel
theorem dX9_findBand_29 : decode cX9_findBand 29 = .ok (.iload_n 1, 1) := by decide +kernel
theorem dX9_findBand_30 : decode cX9_findBand 30 = .ok (.iload_n 3, 1) := by decide +kernel
theorem dX9_findBand_31 : decode cX9_findBand 31 = .ok (.ishr, 1) := by decide +kernel
theorem dX9_findBand_32 : decode cX9_findBand 32 = .ok (.iconst 1, 1) := by decide +kernel
theorem dX9_findBand_33 : decode cX9_findBand 33 = .ok (.iand, 1) := by decide +kernel
theorem dX9_findBand_34 : decode cX9_findBand 34 = .ok (.iconst 1, 1) := by decide +kernel
theorem dX9_findBand_35 : decode cX9_findBand 35 = .ok (.if_icmp .ne 81, 3) := by decide +kernel
theorem dX9_findBand_38 : decode cX9_findBand 38 = .ok (.aload_n 0, 1) := by decide +kernel
theorem dX9_findBand_39 : decode cX9_findBand 39 = .ok (.iload_n 3, 1) := by decide +kernel
theorem dX9_findBand_40 : decode cX9_findBand 40 = .ok (.iload 4, 2) := by decide +kernel
theorem dX9_findBand_42 : decode cX9_findBand 42 = .ok (.invokevirtual 185, 3) := by decide +kernel
theorem dX9_findBand_45 : decode cX9_findBand 45 = .ok (.istore 5, 2) := by decide +kernel
theorem dX9_findBand_47 : decode cX9_findBand 47 = .ok (.aload_n 0, 1) := by decide +kernel
theorem dX9_findBand_48 : decode cX9_findBand 48 = .ok (.iload_n 1, 1) := by decide +kernel
theorem dX9_findBand_49 : decode cX9_findBand 49 = .ok (.iload_n 2, 1) := by decide +kernel
theorem dX9_findBand_50 : decode cX9_findBand 50 = .ok (.iload 5, 2) := by decide +kernel
theorem dX9_findBand_52 : decode cX9_findBand 52 = .ok (.invokevirtual 194, 3) := by decide +kernel
theorem dX9_findBand_55 : decode cX9_findBand 55 = .ok (.istore 6, 2) := by decide +kernel
theorem dX9_findBand_57 : decode cX9_findBand 57 = .ok (.iload 6, 2) := by decide +kernel
theorem dX9_findBand_59 : decode cX9_findBand 59 = .ok (.iconst (-1), 1) := by decide +kernel
theorem dX9_findBand_60 : decode cX9_findBand 60 = .ok (.if_icmp .eq 50, 3) := by decide +kernel
theorem dX9_findBand_63 : decode cX9_findBand 63 = .ok (.aload_n 0, 1) := by decide +kernel
theorem dX9_findBand_64 : decode cX9_findBand 64 = .ok (.getfield 191, 3) := by decide +kernel
theorem dX9_findBand_67 : decode cX9_findBand 67 = .ok (.iconst (-1), 1) := by decide +kernel
theorem dX9_findBand_68 : decode cX9_findBand 68 = .ok (.if_icmp .eq 30, 3) := by decide +kernel
theorem dX9_findBand_71 : decode cX9_findBand 71 = .ok (.iload 6, 2) := by decide +kernel
theorem dX9_findBand_73 : decode cX9_findBand 73 = .ok (.aload_n 0, 1) := by decide +kernel
theorem dX9_findBand_74 : decode cX9_findBand 74 = .ok (.getfield 191, 3) := by decide +kernel
theorem dX9_findBand_77 : decode cX9_findBand 77 = .ok (.if_icmp .lt 21, 3) := by decide +kernel
theorem dX9_findBand_80 : decode cX9_findBand 80 = .ok (.iload 6, 2) := by decide +kernel
theorem dX9_findBand_82 : decode cX9_findBand 82 = .ok (.aload_n 0, 1) := by decide +kernel
theorem dX9_findBand_83 : decode cX9_findBand 83 = .ok (.getfield 191, 3) := by decide +kernel
theorem dX9_findBand_86 : decode cX9_findBand 86 = .ok (.if_icmp .ne 24, 3) := by decide +kernel
theorem dX9_findBand_89 : decode cX9_findBand 89 = .ok (.iload 5, 2) := by decide +kernel
theorem dX9_findBand_91 : decode cX9_findBand 91 = .ok (.aload_n 0, 1) := by decide +kernel
theorem dX9_findBand_92 : decode cX9_findBand 92 = .ok (.getfield 197, 3) := by decide +kernel
theorem dX9_findBand_95 : decode cX9_findBand 95 = .ok (.if_icmp .ge 15, 3) := by decide +kernel
theorem dX9_findBand_98 : decode cX9_findBand 98 = .ok (.aload_n 0, 1) := by decide +kernel
theorem dX9_findBand_99 : decode cX9_findBand 99 = .ok (.iload 6, 2) := by decide +kernel
theorem dX9_findBand_101 : decode cX9_findBand 101 = .ok (.putfield 191, 3) := by decide +kernel
theorem dX9_findBand_104 : decode cX9_findBand 104 = .ok (.aload_n 0, 1) := by decide +kernel
theorem dX9_findBand_105 : decode cX9_findBand 105 = .ok (.iload 5, 2) := by decide +kernel
theorem dX9_findBand_107 : decode cX9_findBand 107 = .ok (.putfield 197, 3) := by decide +kernel
theorem dX9_findBand_110 : decode cX9_findBand 110 = .ok (.iinc 4 1, 3) := by decide +kernel
theorem dX9_findBand_113 : decode cX9_findBand 113 = .ok (.goto (-97), 3) := by decide +kernel
theorem dX9_findBand_116 : decode cX9_findBand 116 = .ok (.iinc 3 1, 3) := by decide +kernel
theorem dX9_findBand_119 : decode cX9_findBand 119 = .ok (.goto (-112), 3) := by decide +kernel
theorem dX9_findBand_122 : decode cX9_findBand 122 = .ok (.return_, 1) := by decide +kernel
theorem dX9_wrongBand_0 : decode cX9_wrongBand 0 = .ok (.iload_n 1, 1) := by decide +kernel
theorem dX9_wrongBand_1 : decode cX9_wrongBand 1 = .ok (.iconst 1, 1) := by decide +kernel
theorem dX9_wrongBand_2 : decode cX9_wrongBand 2 = .ok (.bipush 63, 2) := by decide +kernel
theorem dX9_wrongBand_4 : decode cX9_wrongBand 4 = .ok (.invokestatic 86, 3) := by decide +kernel
theorem dX9_wrongBand_7 : decode cX9_wrongBand 7 = .ok (.ifCond .eq 23, 3) := by decide +kernel
theorem dX9_wrongBand_10 : decode cX9_wrongBand 10 = .ok (.iload_n 2, 1) := by decide +kernel
theorem dX9_wrongBand_11 : decode cX9_wrongBand 11 = .ok (.iconst 0, 1) := by decide +kernel
theorem dX9_wrongBand_12 : decode cX9_wrongBand 12 = .ok (.sipush 150, 3) := by decide +kernel
theorem dX9_wrongBand_15 : decode cX9_wrongBand 15 = .ok (.invokestatic 86, 3) := by decide +kernel
theorem dX9_wrongBand_18 : decode cX9_wrongBand 18 = .ok (.ifCond .eq 12, 3) := by decide +kernel
theorem dX9_wrongBand_21 : decode cX9_wrongBand 21 = .ok (.iload_n 3, 1) := by decide +kernel
theorem dX9_wrongBand_22 : decode cX9_wrongBand 22 = .ok (.iconst 0, 1) := by decide +kernel
theorem dX9_wrongBand_23 : decode cX9_wrongBand 23 = .ok (.iconst 1, 1) := by decide +kernel
theorem dX9_wrongBand_24 : decode cX9_wrongBand 24 = .ok (.invokestatic 86, 3) := by decide +kernel
theorem dX9_wrongBand_27 : decode cX9_wrongBand 27 = .ok (.ifCond .ne 6, 3) := by decide +kernel
theorem dX9_wrongBand_30 : decode cX9_wrongBand 30 = .ok (.bipush (-3), 2) := by decide +kernel
theorem dX9_wrongBand_32 : decode cX9_wrongBand 32 = .ok (.ireturn, 1) := by decide +kernel
theorem dX9_wrongBand_33 : decode cX9_wrongBand 33 = .ok (.iconst 0, 1) := by decide +kernel
theorem dX9_wrongBand_34 : decode cX9_wrongBand 34 = .ok (.istore 4, 2) := by decide +kernel
theorem dX9_wrongBand_36 : decode cX9_wrongBand 36 = .ok (.iload 4, 2) := by decide +kernel
theorem dX9_wrongBand_38 : decode cX9_wrongBand 38 = .ok (.bipush 6, 2) := by decide +kernel
theorem dX9_wrongBand_40 : decode cX9_wrongBand 40 = .ok (.if_icmp .ge 33, 3) := by decide +kernel
theorem dX9_wrongBand_43 : decode cX9_wrongBand 43 = .ok (.iload_n 1, 1) := by decide +kernel
theorem dX9_wrongBand_44 : decode cX9_wrongBand 44 = .ok (.iload 4, 2) := by decide +kernel
theorem dX9_wrongBand_46 : decode cX9_wrongBand 46 = .ok (.ishr, 1) := by decide +kernel
theorem dX9_wrongBand_47 : decode cX9_wrongBand 47 = .ok (.iconst 1, 1) := by decide +kernel
theorem dX9_wrongBand_48 : decode cX9_wrongBand 48 = .ok (.iand, 1) := by decide +kernel
theorem dX9_wrongBand_49 : decode cX9_wrongBand 49 = .ok (.iconst 1, 1) := by decide +kernel
theorem dX9_wrongBand_50 : decode cX9_wrongBand 50 = .ok (.if_icmp .ne 17, 3) := by decide +kernel
theorem dX9_wrongBand_53 : decode cX9_wrongBand 53 = .ok (.aload_n 0, 1) := by decide +kernel
theorem dX9_wrongBand_54 : decode cX9_wrongBand 54 = .ok (.getfield 80, 3) := by decide +kernel
theorem dX9_wrongBand_57 : decode cX9_wrongBand 57 = .ok (.iload 4, 2) := by decide +kernel
theorem dX9_wrongBand_59 : decode cX9_wrongBand 59 = .ok (.iaload, 1) := by decide +kernel
theorem dX9_wrongBand_60 : decode cX9_wrongBand 60 = .ok (.iload_n 2, 1) := by decide +kernel
theorem dX9_wrongBand_61 : decode cX9_wrongBand 61 = .ok (.if_icmp .le 6, 3) := by decide +kernel
theorem dX9_wrongBand_64 : decode cX9_wrongBand 64 = .ok (.bipush (-4), 2) := by decide +kernel
theorem dX9_wrongBand_66 : decode cX9_wrongBand 66 = .ok (.ireturn, 1) := by decide +kernel
theorem dX9_wrongBand_67 : decode cX9_wrongBand 67 = .ok (.iinc 4 1, 3) := by decide +kernel
theorem dX9_wrongBand_70 : decode cX9_wrongBand 70 = .ok (.goto (-34), 3) := by decide +kernel
theorem dX9_wrongBand_73 : decode cX9_wrongBand 73 = .ok (.iconst 1, 1) := by decide +kernel
theorem dX9_wrongBand_74 : decode cX9_wrongBand 74 = .ok (.ireturn, 1) := by decide +kernel
theorem dX9_band_0 : decode cX9_band 0 = .ok (.aload_n 0, 1) := by decide +kernel
theorem dX9_band_1 : decode cX9_band 1 = .ok (.iload_n 1, 1) := by decide +kernel
theorem dX9_band_2 : decode cX9_band 2 = .ok (.iload_n 2, 1) := by decide +kernel
theorem dX9_band_3 : decode cX9_band 3 = .ok (.iload_n 3, 1) := by decide +kernel
theorem dX9_band_4 : decode cX9_band 4 = .ok (.invokevirtual 200, 3) := by decide +kernel
theorem dX9_band_7 : decode cX9_band 7 = .ok (.istore 4, 2) := by decide +kernel
theorem dX9_band_9 : decode cX9_band 9 = .ok (.iload 4, 2) := by decide +kernel
theorem dX9_band_11 : decode cX9_band 11 = .ok (.iconst 1, 1) := by decide +kernel
theorem dX9_band_12 : decode cX9_band 12 = .ok (.if_icmp .eq 6, 3) := by decide +kernel
theorem dX9_band_15 : decode cX9_band 15 = .ok (.iload 4, 2) := by decide +kernel
theorem dX9_band_17 : decode cX9_band 17 = .ok (.ireturn, 1) := by decide +kernel
theorem dX9_band_18 : decode cX9_band 18 = .ok (.aload_n 0, 1) := by decide +kernel
theorem dX9_band_19 : decode cX9_band 19 = .ok (.iload_n 1, 1) := by decide +kernel
theorem dX9_band_20 : decode cX9_band 20 = .ok (.iload_n 2, 1) := by decide +kernel
theorem dX9_band_21 : decode cX9_band 21 = .ok (.invokevirtual 203, 3) := by decide +kernel
theorem dX9_band_24 : decode cX9_band 24 = .ok (.iload_n 3, 1) := by decide +kernel
theorem dX9_band_25 : decode cX9_band 25 = .ok (.ifCond .ne 10, 3) := by decide +kernel
theorem dX9_band_28 : decode cX9_band 28 = .ok (.aload_n 0, 1) := by decide +kernel
theorem dX9_band_29 : decode cX9_band 29 = .ok (.getfield 191, 3) := by decide +kernel
theorem dX9_band_32 : decode cX9_band 32 = .ok (.goto 11, 3) := by decide +kernel
theorem dX9_band_35 : decode cX9_band 35 = .ok (.aload_n 0, 1) := by decide +kernel
theorem dX9_band_36 : decode cX9_band 36 = .ok (.getfield 197, 3) := by decide +kernel
theorem dX9_band_39 : decode cX9_band 39 = .ok (.sipush 1000, 3) := by decide +kernel
theorem dX9_band_42 : decode cX9_band 42 = .ok (.iadd, 1) := by decide +kernel
theorem dX9_band_43 : decode cX9_band 43 = .ok (.ireturn, 1) := by decide +kernel
theorem dX9_begins_0 : decode cX9_begins 0 = .ok (.iload_n 3, 1) := by decide +kernel
theorem dX9_begins_1 : decode cX9_begins 1 = .ok (.invokestatic 178, 3) := by decide +kernel
theorem dX9_begins_4 : decode cX9_begins 4 = .ok (.ifCond .ne 6, 3) := by decide +kernel
theorem dX9_begins_7 : decode cX9_begins 7 = .ok (.bipush (-2), 2) := by decide +kernel
theorem dX9_begins_9 : decode cX9_begins 9 = .ok (.ireturn, 1) := by decide +kernel
theorem dX9_begins_10 : decode cX9_begins 10 = .ok (.aload_n 0, 1) := by decide +kernel
theorem dX9_begins_11 : decode cX9_begins 11 = .ok (.iload_n 1, 1) := by decide +kernel
theorem dX9_begins_12 : decode cX9_begins 12 = .ok (.iload_n 2, 1) := by decide +kernel
theorem dX9_begins_13 : decode cX9_begins 13 = .ok (.iconst 0, 1) := by decide +kernel
theorem dX9_begins_14 : decode cX9_begins 14 = .ok (.invokevirtual 200, 3) := by decide +kernel
theorem dX9_begins_17 : decode cX9_begins 17 = .ok (.istore 4, 2) := by decide +kernel
theorem dX9_begins_19 : decode cX9_begins 19 = .ok (.iload 4, 2) := by decide +kernel
theorem dX9_begins_21 : decode cX9_begins 21 = .ok (.iconst 1, 1) := by decide +kernel
theorem dX9_begins_22 : decode cX9_begins 22 = .ok (.if_icmp .eq 6, 3) := by decide +kernel
theorem dX9_begins_25 : decode cX9_begins 25 = .ok (.iload 4, 2) := by decide +kernel
theorem dX9_begins_27 : decode cX9_begins 27 = .ok (.ireturn, 1) := by decide +kernel
theorem dX9_begins_28 : decode cX9_begins 28 = .ok (.iload_n 1, 1) := by decide +kernel
theorem dX9_begins_29 : decode cX9_begins 29 = .ok (.iload_n 3, 1) := by decide +kernel
theorem dX9_begins_30 : decode cX9_begins 30 = .ok (.ishr, 1) := by decide +kernel
theorem dX9_begins_31 : decode cX9_begins 31 = .ok (.iconst 1, 1) := by decide +kernel
theorem dX9_begins_32 : decode cX9_begins 32 = .ok (.iand, 1) := by decide +kernel
theorem dX9_begins_33 : decode cX9_begins 33 = .ok (.ifCond .ne 5, 3) := by decide +kernel
theorem dX9_begins_36 : decode cX9_begins 36 = .ok (.iconst (-1), 1) := by decide +kernel
theorem dX9_begins_37 : decode cX9_begins 37 = .ok (.ireturn, 1) := by decide +kernel
theorem dX9_begins_38 : decode cX9_begins 38 = .ok (.aload_n 0, 1) := by decide +kernel
theorem dX9_begins_39 : decode cX9_begins 39 = .ok (.iload_n 1, 1) := by decide +kernel
theorem dX9_begins_40 : decode cX9_begins 40 = .ok (.iload_n 2, 1) := by decide +kernel
theorem dX9_begins_41 : decode cX9_begins 41 = .ok (.invokevirtual 203, 3) := by decide +kernel
theorem dX9_begins_44 : decode cX9_begins 44 = .ok (.iload_n 2, 1) := by decide +kernel
theorem dX9_begins_45 : decode cX9_begins 45 = .ok (.aload_n 0, 1) := by decide +kernel
theorem dX9_begins_46 : decode cX9_begins 46 = .ok (.iload_n 3, 1) := by decide +kernel
theorem dX9_begins_47 : decode cX9_begins 47 = .ok (.iload_n 2, 1) := by decide +kernel
theorem dX9_begins_48 : decode cX9_begins 48 = .ok (.aload_n 0, 1) := by decide +kernel
theorem dX9_begins_49 : decode cX9_begins 49 = .ok (.getfield 197, 3) := by decide +kernel
theorem dX9_begins_52 : decode cX9_begins 52 = .ok (.invokevirtual 188, 3) := by decide +kernel
theorem dX9_begins_55 : decode cX9_begins 55 = .ok (.isub, 1) := by decide +kernel
theorem dX9_begins_56 : decode cX9_begins 56 = .ok (.ireturn, 1) := by decide +kernel
theorem dX9_tone_0 : decode cX9_tone 0 = .ok (.iload_n 1, 1) := by decide +kernel
theorem dX9_tone_1 : decode cX9_tone 1 = .ok (.invokestatic 95, 3) := by decide +kernel
theorem dX9_tone_4 : decode cX9_tone 4 = .ok (.ifCond .ne 6, 3) := by decide +kernel
theorem dX9_tone_7 : decode cX9_tone 7 = .ok (.bipush (-2), 2) := by decide +kernel
theorem dX9_tone_9 : decode cX9_tone 9 = .ok (.ireturn, 1) := by decide +kernel
theorem dX9_tone_10 : decode cX9_tone 10 = .ok (.iload_n 2, 1) := by decide +kernel
theorem dX9_tone_11 : decode cX9_tone 11 = .ok (.sipush (-300), 3) := by decide +kernel
theorem dX9_tone_14 : decode cX9_tone 14 = .ok (.sipush 300, 3) := by decide +kernel
theorem dX9_tone_17 : decode cX9_tone 17 = .ok (.invokestatic 86, 3) := by decide +kernel
theorem dX9_tone_20 : decode cX9_tone 20 = .ok (.ifCond .ne 6, 3) := by decide +kernel
theorem dX9_tone_23 : decode cX9_tone 23 = .ok (.bipush (-3), 2) := by decide +kernel
theorem dX9_tone_25 : decode cX9_tone 25 = .ok (.ireturn, 1) := by decide +kernel
theorem dX9_tone_26 : decode cX9_tone 26 = .ok (.aload_n 0, 1) := by decide +kernel
theorem dX9_tone_27 : decode cX9_tone 27 = .ok (.getfield 83, 3) := by decide +kernel
theorem dX9_tone_30 : decode cX9_tone 30 = .ok (.iload_n 1, 1) := by decide +kernel
theorem dX9_tone_31 : decode cX9_tone 31 = .ok (.iload_n 2, 1) := by decide +kernel
theorem dX9_tone_32 : decode cX9_tone 32 = .ok (.iastore, 1) := by decide +kernel
theorem dX9_tone_33 : decode cX9_tone 33 = .ok (.iconst 1, 1) := by decide +kernel
theorem dX9_tone_34 : decode cX9_tone 34 = .ok (.ireturn, 1) := by decide +kernel
theorem dX9_harshOf_0 : decode cX9_harshOf 0 = .ok (.iconst 0, 1) := by decide +kernel
theorem dX9_harshOf_1 : decode cX9_harshOf 1 = .ok (.istore_n 3, 1) := by decide +kernel
theorem dX9_harshOf_2 : decode cX9_harshOf 2 = .ok (.iconst 0, 1) := by decide +kernel
theorem dX9_harshOf_3 : decode cX9_harshOf 3 = .ok (.istore 4, 2) := by decide +kernel
theorem dX9_harshOf_5 : decode cX9_harshOf 5 = .ok (.iload 4, 2) := by decide +kernel
theorem dX9_harshOf_7 : decode cX9_harshOf 7 = .ok (.bipush 9, 2) := by decide +kernel
theorem dX9_harshOf_9 : decode cX9_harshOf 9 = .ok (.if_icmp .ge 38, 3) := by decide +kernel
theorem dX9_harshOf_12 : decode cX9_harshOf 12 = .ok (.aload_n 0, 1) := by decide +kernel
theorem dX9_harshOf_13 : decode cX9_harshOf 13 = .ok (.getfield 83, 3) := by decide +kernel
theorem dX9_harshOf_16 : decode cX9_harshOf 16 = .ok (.iload 4, 2) := by decide +kernel
theorem dX9_harshOf_18 : decode cX9_harshOf 18 = .ok (.iaload, 1) := by decide +kernel
theorem dX9_harshOf_19 : decode cX9_harshOf 19 = .ok (.iload_n 2, 1) := by decide +kernel
theorem dX9_harshOf_20 : decode cX9_harshOf 20 = .ok (.iadd, 1) := by decide +kernel
theorem dX9_harshOf_21 : decode cX9_harshOf 21 = .ok (.iload_n 1, 1) := by decide +kernel
theorem dX9_harshOf_22 : decode cX9_harshOf 22 = .ok (.isub, 1) := by decide +kernel
theorem dX9_harshOf_23 : decode cX9_harshOf 23 = .ok (.istore 5, 2) := by decide +kernel
theorem dX9_harshOf_25 : decode cX9_harshOf 25 = .ok (.iload_n 3, 1) := by decide +kernel
theorem dX9_harshOf_26 : decode cX9_harshOf 26 = .ok (.iload 5, 2) := by decide +kernel
theorem dX9_harshOf_28 : decode cX9_harshOf 28 = .ok (.ifCond .ge 9, 3) := by decide +kernel
theorem dX9_harshOf_31 : decode cX9_harshOf 31 = .ok (.iload 5, 2) := by decide +kernel
theorem dX9_harshOf_33 : decode cX9_harshOf 33 = .ok (.ineg, 1) := by decide +kernel
theorem dX9_harshOf_34 : decode cX9_harshOf 34 = .ok (.goto 5, 3) := by decide +kernel
theorem dX9_harshOf_37 : decode cX9_harshOf 37 = .ok (.iload 5, 2) := by decide +kernel
theorem dX9_harshOf_39 : decode cX9_harshOf 39 = .ok (.iadd, 1) := by decide +kernel
theorem dX9_harshOf_40 : decode cX9_harshOf 40 = .ok (.istore_n 3, 1) := by decide +kernel
theorem dX9_harshOf_41 : decode cX9_harshOf 41 = .ok (.iinc 4 1, 3) := by decide +kernel
theorem dX9_harshOf_44 : decode cX9_harshOf 44 = .ok (.goto (-39), 3) := by decide +kernel
theorem dX9_harshOf_47 : decode cX9_harshOf 47 = .ok (.iload_n 3, 1) := by decide +kernel
theorem dX9_harshOf_48 : decode cX9_harshOf 48 = .ok (.ireturn, 1) := by decide +kernel
theorem dX9_harsh_0 : decode cX9_harsh 0 = .ok (.iload_n 1, 1) := by decide +kernel
theorem dX9_harsh_1 : decode cX9_harsh 1 = .ok (.sipush (-999), 3) := by decide +kernel
theorem dX9_harsh_4 : decode cX9_harsh 4 = .ok (.sipush 999, 3) := by decide +kernel
theorem dX9_harsh_7 : decode cX9_harsh 7 = .ok (.invokestatic 86, 3) := by decide +kernel
theorem dX9_harsh_10 : decode cX9_harsh 10 = .ok (.ifCond .eq 25, 3) := by decide +kernel
theorem dX9_harsh_13 : decode cX9_harsh 13 = .ok (.iload_n 2, 1) := by decide +kernel
theorem dX9_harsh_14 : decode cX9_harsh 14 = .ok (.sipush (-999), 3) := by decide +kernel
theorem dX9_harsh_17 : decode cX9_harsh 17 = .ok (.sipush 999, 3) := by decide +kernel
theorem dX9_harsh_20 : decode cX9_harsh 20 = .ok (.invokestatic 86, 3) := by decide +kernel
theorem dX9_harsh_23 : decode cX9_harsh 23 = .ok (.ifCond .eq 12, 3) := by decide +kernel
theorem dX9_harsh_26 : decode cX9_harsh 26 = .ok (.aload_n 0, 1) := by decide +kernel
theorem dX9_harsh_27 : decode cX9_harsh 27 = .ok (.iload_n 1, 1) := by decide +kernel
theorem dX9_harsh_28 : decode cX9_harsh 28 = .ok (.iload_n 2, 1) := by decide +kernel
theorem dX9_harsh_29 : decode cX9_harsh 29 = .ok (.invokevirtual 207, 3) := by decide +kernel
theorem dX9_harsh_32 : decode cX9_harsh 32 = .ok (.goto 5, 3) := by decide +kernel
theorem dX9_harsh_35 : decode cX9_harsh 35 = .ok (.bipush (-3), 2) := by decide +kernel
theorem dX9_harsh_37 : decode cX9_harsh 37 = .ok (.ireturn, 1) := by decide +kernel
theorem dX9_set_0 : decode cX9_set 0 = .ok (.iload_n 1, 1) := by decide +kernel
theorem dX9_set_1 : decode cX9_set 1 = .ok (.sipush (-999), 3) := by decide +kernel
theorem dX9_set_4 : decode cX9_set 4 = .ok (.sipush 999, 3) := by decide +kernel
theorem dX9_set_7 : decode cX9_set 7 = .ok (.invokestatic 86, 3) := by decide +kernel
theorem dX9_set_10 : decode cX9_set 10 = .ok (.ifCond .ne 6, 3) := by decide +kernel
theorem dX9_set_13 : decode cX9_set 13 = .ok (.ldc 184, 2) := by decide +kernel
theorem dX9_set_15 : decode cX9_set 15 = .ok (.ireturn, 1) := by decide +kernel
theorem dX9_set_16 : decode cX9_set 16 = .ok (.sipush (-999), 3) := by decide +kernel
theorem dX9_set_19 : decode cX9_set 19 = .ok (.istore_n 2, 1) := by decide +kernel
theorem dX9_set_20 : decode cX9_set 20 = .ok (.sipush (-998), 3) := by decide +kernel
theorem dX9_set_23 : decode cX9_set 23 = .ok (.istore_n 3, 1) := by decide +kernel
theorem dX9_set_24 : decode cX9_set 24 = .ok (.iload_n 3, 1) := by decide +kernel
theorem dX9_set_25 : decode cX9_set 25 = .ok (.sipush 999, 3) := by decide +kernel
theorem dX9_set_28 : decode cX9_set 28 = .ok (.if_icmp .gt 30, 3) := by decide +kernel
theorem dX9_set_31 : decode cX9_set 31 = .ok (.aload_n 0, 1) := by decide +kernel
theorem dX9_set_32 : decode cX9_set 32 = .ok (.iload_n 3, 1) := by decide +kernel
theorem dX9_set_33 : decode cX9_set 33 = .ok (.iload_n 1, 1) := by decide +kernel
theorem dX9_set_34 : decode cX9_set 34 = .ok (.invokevirtual 207, 3) := by decide +kernel
theorem dX9_set_37 : decode cX9_set 37 = .ok (.aload_n 0, 1) := by decide +kernel
theorem dX9_set_38 : decode cX9_set 38 = .ok (.iload_n 2, 1) := by decide +kernel
theorem dX9_set_39 : decode cX9_set 39 = .ok (.iload_n 1, 1) := by decide +kernel
theorem dX9_set_40 : decode cX9_set 40 = .ok (.invokevirtual 207, 3) := by decide +kernel
theorem dX9_set_43 : decode cX9_set 43 = .ok (.if_icmp .ge 7, 3) := by decide +kernel
theorem dX9_set_46 : decode cX9_set 46 = .ok (.iload_n 3, 1) := by decide +kernel
theorem dX9_set_47 : decode cX9_set 47 = .ok (.goto 4, 3) := by decide +kernel
theorem dX9_set_50 : decode cX9_set 50 = .ok (.iload_n 2, 1) := by decide +kernel
theorem dX9_set_51 : decode cX9_set 51 = .ok (.istore_n 2, 1) := by decide +kernel
theorem dX9_set_52 : decode cX9_set 52 = .ok (.iinc 3 1, 3) := by decide +kernel
theorem dX9_set_55 : decode cX9_set 55 = .ok (.goto (-31), 3) := by decide +kernel
theorem dX9_set_58 : decode cX9_set 58 = .ok (.iload_n 2, 1) := by decide +kernel
theorem dX9_set_59 : decode cX9_set 59 = .ok (.ireturn, 1) := by decide +kernel
theorem dX9_count_0 : decode cX9_count 0 = .ok (.iconst 0, 1) := by decide +kernel
theorem dX9_count_1 : decode cX9_count 1 = .ok (.istore_n 2, 1) := by decide +kernel
theorem dX9_count_2 : decode cX9_count 2 = .ok (.iload_n 1, 1) := by decide +kernel
theorem dX9_count_3 : decode cX9_count 3 = .ok (.tableswitch 89 0 4 #[33, 38, 74, 79, 84], 33) := by decide +kernel
theorem dX9_count_36 : decode cX9_count 36 = .ok (.aload_n 0, 1) := by decide +kernel
theorem dX9_count_37 : decode cX9_count 37 = .ok (.getfield 101, 3) := by decide +kernel
theorem dX9_count_40 : decode cX9_count 40 = .ok (.ireturn, 1) := by decide +kernel
theorem dX9_count_41 : decode cX9_count 41 = .ok (.iconst 0, 1) := by decide +kernel
theorem dX9_count_42 : decode cX9_count 42 = .ok (.istore_n 3, 1) := by decide +kernel
theorem dX9_count_43 : decode cX9_count 43 = .ok (.iload_n 3, 1) := by decide +kernel
theorem dX9_count_44 : decode cX9_count 44 = .ok (.aload_n 0, 1) := by decide +kernel
theorem dX9_count_45 : decode cX9_count 45 = .ok (.getfield 101, 3) := by decide +kernel
theorem dX9_count_48 : decode cX9_count 48 = .ok (.if_icmp .ge 27, 3) := by decide +kernel
theorem dX9_count_51 : decode cX9_count 51 = .ok (.iload_n 2, 1) := by decide +kernel
theorem dX9_count_52 : decode cX9_count 52 = .ok (.aload_n 0, 1) := by decide +kernel
theorem dX9_count_53 : decode cX9_count 53 = .ok (.getfield 32, 3) := by decide +kernel
theorem dX9_count_56 : decode cX9_count 56 = .ok (.iload_n 3, 1) := by decide +kernel
theorem dX9_count_57 : decode cX9_count 57 = .ok (.iaload, 1) := by decide +kernel
theorem dX9_count_58 : decode cX9_count 58 = .ok (.iconst (-1), 1) := by decide +kernel
theorem dX9_count_59 : decode cX9_count 59 = .ok (.if_icmp .ne 7, 3) := by decide +kernel
theorem dX9_count_62 : decode cX9_count 62 = .ok (.iconst 1, 1) := by decide +kernel
theorem dX9_count_63 : decode cX9_count 63 = .ok (.goto 4, 3) := by decide +kernel
theorem dX9_count_66 : decode cX9_count 66 = .ok (.iconst 0, 1) := by decide +kernel
theorem dX9_count_67 : decode cX9_count 67 = .ok (.iadd, 1) := by decide +kernel
theorem dX9_count_68 : decode cX9_count 68 = .ok (.istore_n 2, 1) := by decide +kernel
theorem dX9_count_69 : decode cX9_count 69 = .ok (.iinc 3 1, 3) := by decide +kernel
theorem dX9_count_72 : decode cX9_count 72 = .ok (.goto (-29), 3) := by decide +kernel
theorem dX9_count_75 : decode cX9_count 75 = .ok (.iload_n 2, 1) := by decide +kernel
theorem dX9_count_76 : decode cX9_count 76 = .ok (.ireturn, 1) := by decide +kernel
theorem dX9_count_77 : decode cX9_count 77 = .ok (.aload_n 0, 1) := by decide +kernel
theorem dX9_count_78 : decode cX9_count 78 = .ok (.getfield 124, 3) := by decide +kernel
theorem dX9_count_81 : decode cX9_count 81 = .ok (.ireturn, 1) := by decide +kernel
theorem dX9_count_82 : decode cX9_count 82 = .ok (.aload_n 0, 1) := by decide +kernel
theorem dX9_count_83 : decode cX9_count 83 = .ok (.getfield 144, 3) := by decide +kernel
theorem dX9_count_86 : decode cX9_count 86 = .ok (.ireturn, 1) := by decide +kernel
theorem dX9_count_87 : decode cX9_count 87 = .ok (.aload_n 0, 1) := by decide +kernel
theorem dX9_count_88 : decode cX9_count 88 = .ok (.getfield 141, 3) := by decide +kernel
theorem dX9_count_91 : decode cX9_count 91 = .ok (.ireturn, 1) := by decide +kernel
theorem dX9_count_92 : decode cX9_count 92 = .ok (.bipush (-3), 2) := by decide +kernel
theorem dX9_count_94 : decode cX9_count 94 = .ok (.ireturn, 1) := by decide +kernel
theorem dJ6_bitCount_0f7a4_0 : decode cJ6_bitCount_0f7a4 0 = .ok (.iload_n 0, 1) := by decide +kernel
theorem dJ6_bitCount_0f7a4_1 : decode cJ6_bitCount_0f7a4 1 = .ok (.iload_n 0, 1) := by decide +kernel
theorem dJ6_bitCount_0f7a4_2 : decode cJ6_bitCount_0f7a4 2 = .ok (.iconst 1, 1) := by decide +kernel
theorem dJ6_bitCount_0f7a4_3 : decode cJ6_bitCount_0f7a4 3 = .ok (.iushr, 1) := by decide +kernel
theorem dJ6_bitCount_0f7a4_4 : decode cJ6_bitCount_0f7a4 4 = .ok (.ldc_w 265, 3) := by decide +kernel
theorem dJ6_bitCount_0f7a4_7 : decode cJ6_bitCount_0f7a4 7 = .ok (.iand, 1) := by decide +kernel
theorem dJ6_bitCount_0f7a4_8 : decode cJ6_bitCount_0f7a4 8 = .ok (.isub, 1) := by decide +kernel
theorem dJ6_bitCount_0f7a4_9 : decode cJ6_bitCount_0f7a4 9 = .ok (.istore_n 0, 1) := by decide +kernel
theorem dJ6_bitCount_0f7a4_10 : decode cJ6_bitCount_0f7a4 10 = .ok (.iload_n 0, 1) := by decide +kernel
theorem dJ6_bitCount_0f7a4_11 : decode cJ6_bitCount_0f7a4 11 = .ok (.ldc_w 266, 3) := by decide +kernel
theorem dJ6_bitCount_0f7a4_14 : decode cJ6_bitCount_0f7a4 14 = .ok (.iand, 1) := by decide +kernel
theorem dJ6_bitCount_0f7a4_15 : decode cJ6_bitCount_0f7a4 15 = .ok (.iload_n 0, 1) := by decide +kernel
theorem dJ6_bitCount_0f7a4_16 : decode cJ6_bitCount_0f7a4 16 = .ok (.iconst 2, 1) := by decide +kernel
theorem dJ6_bitCount_0f7a4_17 : decode cJ6_bitCount_0f7a4 17 = .ok (.iushr, 1) := by decide +kernel
theorem dJ6_bitCount_0f7a4_18 : decode cJ6_bitCount_0f7a4 18 = .ok (.ldc_w 266, 3) := by decide +kernel
theorem dJ6_bitCount_0f7a4_21 : decode cJ6_bitCount_0f7a4 21 = .ok (.iand, 1) := by decide +kernel
theorem dJ6_bitCount_0f7a4_22 : decode cJ6_bitCount_0f7a4 22 = .ok (.iadd, 1) := by decide +kernel
theorem dJ6_bitCount_0f7a4_23 : decode cJ6_bitCount_0f7a4 23 = .ok (.istore_n 0, 1) := by decide +kernel
theorem dJ6_bitCount_0f7a4_24 : decode cJ6_bitCount_0f7a4 24 = .ok (.iload_n 0, 1) := by decide +kernel
theorem dJ6_bitCount_0f7a4_25 : decode cJ6_bitCount_0f7a4 25 = .ok (.iload_n 0, 1) := by decide +kernel
theorem dJ6_bitCount_0f7a4_26 : decode cJ6_bitCount_0f7a4 26 = .ok (.iconst 4, 1) := by decide +kernel
theorem dJ6_bitCount_0f7a4_27 : decode cJ6_bitCount_0f7a4 27 = .ok (.iushr, 1) := by decide +kernel
theorem dJ6_bitCount_0f7a4_28 : decode cJ6_bitCount_0f7a4 28 = .ok (.iadd, 1) := by decide +kernel
theorem dJ6_bitCount_0f7a4_29 : decode cJ6_bitCount_0f7a4 29 = .ok (.ldc_w 267, 3) := by decide +kernel
theorem dJ6_bitCount_0f7a4_32 : decode cJ6_bitCount_0f7a4 32 = .ok (.iand, 1) := by decide +kernel
theorem dJ6_bitCount_0f7a4_33 : decode cJ6_bitCount_0f7a4 33 = .ok (.istore_n 0, 1) := by decide +kernel
theorem dJ6_bitCount_0f7a4_34 : decode cJ6_bitCount_0f7a4 34 = .ok (.iload_n 0, 1) := by decide +kernel
theorem dJ6_bitCount_0f7a4_35 : decode cJ6_bitCount_0f7a4 35 = .ok (.iload_n 0, 1) := by decide +kernel
theorem dJ6_bitCount_0f7a4_36 : decode cJ6_bitCount_0f7a4 36 = .ok (.bipush 8, 2) := by decide +kernel
theorem dJ6_bitCount_0f7a4_38 : decode cJ6_bitCount_0f7a4 38 = .ok (.iushr, 1) := by decide +kernel
theorem dJ6_bitCount_0f7a4_39 : decode cJ6_bitCount_0f7a4 39 = .ok (.iadd, 1) := by decide +kernel
theorem dJ6_bitCount_0f7a4_40 : decode cJ6_bitCount_0f7a4 40 = .ok (.istore_n 0, 1) := by decide +kernel
theorem dJ6_bitCount_0f7a4_41 : decode cJ6_bitCount_0f7a4 41 = .ok (.iload_n 0, 1) := by decide +kernel
theorem dJ6_bitCount_0f7a4_42 : decode cJ6_bitCount_0f7a4 42 = .ok (.iload_n 0, 1) := by decide +kernel
theorem dJ6_bitCount_0f7a4_43 : decode cJ6_bitCount_0f7a4 43 = .ok (.bipush 16, 2) := by decide +kernel
theorem dJ6_bitCount_0f7a4_45 : decode cJ6_bitCount_0f7a4 45 = .ok (.iushr, 1) := by decide +kernel
theorem dJ6_bitCount_0f7a4_46 : decode cJ6_bitCount_0f7a4 46 = .ok (.iadd, 1) := by decide +kernel
theorem dJ6_bitCount_0f7a4_47 : decode cJ6_bitCount_0f7a4 47 = .ok (.istore_n 0, 1) := by decide +kernel
theorem dJ6_bitCount_0f7a4_48 : decode cJ6_bitCount_0f7a4 48 = .ok (.iload_n 0, 1) := by decide +kernel
theorem dJ6_bitCount_0f7a4_49 : decode cJ6_bitCount_0f7a4 49 = .ok (.bipush 63, 2) := by decide +kernel
theorem dJ6_bitCount_0f7a4_51 : decode cJ6_bitCount_0f7a4 51 = .ok (.iand, 1) := by decide +kernel
theorem dJ6_bitCount_0f7a4_52 : decode cJ6_bitCount_0f7a4 52 = .ok (.ireturn, 1) := by decide +kernel
theorem dJ9_abs_0f7a4_0 : decode cJ9_abs_0f7a4 0 = .ok (.iload_n 0, 1) := by decide +kernel
theorem dJ9_abs_0f7a4_1 : decode cJ9_abs_0f7a4 1 = .ok (.ifCond .ge 8, 3) := by decide +kernel
theorem dJ9_abs_0f7a4_4 : decode cJ9_abs_0f7a4 4 = .ok (.iload_n 0, 1) := by decide +kernel
theorem dJ9_abs_0f7a4_5 : decode cJ9_abs_0f7a4 5 = .ok (.ineg, 1) := by decide +kernel
theorem dJ9_abs_0f7a4_6 : decode cJ9_abs_0f7a4 6 = .ok (.goto 4, 3) := by decide +kernel
theorem dJ9_abs_0f7a4_9 : decode cJ9_abs_0f7a4 9 = .ok (.iload_n 0, 1) := by decide +kernel
theorem dJ9_abs_0f7a4_10 : decode cJ9_abs_0f7a4 10 = .ok (.ireturn, 1) := by decide +kernel
theorem dJ9_max_7cf53_0 : decode cJ9_max_7cf53 0 = .ok (.iload_n 0, 1) := by decide +kernel
theorem dJ9_max_7cf53_1 : decode cJ9_max_7cf53 1 = .ok (.iload_n 1, 1) := by decide +kernel
theorem dJ9_max_7cf53_2 : decode cJ9_max_7cf53 2 = .ok (.if_icmp .lt 7, 3) := by decide +kernel
theorem dJ9_max_7cf53_5 : decode cJ9_max_7cf53 5 = .ok (.iload_n 0, 1) := by decide +kernel
theorem dJ9_max_7cf53_6 : decode cJ9_max_7cf53 6 = .ok (.goto 4, 3) := by decide +kernel
theorem dJ9_max_7cf53_9 : decode cJ9_max_7cf53 9 = .ok (.iload_n 1, 1) := by decide +kernel
theorem dJ9_max_7cf53_10 : decode cJ9_max_7cf53 10 = .ok (.ireturn, 1) := by decide +kernel
theorem dJ9_min_7cf53_0 : decode cJ9_min_7cf53 0 = .ok (.iload_n 0, 1) := by decide +kernel
theorem dJ9_min_7cf53_1 : decode cJ9_min_7cf53 1 = .ok (.iload_n 1, 1) := by decide +kernel
theorem dJ9_min_7cf53_2 : decode cJ9_min_7cf53 2 = .ok (.if_icmp .gt 7, 3) := by decide +kernel
theorem dJ9_min_7cf53_5 : decode cJ9_min_7cf53 5 = .ok (.iload_n 0, 1) := by decide +kernel
theorem dJ9_min_7cf53_6 : decode cJ9_min_7cf53 6 = .ok (.goto 4, 3) := by decide +kernel
theorem dJ9_min_7cf53_9 : decode cJ9_min_7cf53 9 = .ok (.iload_n 1, 1) := by decide +kernel
theorem dJ9_min_7cf53_10 : decode cJ9_min_7cf53 10 = .ok (.ireturn, 1) := by decide +kernel
theorem dJ7_fill_53178_0 : decode cJ7_fill_53178 0 = .ok (.iconst 0, 1) := by decide +kernel
theorem dJ7_fill_53178_1 : decode cJ7_fill_53178 1 = .ok (.istore_n 2, 1) := by decide +kernel
theorem dJ7_fill_53178_2 : decode cJ7_fill_53178 2 = .ok (.aload_n 0, 1) := by decide +kernel
theorem dJ7_fill_53178_3 : decode cJ7_fill_53178 3 = .ok (.arraylength, 1) := by decide +kernel
theorem dJ7_fill_53178_4 : decode cJ7_fill_53178 4 = .ok (.istore_n 3, 1) := by decide +kernel
theorem dJ7_fill_53178_5 : decode cJ7_fill_53178 5 = .ok (.iload_n 2, 1) := by decide +kernel
theorem dJ7_fill_53178_6 : decode cJ7_fill_53178 6 = .ok (.iload_n 3, 1) := by decide +kernel
theorem dJ7_fill_53178_7 : decode cJ7_fill_53178 7 = .ok (.if_icmp .ge 13, 3) := by decide +kernel
theorem dJ7_fill_53178_10 : decode cJ7_fill_53178 10 = .ok (.aload_n 0, 1) := by decide +kernel
theorem dJ7_fill_53178_11 : decode cJ7_fill_53178 11 = .ok (.iload_n 2, 1) := by decide +kernel
theorem dJ7_fill_53178_12 : decode cJ7_fill_53178 12 = .ok (.iload_n 1, 1) := by decide +kernel
theorem dJ7_fill_53178_13 : decode cJ7_fill_53178 13 = .ok (.iastore, 1) := by decide +kernel
theorem dJ7_fill_53178_14 : decode cJ7_fill_53178 14 = .ok (.iinc 2 1, 3) := by decide +kernel
theorem dJ7_fill_53178_17 : decode cJ7_fill_53178 17 = .ok (.goto (-12), 3) := by decide +kernel
theorem dJ7_fill_53178_20 : decode cJ7_fill_53178 20 = .ok (.return_, 1) := by decide +kernel
theorem dL_law_0 : decode cL_law 0 = .ok (.new 7, 3) := by decide +kernel
theorem dL_law_3 : decode cL_law 3 = .ok (.dup, 1) := by decide +kernel
theorem dL_law_4 : decode cL_law 4 = .ok (.invokespecial 9, 3) := by decide +kernel
theorem dL_law_7 : decode cL_law 7 = .ok (.astore_n 1, 1) := by decide +kernel
theorem dL_law_8 : decode cL_law 8 = .ok (.new 10, 3) := by decide +kernel
theorem dL_law_11 : decode cL_law 11 = .ok (.dup, 1) := by decide +kernel
theorem dL_law_12 : decode cL_law 12 = .ok (.invokespecial 12, 3) := by decide +kernel
theorem dL_law_15 : decode cL_law 15 = .ok (.astore_n 2, 1) := by decide +kernel
theorem dL_law_16 : decode cL_law 16 = .ok (.iconst 0, 1) := by decide +kernel
theorem dL_law_17 : decode cL_law 17 = .ok (.istore_n 3, 1) := by decide +kernel
theorem dL_law_18 : decode cL_law 18 = .ok (.iload_n 3, 1) := by decide +kernel
theorem dL_law_19 : decode cL_law 19 = .ok (.aload_n 0, 1) := by decide +kernel
theorem dL_law_20 : decode cL_law 20 = .ok (.arraylength, 1) := by decide +kernel
theorem dL_law_21 : decode cL_law 21 = .ok (.bipush 6, 2) := by decide +kernel
theorem dL_law_23 : decode cL_law 23 = .ok (.isub, 1) := by decide +kernel
theorem dL_law_24 : decode cL_law 24 = .ok (.if_icmp .gt 1316, 3) := by decide +kernel
theorem dL_law_27 : decode cL_law 27 = .ok (.aload_n 0, 1) := by decide +kernel
theorem dL_law_28 : decode cL_law 28 = .ok (.iload_n 3, 1) := by decide +kernel
theorem dL_law_29 : decode cL_law 29 = .ok (.iaload, 1) := by decide +kernel
theorem dL_law_30 : decode cL_law 30 = .ok (.bipush 63, 2) := by decide +kernel
theorem dL_law_32 : decode cL_law 32 = .ok (.iand, 1) := by decide +kernel
theorem dL_law_33 : decode cL_law 33 = .ok (.tableswitch 1301 0 37 #[167, 210, 253, 276, 319, 362, 395, 408, 421, 434, 457, 470, 523, 556, 579, 592, 615, 648, 661, 704, 727, 740, 783, 826, 869, 892, 905, 918, 941, 974, 1037, 1060, 1103, 1146, 1189, 1222, 1255, 1278], 167) := by decide +kernel
theorem dL_law_200 : decode cL_law 200 = .ok (.aload_n 1, 1) := by decide +kernel
theorem dL_law_201 : decode cL_law 201 = .ok (.aload_n 0, 1) := by decide +kernel
theorem dL_law_202 : decode cL_law 202 = .ok (.iload_n 3, 1) := by decide +kernel
theorem dL_law_203 : decode cL_law 203 = .ok (.iconst 1, 1) := by decide +kernel
theorem dL_law_204 : decode cL_law 204 = .ok (.iadd, 1) := by decide +kernel
theorem dL_law_205 : decode cL_law 205 = .ok (.iaload, 1) := by decide +kernel
theorem dL_law_206 : decode cL_law 206 = .ok (.aload_n 0, 1) := by decide +kernel
theorem dL_law_207 : decode cL_law 207 = .ok (.iload_n 3, 1) := by decide +kernel
theorem dL_law_208 : decode cL_law 208 = .ok (.iconst 2, 1) := by decide +kernel
theorem dL_law_209 : decode cL_law 209 = .ok (.iadd, 1) := by decide +kernel
theorem dL_law_210 : decode cL_law 210 = .ok (.iaload, 1) := by decide +kernel
theorem dL_law_211 : decode cL_law 211 = .ok (.aload_n 0, 1) := by decide +kernel
theorem dL_law_212 : decode cL_law 212 = .ok (.iload_n 3, 1) := by decide +kernel
theorem dL_law_213 : decode cL_law 213 = .ok (.iconst 3, 1) := by decide +kernel
theorem dL_law_214 : decode cL_law 214 = .ok (.iadd, 1) := by decide +kernel
theorem dL_law_215 : decode cL_law 215 = .ok (.iaload, 1) := by decide +kernel
theorem dL_law_216 : decode cL_law 216 = .ok (.invokevirtual 13, 3) := by decide +kernel
theorem dL_law_219 : decode cL_law 219 = .ok (.aload_n 2, 1) := by decide +kernel
theorem dL_law_220 : decode cL_law 220 = .ok (.aload_n 0, 1) := by decide +kernel
theorem dL_law_221 : decode cL_law 221 = .ok (.iload_n 3, 1) := by decide +kernel
theorem dL_law_222 : decode cL_law 222 = .ok (.iconst 1, 1) := by decide +kernel
theorem dL_law_223 : decode cL_law 223 = .ok (.iadd, 1) := by decide +kernel
theorem dL_law_224 : decode cL_law 224 = .ok (.iaload, 1) := by decide +kernel
theorem dL_law_225 : decode cL_law 225 = .ok (.aload_n 0, 1) := by decide +kernel
theorem dL_law_226 : decode cL_law 226 = .ok (.iload_n 3, 1) := by decide +kernel
theorem dL_law_227 : decode cL_law 227 = .ok (.iconst 2, 1) := by decide +kernel
theorem dL_law_228 : decode cL_law 228 = .ok (.iadd, 1) := by decide +kernel
theorem dL_law_229 : decode cL_law 229 = .ok (.iaload, 1) := by decide +kernel
theorem dL_law_230 : decode cL_law 230 = .ok (.aload_n 0, 1) := by decide +kernel
theorem dL_law_231 : decode cL_law 231 = .ok (.iload_n 3, 1) := by decide +kernel
theorem dL_law_232 : decode cL_law 232 = .ok (.iconst 3, 1) := by decide +kernel
theorem dL_law_233 : decode cL_law 233 = .ok (.iadd, 1) := by decide +kernel
theorem dL_law_234 : decode cL_law 234 = .ok (.iaload, 1) := by decide +kernel
theorem dL_law_235 : decode cL_law 235 = .ok (.invokevirtual 17, 3) := by decide +kernel
theorem dL_law_238 : decode cL_law 238 = .ok (.if_icmp .eq 1096, 3) := by decide +kernel
theorem dL_law_241 : decode cL_law 241 = .ok (.iconst 0, 1) := by decide +kernel
theorem dL_law_242 : decode cL_law 242 = .ok (.ireturn, 1) := by decide +kernel
theorem dL_law_243 : decode cL_law 243 = .ok (.aload_n 1, 1) := by decide +kernel
theorem dL_law_244 : decode cL_law 244 = .ok (.aload_n 0, 1) := by decide +kernel
theorem dL_law_245 : decode cL_law 245 = .ok (.iload_n 3, 1) := by decide +kernel
theorem dL_law_246 : decode cL_law 246 = .ok (.iconst 1, 1) := by decide +kernel
theorem dL_law_247 : decode cL_law 247 = .ok (.iadd, 1) := by decide +kernel
theorem dL_law_248 : decode cL_law 248 = .ok (.iaload, 1) := by decide +kernel
theorem dL_law_249 : decode cL_law 249 = .ok (.aload_n 0, 1) := by decide +kernel
theorem dL_law_250 : decode cL_law 250 = .ok (.iload_n 3, 1) := by decide +kernel
theorem dL_law_251 : decode cL_law 251 = .ok (.iconst 2, 1) := by decide +kernel
theorem dL_law_252 : decode cL_law 252 = .ok (.iadd, 1) := by decide +kernel
theorem dL_law_253 : decode cL_law 253 = .ok (.iaload, 1) := by decide +kernel
theorem dL_law_254 : decode cL_law 254 = .ok (.aload_n 0, 1) := by decide +kernel
theorem dL_law_255 : decode cL_law 255 = .ok (.iload_n 3, 1) := by decide +kernel
theorem dL_law_256 : decode cL_law 256 = .ok (.iconst 3, 1) := by decide +kernel
theorem dL_law_257 : decode cL_law 257 = .ok (.iadd, 1) := by decide +kernel
theorem dL_law_258 : decode cL_law 258 = .ok (.iaload, 1) := by decide +kernel
theorem dL_law_259 : decode cL_law 259 = .ok (.invokevirtual 18, 3) := by decide +kernel
theorem dL_law_262 : decode cL_law 262 = .ok (.aload_n 2, 1) := by decide +kernel
theorem dL_law_263 : decode cL_law 263 = .ok (.aload_n 0, 1) := by decide +kernel
theorem dL_law_264 : decode cL_law 264 = .ok (.iload_n 3, 1) := by decide +kernel
theorem dL_law_265 : decode cL_law 265 = .ok (.iconst 1, 1) := by decide +kernel
theorem dL_law_266 : decode cL_law 266 = .ok (.iadd, 1) := by decide +kernel
theorem dL_law_267 : decode cL_law 267 = .ok (.iaload, 1) := by decide +kernel
theorem dL_law_268 : decode cL_law 268 = .ok (.aload_n 0, 1) := by decide +kernel
theorem dL_law_269 : decode cL_law 269 = .ok (.iload_n 3, 1) := by decide +kernel
theorem dL_law_270 : decode cL_law 270 = .ok (.iconst 2, 1) := by decide +kernel
theorem dL_law_271 : decode cL_law 271 = .ok (.iadd, 1) := by decide +kernel
theorem dL_law_272 : decode cL_law 272 = .ok (.iaload, 1) := by decide +kernel
theorem dL_law_273 : decode cL_law 273 = .ok (.aload_n 0, 1) := by decide +kernel
theorem dL_law_274 : decode cL_law 274 = .ok (.iload_n 3, 1) := by decide +kernel
theorem dL_law_275 : decode cL_law 275 = .ok (.iconst 3, 1) := by decide +kernel
theorem dL_law_276 : decode cL_law 276 = .ok (.iadd, 1) := by decide +kernel
theorem dL_law_277 : decode cL_law 277 = .ok (.iaload, 1) := by decide +kernel
theorem dL_law_278 : decode cL_law 278 = .ok (.invokevirtual 21, 3) := by decide +kernel
theorem dL_law_281 : decode cL_law 281 = .ok (.if_icmp .eq 1053, 3) := by decide +kernel
theorem dL_law_284 : decode cL_law 284 = .ok (.iconst 0, 1) := by decide +kernel
theorem dL_law_285 : decode cL_law 285 = .ok (.ireturn, 1) := by decide +kernel
theorem dL_law_286 : decode cL_law 286 = .ok (.aload_n 1, 1) := by decide +kernel
theorem dL_law_287 : decode cL_law 287 = .ok (.aload_n 0, 1) := by decide +kernel
theorem dL_law_288 : decode cL_law 288 = .ok (.iload_n 3, 1) := by decide +kernel
theorem dL_law_289 : decode cL_law 289 = .ok (.iconst 1, 1) := by decide +kernel
theorem dL_law_290 : decode cL_law 290 = .ok (.iadd, 1) := by decide +kernel
theorem dL_law_291 : decode cL_law 291 = .ok (.iaload, 1) := by decide +kernel
theorem dL_law_292 : decode cL_law 292 = .ok (.invokevirtual 22, 3) := by decide +kernel
theorem dL_law_295 : decode cL_law 295 = .ok (.aload_n 2, 1) := by decide +kernel
theorem dL_law_296 : decode cL_law 296 = .ok (.aload_n 0, 1) := by decide +kernel
theorem dL_law_297 : decode cL_law 297 = .ok (.iload_n 3, 1) := by decide +kernel
theorem dL_law_298 : decode cL_law 298 = .ok (.iconst 1, 1) := by decide +kernel
theorem dL_law_299 : decode cL_law 299 = .ok (.iadd, 1) := by decide +kernel
theorem dL_law_300 : decode cL_law 300 = .ok (.iaload, 1) := by decide +kernel
theorem dL_law_301 : decode cL_law 301 = .ok (.invokevirtual 26, 3) := by decide +kernel
theorem dL_law_304 : decode cL_law 304 = .ok (.if_icmp .eq 1030, 3) := by decide +kernel
theorem dL_law_307 : decode cL_law 307 = .ok (.iconst 0, 1) := by decide +kernel
theorem dL_law_308 : decode cL_law 308 = .ok (.ireturn, 1) := by decide +kernel
theorem dL_law_309 : decode cL_law 309 = .ok (.aload_n 1, 1) := by decide +kernel
theorem dL_law_310 : decode cL_law 310 = .ok (.aload_n 0, 1) := by decide +kernel
theorem dL_law_311 : decode cL_law 311 = .ok (.iload_n 3, 1) := by decide +kernel
theorem dL_law_312 : decode cL_law 312 = .ok (.iconst 1, 1) := by decide +kernel
theorem dL_law_313 : decode cL_law 313 = .ok (.iadd, 1) := by decide +kernel
theorem dL_law_314 : decode cL_law 314 = .ok (.iaload, 1) := by decide +kernel
theorem dL_law_315 : decode cL_law 315 = .ok (.aload_n 0, 1) := by decide +kernel
theorem dL_law_316 : decode cL_law 316 = .ok (.iload_n 3, 1) := by decide +kernel
theorem dL_law_317 : decode cL_law 317 = .ok (.iconst 2, 1) := by decide +kernel
theorem dL_law_318 : decode cL_law 318 = .ok (.iadd, 1) := by decide +kernel
theorem dL_law_319 : decode cL_law 319 = .ok (.iaload, 1) := by decide +kernel
theorem dL_law_320 : decode cL_law 320 = .ok (.aload_n 0, 1) := by decide +kernel
theorem dL_law_321 : decode cL_law 321 = .ok (.iload_n 3, 1) := by decide +kernel
theorem dL_law_322 : decode cL_law 322 = .ok (.iconst 3, 1) := by decide +kernel
theorem dL_law_323 : decode cL_law 323 = .ok (.iadd, 1) := by decide +kernel
theorem dL_law_324 : decode cL_law 324 = .ok (.iaload, 1) := by decide +kernel
theorem dL_law_325 : decode cL_law 325 = .ok (.invokevirtual 27, 3) := by decide +kernel
theorem dL_law_328 : decode cL_law 328 = .ok (.aload_n 2, 1) := by decide +kernel
theorem dL_law_329 : decode cL_law 329 = .ok (.aload_n 0, 1) := by decide +kernel
theorem dL_law_330 : decode cL_law 330 = .ok (.iload_n 3, 1) := by decide +kernel
theorem dL_law_331 : decode cL_law 331 = .ok (.iconst 1, 1) := by decide +kernel
theorem dL_law_332 : decode cL_law 332 = .ok (.iadd, 1) := by decide +kernel
theorem dL_law_333 : decode cL_law 333 = .ok (.iaload, 1) := by decide +kernel
theorem dL_law_334 : decode cL_law 334 = .ok (.aload_n 0, 1) := by decide +kernel
theorem dL_law_335 : decode cL_law 335 = .ok (.iload_n 3, 1) := by decide +kernel
theorem dL_law_336 : decode cL_law 336 = .ok (.iconst 2, 1) := by decide +kernel
theorem dL_law_337 : decode cL_law 337 = .ok (.iadd, 1) := by decide +kernel
theorem dL_law_338 : decode cL_law 338 = .ok (.iaload, 1) := by decide +kernel
theorem dL_law_339 : decode cL_law 339 = .ok (.aload_n 0, 1) := by decide +kernel
theorem dL_law_340 : decode cL_law 340 = .ok (.iload_n 3, 1) := by decide +kernel
theorem dL_law_341 : decode cL_law 341 = .ok (.iconst 3, 1) := by decide +kernel
theorem dL_law_342 : decode cL_law 342 = .ok (.iadd, 1) := by decide +kernel
theorem dL_law_343 : decode cL_law 343 = .ok (.iaload, 1) := by decide +kernel
theorem dL_law_344 : decode cL_law 344 = .ok (.invokevirtual 30, 3) := by decide +kernel
theorem dL_law_347 : decode cL_law 347 = .ok (.if_icmp .eq 987, 3) := by decide +kernel
theorem dL_law_350 : decode cL_law 350 = .ok (.iconst 0, 1) := by decide +kernel
theorem dL_law_351 : decode cL_law 351 = .ok (.ireturn, 1) := by decide +kernel
theorem dL_law_352 : decode cL_law 352 = .ok (.aload_n 1, 1) := by decide +kernel
theorem dL_law_353 : decode cL_law 353 = .ok (.aload_n 0, 1) := by decide +kernel
theorem dL_law_354 : decode cL_law 354 = .ok (.iload_n 3, 1) := by decide +kernel
theorem dL_law_355 : decode cL_law 355 = .ok (.iconst 1, 1) := by decide +kernel
theorem dL_law_356 : decode cL_law 356 = .ok (.iadd, 1) := by decide +kernel
theorem dL_law_357 : decode cL_law 357 = .ok (.iaload, 1) := by decide +kernel
theorem dL_law_358 : decode cL_law 358 = .ok (.aload_n 0, 1) := by decide +kernel
theorem dL_law_359 : decode cL_law 359 = .ok (.iload_n 3, 1) := by decide +kernel
theorem dL_law_360 : decode cL_law 360 = .ok (.iconst 2, 1) := by decide +kernel
theorem dL_law_361 : decode cL_law 361 = .ok (.iadd, 1) := by decide +kernel
theorem dL_law_362 : decode cL_law 362 = .ok (.iaload, 1) := by decide +kernel
theorem dL_law_363 : decode cL_law 363 = .ok (.aload_n 0, 1) := by decide +kernel
theorem dL_law_364 : decode cL_law 364 = .ok (.iload_n 3, 1) := by decide +kernel
theorem dL_law_365 : decode cL_law 365 = .ok (.iconst 3, 1) := by decide +kernel
theorem dL_law_366 : decode cL_law 366 = .ok (.iadd, 1) := by decide +kernel
theorem dL_law_367 : decode cL_law 367 = .ok (.iaload, 1) := by decide +kernel
theorem dL_law_368 : decode cL_law 368 = .ok (.invokevirtual 31, 3) := by decide +kernel
theorem dL_law_371 : decode cL_law 371 = .ok (.aload_n 2, 1) := by decide +kernel
theorem dL_law_372 : decode cL_law 372 = .ok (.aload_n 0, 1) := by decide +kernel
theorem dL_law_373 : decode cL_law 373 = .ok (.iload_n 3, 1) := by decide +kernel
theorem dL_law_374 : decode cL_law 374 = .ok (.iconst 1, 1) := by decide +kernel
theorem dL_law_375 : decode cL_law 375 = .ok (.iadd, 1) := by decide +kernel
theorem dL_law_376 : decode cL_law 376 = .ok (.iaload, 1) := by decide +kernel
theorem dL_law_377 : decode cL_law 377 = .ok (.aload_n 0, 1) := by decide +kernel
theorem dL_law_378 : decode cL_law 378 = .ok (.iload_n 3, 1) := by decide +kernel
theorem dL_law_379 : decode cL_law 379 = .ok (.iconst 2, 1) := by decide +kernel
theorem dL_law_380 : decode cL_law 380 = .ok (.iadd, 1) := by decide +kernel
theorem dL_law_381 : decode cL_law 381 = .ok (.iaload, 1) := by decide +kernel
theorem dL_law_382 : decode cL_law 382 = .ok (.aload_n 0, 1) := by decide +kernel
theorem dL_law_383 : decode cL_law 383 = .ok (.iload_n 3, 1) := by decide +kernel
theorem dL_law_384 : decode cL_law 384 = .ok (.iconst 3, 1) := by decide +kernel
theorem dL_law_385 : decode cL_law 385 = .ok (.iadd, 1) := by decide +kernel
theorem dL_law_386 : decode cL_law 386 = .ok (.iaload, 1) := by decide +kernel
theorem dL_law_387 : decode cL_law 387 = .ok (.invokevirtual 34, 3) := by decide +kernel
theorem dL_law_390 : decode cL_law 390 = .ok (.if_icmp .eq 944, 3) := by decide +kernel
theorem dL_law_393 : decode cL_law 393 = .ok (.iconst 0, 1) := by decide +kernel
theorem dL_law_394 : decode cL_law 394 = .ok (.ireturn, 1) := by decide +kernel
theorem dL_law_395 : decode cL_law 395 = .ok (.aload_n 1, 1) := by decide +kernel
theorem dL_law_396 : decode cL_law 396 = .ok (.aload_n 0, 1) := by decide +kernel
theorem dL_law_397 : decode cL_law 397 = .ok (.iload_n 3, 1) := by decide +kernel
theorem dL_law_398 : decode cL_law 398 = .ok (.iconst 1, 1) := by decide +kernel
theorem dL_law_399 : decode cL_law 399 = .ok (.iadd, 1) := by decide +kernel
theorem dL_law_400 : decode cL_law 400 = .ok (.iaload, 1) := by decide +kernel
theorem dL_law_401 : decode cL_law 401 = .ok (.aload_n 0, 1) := by decide +kernel
theorem dL_law_402 : decode cL_law 402 = .ok (.iload_n 3, 1) := by decide +kernel
theorem dL_law_403 : decode cL_law 403 = .ok (.iconst 2, 1) := by decide +kernel
theorem dL_law_404 : decode cL_law 404 = .ok (.iadd, 1) := by decide +kernel
theorem dL_law_405 : decode cL_law 405 = .ok (.iaload, 1) := by decide +kernel
theorem dL_law_406 : decode cL_law 406 = .ok (.invokevirtual 35, 3) := by decide +kernel
theorem dL_law_409 : decode cL_law 409 = .ok (.aload_n 2, 1) := by decide +kernel
theorem dL_law_410 : decode cL_law 410 = .ok (.aload_n 0, 1) := by decide +kernel
theorem dL_law_411 : decode cL_law 411 = .ok (.iload_n 3, 1) := by decide +kernel
theorem dL_law_412 : decode cL_law 412 = .ok (.iconst 1, 1) := by decide +kernel
theorem dL_law_413 : decode cL_law 413 = .ok (.iadd, 1) := by decide +kernel
theorem dL_law_414 : decode cL_law 414 = .ok (.iaload, 1) := by decide +kernel
theorem dL_law_415 : decode cL_law 415 = .ok (.aload_n 0, 1) := by decide +kernel
theorem dL_law_416 : decode cL_law 416 = .ok (.iload_n 3, 1) := by decide +kernel
theorem dL_law_417 : decode cL_law 417 = .ok (.iconst 2, 1) := by decide +kernel
theorem dL_law_418 : decode cL_law 418 = .ok (.iadd, 1) := by decide +kernel
theorem dL_law_419 : decode cL_law 419 = .ok (.iaload, 1) := by decide +kernel
theorem dL_law_420 : decode cL_law 420 = .ok (.invokevirtual 39, 3) := by decide +kernel
theorem dL_law_423 : decode cL_law 423 = .ok (.if_icmp .eq 911, 3) := by decide +kernel
theorem dL_law_426 : decode cL_law 426 = .ok (.iconst 0, 1) := by decide +kernel
theorem dL_law_427 : decode cL_law 427 = .ok (.ireturn, 1) := by decide +kernel
theorem dL_law_428 : decode cL_law 428 = .ok (.aload_n 1, 1) := by decide +kernel
theorem dL_law_429 : decode cL_law 429 = .ok (.invokevirtual 40, 3) := by decide +kernel
theorem dL_law_432 : decode cL_law 432 = .ok (.aload_n 2, 1) := by decide +kernel
theorem dL_law_433 : decode cL_law 433 = .ok (.invokevirtual 44, 3) := by decide +kernel
theorem dL_law_436 : decode cL_law 436 = .ok (.if_icmp .eq 898, 3) := by decide +kernel
theorem dL_law_439 : decode cL_law 439 = .ok (.iconst 0, 1) := by decide +kernel
theorem dL_law_440 : decode cL_law 440 = .ok (.ireturn, 1) := by decide +kernel
theorem dL_law_441 : decode cL_law 441 = .ok (.aload_n 1, 1) := by decide +kernel
theorem dL_law_442 : decode cL_law 442 = .ok (.invokevirtual 45, 3) := by decide +kernel
theorem dL_law_445 : decode cL_law 445 = .ok (.aload_n 2, 1) := by decide +kernel
theorem dL_law_446 : decode cL_law 446 = .ok (.invokevirtual 48, 3) := by decide +kernel
theorem dL_law_449 : decode cL_law 449 = .ok (.if_icmp .eq 885, 3) := by decide +kernel
theorem dL_law_452 : decode cL_law 452 = .ok (.iconst 0, 1) := by decide +kernel
theorem dL_law_453 : decode cL_law 453 = .ok (.ireturn, 1) := by decide +kernel
theorem dL_law_454 : decode cL_law 454 = .ok (.aload_n 1, 1) := by decide +kernel
theorem dL_law_455 : decode cL_law 455 = .ok (.invokevirtual 49, 3) := by decide +kernel
theorem dL_law_458 : decode cL_law 458 = .ok (.aload_n 2, 1) := by decide +kernel
theorem dL_law_459 : decode cL_law 459 = .ok (.invokevirtual 52, 3) := by decide +kernel
theorem dL_law_462 : decode cL_law 462 = .ok (.if_icmp .eq 872, 3) := by decide +kernel
theorem dL_law_465 : decode cL_law 465 = .ok (.iconst 0, 1) := by decide +kernel
theorem dL_law_466 : decode cL_law 466 = .ok (.ireturn, 1) := by decide +kernel
theorem dL_law_467 : decode cL_law 467 = .ok (.aload_n 1, 1) := by decide +kernel
theorem dL_law_468 : decode cL_law 468 = .ok (.aload_n 0, 1) := by decide +kernel
theorem dL_law_469 : decode cL_law 469 = .ok (.iload_n 3, 1) := by decide +kernel
theorem dL_law_470 : decode cL_law 470 = .ok (.iconst 1, 1) := by decide +kernel
theorem dL_law_471 : decode cL_law 471 = .ok (.iadd, 1) := by decide +kernel
theorem dL_law_472 : decode cL_law 472 = .ok (.iaload, 1) := by decide +kernel
theorem dL_law_473 : decode cL_law 473 = .ok (.invokevirtual 53, 3) := by decide +kernel
theorem dL_law_476 : decode cL_law 476 = .ok (.aload_n 2, 1) := by decide +kernel
theorem dL_law_477 : decode cL_law 477 = .ok (.aload_n 0, 1) := by decide +kernel
theorem dL_law_478 : decode cL_law 478 = .ok (.iload_n 3, 1) := by decide +kernel
theorem dL_law_479 : decode cL_law 479 = .ok (.iconst 1, 1) := by decide +kernel
theorem dL_law_480 : decode cL_law 480 = .ok (.iadd, 1) := by decide +kernel
theorem dL_law_481 : decode cL_law 481 = .ok (.iaload, 1) := by decide +kernel
theorem dL_law_482 : decode cL_law 482 = .ok (.invokevirtual 56, 3) := by decide +kernel
theorem dL_law_485 : decode cL_law 485 = .ok (.if_icmp .eq 849, 3) := by decide +kernel
theorem dL_law_488 : decode cL_law 488 = .ok (.iconst 0, 1) := by decide +kernel
theorem dL_law_489 : decode cL_law 489 = .ok (.ireturn, 1) := by decide +kernel
theorem dL_law_490 : decode cL_law 490 = .ok (.aload_n 1, 1) := by decide +kernel
theorem dL_law_491 : decode cL_law 491 = .ok (.invokevirtual 57, 3) := by decide +kernel
theorem dL_law_494 : decode cL_law 494 = .ok (.aload_n 2, 1) := by decide +kernel
theorem dL_law_495 : decode cL_law 495 = .ok (.invokevirtual 60, 3) := by decide +kernel
theorem dL_law_498 : decode cL_law 498 = .ok (.if_icmp .eq 836, 3) := by decide +kernel
theorem dL_law_501 : decode cL_law 501 = .ok (.iconst 0, 1) := by decide +kernel
theorem dL_law_502 : decode cL_law 502 = .ok (.ireturn, 1) := by decide +kernel
theorem dL_law_503 : decode cL_law 503 = .ok (.aload_n 1, 1) := by decide +kernel
theorem dL_law_504 : decode cL_law 504 = .ok (.aload_n 0, 1) := by decide +kernel
theorem dL_law_505 : decode cL_law 505 = .ok (.iload_n 3, 1) := by decide +kernel
theorem dL_law_506 : decode cL_law 506 = .ok (.iconst 1, 1) := by decide +kernel
theorem dL_law_507 : decode cL_law 507 = .ok (.iadd, 1) := by decide +kernel
theorem dL_law_508 : decode cL_law 508 = .ok (.iaload, 1) := by decide +kernel
theorem dL_law_509 : decode cL_law 509 = .ok (.aload_n 0, 1) := by decide +kernel
theorem dL_law_510 : decode cL_law 510 = .ok (.iload_n 3, 1) := by decide +kernel
theorem dL_law_511 : decode cL_law 511 = .ok (.iconst 2, 1) := by decide +kernel
theorem dL_law_512 : decode cL_law 512 = .ok (.iadd, 1) := by decide +kernel
theorem dL_law_513 : decode cL_law 513 = .ok (.iaload, 1) := by decide +kernel
theorem dL_law_514 : decode cL_law 514 = .ok (.aload_n 0, 1) := by decide +kernel
theorem dL_law_515 : decode cL_law 515 = .ok (.iload_n 3, 1) := by decide +kernel
theorem dL_law_516 : decode cL_law 516 = .ok (.iconst 3, 1) := by decide +kernel
theorem dL_law_517 : decode cL_law 517 = .ok (.iadd, 1) := by decide +kernel
theorem dL_law_518 : decode cL_law 518 = .ok (.iaload, 1) := by decide +kernel
theorem dL_law_519 : decode cL_law 519 = .ok (.aload_n 0, 1) := by decide +kernel
theorem dL_law_520 : decode cL_law 520 = .ok (.iload_n 3, 1) := by decide +kernel
theorem dL_law_521 : decode cL_law 521 = .ok (.iconst 4, 1) := by decide +kernel
theorem dL_law_522 : decode cL_law 522 = .ok (.iadd, 1) := by decide +kernel
theorem dL_law_523 : decode cL_law 523 = .ok (.iaload, 1) := by decide +kernel
theorem dL_law_524 : decode cL_law 524 = .ok (.invokevirtual 61, 3) := by decide +kernel
theorem dL_law_527 : decode cL_law 527 = .ok (.aload_n 2, 1) := by decide +kernel
theorem dL_law_528 : decode cL_law 528 = .ok (.aload_n 0, 1) := by decide +kernel
theorem dL_law_529 : decode cL_law 529 = .ok (.iload_n 3, 1) := by decide +kernel
theorem dL_law_530 : decode cL_law 530 = .ok (.iconst 1, 1) := by decide +kernel
theorem dL_law_531 : decode cL_law 531 = .ok (.iadd, 1) := by decide +kernel
theorem dL_law_532 : decode cL_law 532 = .ok (.iaload, 1) := by decide +kernel
theorem dL_law_533 : decode cL_law 533 = .ok (.aload_n 0, 1) := by decide +kernel
theorem dL_law_534 : decode cL_law 534 = .ok (.iload_n 3, 1) := by decide +kernel
theorem dL_law_535 : decode cL_law 535 = .ok (.iconst 2, 1) := by decide +kernel
theorem dL_law_536 : decode cL_law 536 = .ok (.iadd, 1) := by decide +kernel
theorem dL_law_537 : decode cL_law 537 = .ok (.iaload, 1) := by decide +kernel
theorem dL_law_538 : decode cL_law 538 = .ok (.aload_n 0, 1) := by decide +kernel
theorem dL_law_539 : decode cL_law 539 = .ok (.iload_n 3, 1) := by decide +kernel
theorem dL_law_540 : decode cL_law 540 = .ok (.iconst 3, 1) := by decide +kernel
theorem dL_law_541 : decode cL_law 541 = .ok (.iadd, 1) := by decide +kernel
theorem dL_law_542 : decode cL_law 542 = .ok (.iaload, 1) := by decide +kernel
theorem dL_law_543 : decode cL_law 543 = .ok (.aload_n 0, 1) := by decide +kernel
theorem dL_law_544 : decode cL_law 544 = .ok (.iload_n 3, 1) := by decide +kernel
theorem dL_law_545 : decode cL_law 545 = .ok (.iconst 4, 1) := by decide +kernel
theorem dL_law_546 : decode cL_law 546 = .ok (.iadd, 1) := by decide +kernel
theorem dL_law_547 : decode cL_law 547 = .ok (.iaload, 1) := by decide +kernel
theorem dL_law_548 : decode cL_law 548 = .ok (.invokevirtual 65, 3) := by decide +kernel
theorem dL_law_551 : decode cL_law 551 = .ok (.if_icmp .eq 783, 3) := by decide +kernel
theorem dL_law_554 : decode cL_law 554 = .ok (.iconst 0, 1) := by decide +kernel
theorem dL_law_555 : decode cL_law 555 = .ok (.ireturn, 1) := by decide +kernel
theorem dL_law_556 : decode cL_law 556 = .ok (.aload_n 1, 1) := by decide +kernel
theorem dL_law_557 : decode cL_law 557 = .ok (.aload_n 0, 1) := by decide +kernel
theorem dL_law_558 : decode cL_law 558 = .ok (.iload_n 3, 1) := by decide +kernel
theorem dL_law_559 : decode cL_law 559 = .ok (.iconst 1, 1) := by decide +kernel
theorem dL_law_560 : decode cL_law 560 = .ok (.iadd, 1) := by decide +kernel
theorem dL_law_561 : decode cL_law 561 = .ok (.iaload, 1) := by decide +kernel
theorem dL_law_562 : decode cL_law 562 = .ok (.aload_n 0, 1) := by decide +kernel
theorem dL_law_563 : decode cL_law 563 = .ok (.iload_n 3, 1) := by decide +kernel
theorem dL_law_564 : decode cL_law 564 = .ok (.iconst 2, 1) := by decide +kernel
theorem dL_law_565 : decode cL_law 565 = .ok (.iadd, 1) := by decide +kernel
theorem dL_law_566 : decode cL_law 566 = .ok (.iaload, 1) := by decide +kernel
theorem dL_law_567 : decode cL_law 567 = .ok (.invokevirtual 66, 3) := by decide +kernel
theorem dL_law_570 : decode cL_law 570 = .ok (.aload_n 2, 1) := by decide +kernel
theorem dL_law_571 : decode cL_law 571 = .ok (.aload_n 0, 1) := by decide +kernel
theorem dL_law_572 : decode cL_law 572 = .ok (.iload_n 3, 1) := by decide +kernel
theorem dL_law_573 : decode cL_law 573 = .ok (.iconst 1, 1) := by decide +kernel
theorem dL_law_574 : decode cL_law 574 = .ok (.iadd, 1) := by decide +kernel
theorem dL_law_575 : decode cL_law 575 = .ok (.iaload, 1) := by decide +kernel
theorem dL_law_576 : decode cL_law 576 = .ok (.aload_n 0, 1) := by decide +kernel
theorem dL_law_577 : decode cL_law 577 = .ok (.iload_n 3, 1) := by decide +kernel
theorem dL_law_578 : decode cL_law 578 = .ok (.iconst 2, 1) := by decide +kernel
theorem dL_law_579 : decode cL_law 579 = .ok (.iadd, 1) := by decide +kernel
theorem dL_law_580 : decode cL_law 580 = .ok (.iaload, 1) := by decide +kernel
theorem dL_law_581 : decode cL_law 581 = .ok (.invokevirtual 69, 3) := by decide +kernel
theorem dL_law_584 : decode cL_law 584 = .ok (.if_icmp .eq 750, 3) := by decide +kernel
theorem dL_law_587 : decode cL_law 587 = .ok (.iconst 0, 1) := by decide +kernel
theorem dL_law_588 : decode cL_law 588 = .ok (.ireturn, 1) := by decide +kernel
theorem dL_law_589 : decode cL_law 589 = .ok (.aload_n 1, 1) := by decide +kernel
theorem dL_law_590 : decode cL_law 590 = .ok (.aload_n 0, 1) := by decide +kernel
theorem dL_law_591 : decode cL_law 591 = .ok (.iload_n 3, 1) := by decide +kernel
theorem dL_law_592 : decode cL_law 592 = .ok (.iconst 1, 1) := by decide +kernel
theorem dL_law_593 : decode cL_law 593 = .ok (.iadd, 1) := by decide +kernel
theorem dL_law_594 : decode cL_law 594 = .ok (.iaload, 1) := by decide +kernel
theorem dL_law_595 : decode cL_law 595 = .ok (.invokevirtual 70, 3) := by decide +kernel
theorem dL_law_598 : decode cL_law 598 = .ok (.aload_n 2, 1) := by decide +kernel
theorem dL_law_599 : decode cL_law 599 = .ok (.aload_n 0, 1) := by decide +kernel
theorem dL_law_600 : decode cL_law 600 = .ok (.iload_n 3, 1) := by decide +kernel
theorem dL_law_601 : decode cL_law 601 = .ok (.iconst 1, 1) := by decide +kernel
theorem dL_law_602 : decode cL_law 602 = .ok (.iadd, 1) := by decide +kernel
theorem dL_law_603 : decode cL_law 603 = .ok (.iaload, 1) := by decide +kernel
theorem dL_law_604 : decode cL_law 604 = .ok (.invokevirtual 73, 3) := by decide +kernel
theorem dL_law_607 : decode cL_law 607 = .ok (.if_icmp .eq 727, 3) := by decide +kernel
theorem dL_law_610 : decode cL_law 610 = .ok (.iconst 0, 1) := by decide +kernel
theorem dL_law_611 : decode cL_law 611 = .ok (.ireturn, 1) := by decide +kernel
theorem dL_law_612 : decode cL_law 612 = .ok (.aload_n 1, 1) := by decide +kernel
theorem dL_law_613 : decode cL_law 613 = .ok (.invokevirtual 74, 3) := by decide +kernel
theorem dL_law_616 : decode cL_law 616 = .ok (.aload_n 2, 1) := by decide +kernel
theorem dL_law_617 : decode cL_law 617 = .ok (.invokevirtual 77, 3) := by decide +kernel
theorem dL_law_620 : decode cL_law 620 = .ok (.if_icmp .eq 714, 3) := by decide +kernel
theorem dL_law_623 : decode cL_law 623 = .ok (.iconst 0, 1) := by decide +kernel
theorem dL_law_624 : decode cL_law 624 = .ok (.ireturn, 1) := by decide +kernel
theorem dL_law_625 : decode cL_law 625 = .ok (.aload_n 1, 1) := by decide +kernel
theorem dL_law_626 : decode cL_law 626 = .ok (.aload_n 0, 1) := by decide +kernel
theorem dL_law_627 : decode cL_law 627 = .ok (.iload_n 3, 1) := by decide +kernel
theorem dL_law_628 : decode cL_law 628 = .ok (.iconst 1, 1) := by decide +kernel
theorem dL_law_629 : decode cL_law 629 = .ok (.iadd, 1) := by decide +kernel
theorem dL_law_630 : decode cL_law 630 = .ok (.iaload, 1) := by decide +kernel
theorem dL_law_631 : decode cL_law 631 = .ok (.invokevirtual 78, 3) := by decide +kernel
theorem dL_law_634 : decode cL_law 634 = .ok (.aload_n 2, 1) := by decide +kernel
theorem dL_law_635 : decode cL_law 635 = .ok (.aload_n 0, 1) := by decide +kernel
theorem dL_law_636 : decode cL_law 636 = .ok (.iload_n 3, 1) := by decide +kernel
theorem dL_law_637 : decode cL_law 637 = .ok (.iconst 1, 1) := by decide +kernel
theorem dL_law_638 : decode cL_law 638 = .ok (.iadd, 1) := by decide +kernel
theorem dL_law_639 : decode cL_law 639 = .ok (.iaload, 1) := by decide +kernel
theorem dL_law_640 : decode cL_law 640 = .ok (.invokevirtual 81, 3) := by decide +kernel
theorem dL_law_643 : decode cL_law 643 = .ok (.if_icmp .eq 691, 3) := by decide +kernel
theorem dL_law_646 : decode cL_law 646 = .ok (.iconst 0, 1) := by decide +kernel
theorem dL_law_647 : decode cL_law 647 = .ok (.ireturn, 1) := by decide +kernel
theorem dL_law_648 : decode cL_law 648 = .ok (.aload_n 1, 1) := by decide +kernel
theorem dL_law_649 : decode cL_law 649 = .ok (.aload_n 0, 1) := by decide +kernel
theorem dL_law_650 : decode cL_law 650 = .ok (.iload_n 3, 1) := by decide +kernel
theorem dL_law_651 : decode cL_law 651 = .ok (.iconst 1, 1) := by decide +kernel
theorem dL_law_652 : decode cL_law 652 = .ok (.iadd, 1) := by decide +kernel
theorem dL_law_653 : decode cL_law 653 = .ok (.iaload, 1) := by decide +kernel
theorem dL_law_654 : decode cL_law 654 = .ok (.aload_n 0, 1) := by decide +kernel
theorem dL_law_655 : decode cL_law 655 = .ok (.iload_n 3, 1) := by decide +kernel
theorem dL_law_656 : decode cL_law 656 = .ok (.iconst 2, 1) := by decide +kernel
theorem dL_law_657 : decode cL_law 657 = .ok (.iadd, 1) := by decide +kernel
theorem dL_law_658 : decode cL_law 658 = .ok (.iaload, 1) := by decide +kernel
theorem dL_law_659 : decode cL_law 659 = .ok (.invokevirtual 82, 3) := by decide +kernel
theorem dL_law_662 : decode cL_law 662 = .ok (.aload_n 2, 1) := by decide +kernel
theorem dL_law_663 : decode cL_law 663 = .ok (.aload_n 0, 1) := by decide +kernel
theorem dL_law_664 : decode cL_law 664 = .ok (.iload_n 3, 1) := by decide +kernel
theorem dL_law_665 : decode cL_law 665 = .ok (.iconst 1, 1) := by decide +kernel
theorem dL_law_666 : decode cL_law 666 = .ok (.iadd, 1) := by decide +kernel
theorem dL_law_667 : decode cL_law 667 = .ok (.iaload, 1) := by decide +kernel
theorem dL_law_668 : decode cL_law 668 = .ok (.aload_n 0, 1) := by decide +kernel
theorem dL_law_669 : decode cL_law 669 = .ok (.iload_n 3, 1) := by decide +kernel
theorem dL_law_670 : decode cL_law 670 = .ok (.iconst 2, 1) := by decide +kernel
theorem dL_law_671 : decode cL_law 671 = .ok (.iadd, 1) := by decide +kernel
theorem dL_law_672 : decode cL_law 672 = .ok (.iaload, 1) := by decide +kernel
theorem dL_law_673 : decode cL_law 673 = .ok (.invokevirtual 85, 3) := by decide +kernel
theorem dL_law_676 : decode cL_law 676 = .ok (.if_icmp .eq 658, 3) := by decide +kernel
theorem dL_law_679 : decode cL_law 679 = .ok (.iconst 0, 1) := by decide +kernel
theorem dL_law_680 : decode cL_law 680 = .ok (.ireturn, 1) := by decide +kernel
theorem dL_law_681 : decode cL_law 681 = .ok (.aload_n 1, 1) := by decide +kernel
theorem dL_law_682 : decode cL_law 682 = .ok (.invokevirtual 86, 3) := by decide +kernel
theorem dL_law_685 : decode cL_law 685 = .ok (.aload_n 2, 1) := by decide +kernel
theorem dL_law_686 : decode cL_law 686 = .ok (.invokevirtual 89, 3) := by decide +kernel
theorem dL_law_689 : decode cL_law 689 = .ok (.if_icmp .eq 645, 3) := by decide +kernel
theorem dL_law_692 : decode cL_law 692 = .ok (.iconst 0, 1) := by decide +kernel
theorem dL_law_693 : decode cL_law 693 = .ok (.ireturn, 1) := by decide +kernel
theorem dL_law_694 : decode cL_law 694 = .ok (.aload_n 1, 1) := by decide +kernel
theorem dL_law_695 : decode cL_law 695 = .ok (.aload_n 0, 1) := by decide +kernel
theorem dL_law_696 : decode cL_law 696 = .ok (.iload_n 3, 1) := by decide +kernel
theorem dL_law_697 : decode cL_law 697 = .ok (.iconst 1, 1) := by decide +kernel
theorem dL_law_698 : decode cL_law 698 = .ok (.iadd, 1) := by decide +kernel
theorem dL_law_699 : decode cL_law 699 = .ok (.iaload, 1) := by decide +kernel
theorem dL_law_700 : decode cL_law 700 = .ok (.aload_n 0, 1) := by decide +kernel
theorem dL_law_701 : decode cL_law 701 = .ok (.iload_n 3, 1) := by decide +kernel
theorem dL_law_702 : decode cL_law 702 = .ok (.iconst 2, 1) := by decide +kernel
theorem dL_law_703 : decode cL_law 703 = .ok (.iadd, 1) := by decide +kernel
theorem dL_law_704 : decode cL_law 704 = .ok (.iaload, 1) := by decide +kernel
theorem dL_law_705 : decode cL_law 705 = .ok (.aload_n 0, 1) := by decide +kernel
theorem dL_law_706 : decode cL_law 706 = .ok (.iload_n 3, 1) := by decide +kernel
theorem dL_law_707 : decode cL_law 707 = .ok (.iconst 3, 1) := by decide +kernel
theorem dL_law_708 : decode cL_law 708 = .ok (.iadd, 1) := by decide +kernel
theorem dL_law_709 : decode cL_law 709 = .ok (.iaload, 1) := by decide +kernel
theorem dL_law_710 : decode cL_law 710 = .ok (.invokevirtual 90, 3) := by decide +kernel
theorem dL_law_713 : decode cL_law 713 = .ok (.aload_n 2, 1) := by decide +kernel
theorem dL_law_714 : decode cL_law 714 = .ok (.aload_n 0, 1) := by decide +kernel
theorem dL_law_715 : decode cL_law 715 = .ok (.iload_n 3, 1) := by decide +kernel
theorem dL_law_716 : decode cL_law 716 = .ok (.iconst 1, 1) := by decide +kernel
theorem dL_law_717 : decode cL_law 717 = .ok (.iadd, 1) := by decide +kernel
theorem dL_law_718 : decode cL_law 718 = .ok (.iaload, 1) := by decide +kernel
theorem dL_law_719 : decode cL_law 719 = .ok (.aload_n 0, 1) := by decide +kernel
theorem dL_law_720 : decode cL_law 720 = .ok (.iload_n 3, 1) := by decide +kernel
theorem dL_law_721 : decode cL_law 721 = .ok (.iconst 2, 1) := by decide +kernel
theorem dL_law_722 : decode cL_law 722 = .ok (.iadd, 1) := by decide +kernel
theorem dL_law_723 : decode cL_law 723 = .ok (.iaload, 1) := by decide +kernel
theorem dL_law_724 : decode cL_law 724 = .ok (.aload_n 0, 1) := by decide +kernel
theorem dL_law_725 : decode cL_law 725 = .ok (.iload_n 3, 1) := by decide +kernel
theorem dL_law_726 : decode cL_law 726 = .ok (.iconst 3, 1) := by decide +kernel
theorem dL_law_727 : decode cL_law 727 = .ok (.iadd, 1) := by decide +kernel
theorem dL_law_728 : decode cL_law 728 = .ok (.iaload, 1) := by decide +kernel
theorem dL_law_729 : decode cL_law 729 = .ok (.invokevirtual 93, 3) := by decide +kernel
theorem dL_law_732 : decode cL_law 732 = .ok (.if_icmp .eq 602, 3) := by decide +kernel
theorem dL_law_735 : decode cL_law 735 = .ok (.iconst 0, 1) := by decide +kernel
theorem dL_law_736 : decode cL_law 736 = .ok (.ireturn, 1) := by decide +kernel
theorem dL_law_737 : decode cL_law 737 = .ok (.aload_n 1, 1) := by decide +kernel
theorem dL_law_738 : decode cL_law 738 = .ok (.aload_n 0, 1) := by decide +kernel
theorem dL_law_739 : decode cL_law 739 = .ok (.iload_n 3, 1) := by decide +kernel
theorem dL_law_740 : decode cL_law 740 = .ok (.iconst 1, 1) := by decide +kernel
theorem dL_law_741 : decode cL_law 741 = .ok (.iadd, 1) := by decide +kernel
theorem dL_law_742 : decode cL_law 742 = .ok (.iaload, 1) := by decide +kernel
theorem dL_law_743 : decode cL_law 743 = .ok (.invokevirtual 94, 3) := by decide +kernel
theorem dL_law_746 : decode cL_law 746 = .ok (.aload_n 2, 1) := by decide +kernel
theorem dL_law_747 : decode cL_law 747 = .ok (.aload_n 0, 1) := by decide +kernel
theorem dL_law_748 : decode cL_law 748 = .ok (.iload_n 3, 1) := by decide +kernel
theorem dL_law_749 : decode cL_law 749 = .ok (.iconst 1, 1) := by decide +kernel
theorem dL_law_750 : decode cL_law 750 = .ok (.iadd, 1) := by decide +kernel
theorem dL_law_751 : decode cL_law 751 = .ok (.iaload, 1) := by decide +kernel
theorem dL_law_752 : decode cL_law 752 = .ok (.invokevirtual 97, 3) := by decide +kernel
theorem dL_law_755 : decode cL_law 755 = .ok (.if_icmp .eq 579, 3) := by decide +kernel
theorem dL_law_758 : decode cL_law 758 = .ok (.iconst 0, 1) := by decide +kernel
theorem dL_law_759 : decode cL_law 759 = .ok (.ireturn, 1) := by decide +kernel
theorem dL_law_760 : decode cL_law 760 = .ok (.aload_n 1, 1) := by decide +kernel
theorem dL_law_761 : decode cL_law 761 = .ok (.invokevirtual 98, 3) := by decide +kernel
theorem dL_law_764 : decode cL_law 764 = .ok (.aload_n 2, 1) := by decide +kernel
theorem dL_law_765 : decode cL_law 765 = .ok (.invokevirtual 101, 3) := by decide +kernel
theorem dL_law_768 : decode cL_law 768 = .ok (.if_icmp .eq 566, 3) := by decide +kernel
theorem dL_law_771 : decode cL_law 771 = .ok (.iconst 0, 1) := by decide +kernel
theorem dL_law_772 : decode cL_law 772 = .ok (.ireturn, 1) := by decide +kernel
theorem dL_law_773 : decode cL_law 773 = .ok (.aload_n 1, 1) := by decide +kernel
theorem dL_law_774 : decode cL_law 774 = .ok (.aload_n 0, 1) := by decide +kernel
theorem dL_law_775 : decode cL_law 775 = .ok (.iload_n 3, 1) := by decide +kernel
theorem dL_law_776 : decode cL_law 776 = .ok (.iconst 1, 1) := by decide +kernel
theorem dL_law_777 : decode cL_law 777 = .ok (.iadd, 1) := by decide +kernel
theorem dL_law_778 : decode cL_law 778 = .ok (.iaload, 1) := by decide +kernel
theorem dL_law_779 : decode cL_law 779 = .ok (.aload_n 0, 1) := by decide +kernel
theorem dL_law_780 : decode cL_law 780 = .ok (.iload_n 3, 1) := by decide +kernel
theorem dL_law_781 : decode cL_law 781 = .ok (.iconst 2, 1) := by decide +kernel
theorem dL_law_782 : decode cL_law 782 = .ok (.iadd, 1) := by decide +kernel
theorem dL_law_783 : decode cL_law 783 = .ok (.iaload, 1) := by decide +kernel
theorem dL_law_784 : decode cL_law 784 = .ok (.aload_n 0, 1) := by decide +kernel
theorem dL_law_785 : decode cL_law 785 = .ok (.iload_n 3, 1) := by decide +kernel
theorem dL_law_786 : decode cL_law 786 = .ok (.iconst 3, 1) := by decide +kernel
theorem dL_law_787 : decode cL_law 787 = .ok (.iadd, 1) := by decide +kernel
theorem dL_law_788 : decode cL_law 788 = .ok (.iaload, 1) := by decide +kernel
theorem dL_law_789 : decode cL_law 789 = .ok (.invokevirtual 102, 3) := by decide +kernel
theorem dL_law_792 : decode cL_law 792 = .ok (.aload_n 2, 1) := by decide +kernel
theorem dL_law_793 : decode cL_law 793 = .ok (.aload_n 0, 1) := by decide +kernel
theorem dL_law_794 : decode cL_law 794 = .ok (.iload_n 3, 1) := by decide +kernel
theorem dL_law_795 : decode cL_law 795 = .ok (.iconst 1, 1) := by decide +kernel
theorem dL_law_796 : decode cL_law 796 = .ok (.iadd, 1) := by decide +kernel
theorem dL_law_797 : decode cL_law 797 = .ok (.iaload, 1) := by decide +kernel
theorem dL_law_798 : decode cL_law 798 = .ok (.aload_n 0, 1) := by decide +kernel
theorem dL_law_799 : decode cL_law 799 = .ok (.iload_n 3, 1) := by decide +kernel
theorem dL_law_800 : decode cL_law 800 = .ok (.iconst 2, 1) := by decide +kernel
theorem dL_law_801 : decode cL_law 801 = .ok (.iadd, 1) := by decide +kernel
theorem dL_law_802 : decode cL_law 802 = .ok (.iaload, 1) := by decide +kernel
theorem dL_law_803 : decode cL_law 803 = .ok (.aload_n 0, 1) := by decide +kernel
theorem dL_law_804 : decode cL_law 804 = .ok (.iload_n 3, 1) := by decide +kernel
theorem dL_law_805 : decode cL_law 805 = .ok (.iconst 3, 1) := by decide +kernel
theorem dL_law_806 : decode cL_law 806 = .ok (.iadd, 1) := by decide +kernel
theorem dL_law_807 : decode cL_law 807 = .ok (.iaload, 1) := by decide +kernel
theorem dL_law_808 : decode cL_law 808 = .ok (.invokevirtual 105, 3) := by decide +kernel
theorem dL_law_811 : decode cL_law 811 = .ok (.if_icmp .eq 523, 3) := by decide +kernel
theorem dL_law_814 : decode cL_law 814 = .ok (.iconst 0, 1) := by decide +kernel
theorem dL_law_815 : decode cL_law 815 = .ok (.ireturn, 1) := by decide +kernel
theorem dL_law_816 : decode cL_law 816 = .ok (.aload_n 1, 1) := by decide +kernel
theorem dL_law_817 : decode cL_law 817 = .ok (.aload_n 0, 1) := by decide +kernel
theorem dL_law_818 : decode cL_law 818 = .ok (.iload_n 3, 1) := by decide +kernel
theorem dL_law_819 : decode cL_law 819 = .ok (.iconst 1, 1) := by decide +kernel
theorem dL_law_820 : decode cL_law 820 = .ok (.iadd, 1) := by decide +kernel
theorem dL_law_821 : decode cL_law 821 = .ok (.iaload, 1) := by decide +kernel
theorem dL_law_822 : decode cL_law 822 = .ok (.aload_n 0, 1) := by decide +kernel
theorem dL_law_823 : decode cL_law 823 = .ok (.iload_n 3, 1) := by decide +kernel
theorem dL_law_824 : decode cL_law 824 = .ok (.iconst 2, 1) := by decide +kernel
theorem dL_law_825 : decode cL_law 825 = .ok (.iadd, 1) := by decide +kernel
theorem dL_law_826 : decode cL_law 826 = .ok (.iaload, 1) := by decide +kernel
theorem dL_law_827 : decode cL_law 827 = .ok (.aload_n 0, 1) := by decide +kernel
theorem dL_law_828 : decode cL_law 828 = .ok (.iload_n 3, 1) := by decide +kernel
theorem dL_law_829 : decode cL_law 829 = .ok (.iconst 3, 1) := by decide +kernel
theorem dL_law_830 : decode cL_law 830 = .ok (.iadd, 1) := by decide +kernel
theorem dL_law_831 : decode cL_law 831 = .ok (.iaload, 1) := by decide +kernel
theorem dL_law_832 : decode cL_law 832 = .ok (.invokevirtual 106, 3) := by decide +kernel
theorem dL_law_835 : decode cL_law 835 = .ok (.aload_n 2, 1) := by decide +kernel
theorem dL_law_836 : decode cL_law 836 = .ok (.aload_n 0, 1) := by decide +kernel
theorem dL_law_837 : decode cL_law 837 = .ok (.iload_n 3, 1) := by decide +kernel
theorem dL_law_838 : decode cL_law 838 = .ok (.iconst 1, 1) := by decide +kernel
theorem dL_law_839 : decode cL_law 839 = .ok (.iadd, 1) := by decide +kernel
theorem dL_law_840 : decode cL_law 840 = .ok (.iaload, 1) := by decide +kernel
theorem dL_law_841 : decode cL_law 841 = .ok (.aload_n 0, 1) := by decide +kernel
theorem dL_law_842 : decode cL_law 842 = .ok (.iload_n 3, 1) := by decide +kernel
theorem dL_law_843 : decode cL_law 843 = .ok (.iconst 2, 1) := by decide +kernel
theorem dL_law_844 : decode cL_law 844 = .ok (.iadd, 1) := by decide +kernel
theorem dL_law_845 : decode cL_law 845 = .ok (.iaload, 1) := by decide +kernel
theorem dL_law_846 : decode cL_law 846 = .ok (.aload_n 0, 1) := by decide +kernel
theorem dL_law_847 : decode cL_law 847 = .ok (.iload_n 3, 1) := by decide +kernel
theorem dL_law_848 : decode cL_law 848 = .ok (.iconst 3, 1) := by decide +kernel
theorem dL_law_849 : decode cL_law 849 = .ok (.iadd, 1) := by decide +kernel
theorem dL_law_850 : decode cL_law 850 = .ok (.iaload, 1) := by decide +kernel
theorem dL_law_851 : decode cL_law 851 = .ok (.invokevirtual 109, 3) := by decide +kernel
theorem dL_law_854 : decode cL_law 854 = .ok (.if_icmp .eq 480, 3) := by decide +kernel
theorem dL_law_857 : decode cL_law 857 = .ok (.iconst 0, 1) := by decide +kernel
theorem dL_law_858 : decode cL_law 858 = .ok (.ireturn, 1) := by decide +kernel
theorem dL_law_859 : decode cL_law 859 = .ok (.aload_n 1, 1) := by decide +kernel
theorem dL_law_860 : decode cL_law 860 = .ok (.aload_n 0, 1) := by decide +kernel
theorem dL_law_861 : decode cL_law 861 = .ok (.iload_n 3, 1) := by decide +kernel
theorem dL_law_862 : decode cL_law 862 = .ok (.iconst 1, 1) := by decide +kernel
theorem dL_law_863 : decode cL_law 863 = .ok (.iadd, 1) := by decide +kernel
theorem dL_law_864 : decode cL_law 864 = .ok (.iaload, 1) := by decide +kernel
theorem dL_law_865 : decode cL_law 865 = .ok (.aload_n 0, 1) := by decide +kernel
theorem dL_law_866 : decode cL_law 866 = .ok (.iload_n 3, 1) := by decide +kernel
theorem dL_law_867 : decode cL_law 867 = .ok (.iconst 2, 1) := by decide +kernel
theorem dL_law_868 : decode cL_law 868 = .ok (.iadd, 1) := by decide +kernel
theorem dL_law_869 : decode cL_law 869 = .ok (.iaload, 1) := by decide +kernel
theorem dL_law_870 : decode cL_law 870 = .ok (.aload_n 0, 1) := by decide +kernel
theorem dL_law_871 : decode cL_law 871 = .ok (.iload_n 3, 1) := by decide +kernel
theorem dL_law_872 : decode cL_law 872 = .ok (.iconst 3, 1) := by decide +kernel
theorem dL_law_873 : decode cL_law 873 = .ok (.iadd, 1) := by decide +kernel
theorem dL_law_874 : decode cL_law 874 = .ok (.iaload, 1) := by decide +kernel
theorem dL_law_875 : decode cL_law 875 = .ok (.invokevirtual 110, 3) := by decide +kernel
theorem dL_law_878 : decode cL_law 878 = .ok (.aload_n 2, 1) := by decide +kernel
theorem dL_law_879 : decode cL_law 879 = .ok (.aload_n 0, 1) := by decide +kernel
theorem dL_law_880 : decode cL_law 880 = .ok (.iload_n 3, 1) := by decide +kernel
theorem dL_law_881 : decode cL_law 881 = .ok (.iconst 1, 1) := by decide +kernel
theorem dL_law_882 : decode cL_law 882 = .ok (.iadd, 1) := by decide +kernel
theorem dL_law_883 : decode cL_law 883 = .ok (.iaload, 1) := by decide +kernel
theorem dL_law_884 : decode cL_law 884 = .ok (.aload_n 0, 1) := by decide +kernel
theorem dL_law_885 : decode cL_law 885 = .ok (.iload_n 3, 1) := by decide +kernel
theorem dL_law_886 : decode cL_law 886 = .ok (.iconst 2, 1) := by decide +kernel
theorem dL_law_887 : decode cL_law 887 = .ok (.iadd, 1) := by decide +kernel
theorem dL_law_888 : decode cL_law 888 = .ok (.iaload, 1) := by decide +kernel
theorem dL_law_889 : decode cL_law 889 = .ok (.aload_n 0, 1) := by decide +kernel
theorem dL_law_890 : decode cL_law 890 = .ok (.iload_n 3, 1) := by decide +kernel
theorem dL_law_891 : decode cL_law 891 = .ok (.iconst 3, 1) := by decide +kernel
theorem dL_law_892 : decode cL_law 892 = .ok (.iadd, 1) := by decide +kernel
theorem dL_law_893 : decode cL_law 893 = .ok (.iaload, 1) := by decide +kernel
end
section
theorem dL_law_894 : decode cL_law 894 = .ok (.invokevirtual 113, 3) := by decide +kernel
theorem dL_law_897 : decode cL_law 897 = .ok (.if_icmp .eq 437, 3) := by decide +kernel
theorem dL_law_900 : decode cL_law 900 = .ok (.iconst 0, 1) := by decide +kernel
theorem dL_law_901 : decode cL_law 901 = .ok (.ireturn, 1) := by decide +kernel
theorem dL_law_902 : decode cL_law 902 = .ok (.aload_n 1, 1) := by decide +kernel
theorem dL_law_903 : decode cL_law 903 = .ok (.aload_n 0, 1) := by decide +kernel
theorem dL_law_904 : decode cL_law 904 = .ok (.iload_n 3, 1) := by decide +kernel
theorem dL_law_905 : decode cL_law 905 = .ok (.iconst 1, 1) := by decide +kernel
theorem dL_law_906 : decode cL_law 906 = .ok (.iadd, 1) := by decide +kernel
theorem dL_law_907 : decode cL_law 907 = .ok (.iaload, 1) := by decide +kernel
theorem dL_law_908 : decode cL_law 908 = .ok (.invokevirtual 114, 3) := by decide +kernel
theorem dL_law_911 : decode cL_law 911 = .ok (.aload_n 2, 1) := by decide +kernel
theorem dL_law_912 : decode cL_law 912 = .ok (.aload_n 0, 1) := by decide +kernel
theorem dL_law_913 : decode cL_law 913 = .ok (.iload_n 3, 1) := by decide +kernel
theorem dL_law_914 : decode cL_law 914 = .ok (.iconst 1, 1) := by decide +kernel
theorem dL_law_915 : decode cL_law 915 = .ok (.iadd, 1) := by decide +kernel
theorem dL_law_916 : decode cL_law 916 = .ok (.iaload, 1) := by decide +kernel
theorem dL_law_917 : decode cL_law 917 = .ok (.invokevirtual 117, 3) := by decide +kernel
theorem dL_law_920 : decode cL_law 920 = .ok (.if_icmp .eq 414, 3) := by decide +kernel
theorem dL_law_923 : decode cL_law 923 = .ok (.iconst 0, 1) := by decide +kernel
theorem dL_law_924 : decode cL_law 924 = .ok (.ireturn, 1) := by decide +kernel
theorem dL_law_925 : decode cL_law 925 = .ok (.aload_n 1, 1) := by decide +kernel
theorem dL_law_926 : decode cL_law 926 = .ok (.invokevirtual 118, 3) := by decide +kernel
theorem dL_law_929 : decode cL_law 929 = .ok (.aload_n 2, 1) := by decide +kernel
theorem dL_law_930 : decode cL_law 930 = .ok (.invokevirtual 121, 3) := by decide +kernel
theorem dL_law_933 : decode cL_law 933 = .ok (.if_icmp .eq 401, 3) := by decide +kernel
theorem dL_law_936 : decode cL_law 936 = .ok (.iconst 0, 1) := by decide +kernel
theorem dL_law_937 : decode cL_law 937 = .ok (.ireturn, 1) := by decide +kernel
theorem dL_law_938 : decode cL_law 938 = .ok (.aload_n 1, 1) := by decide +kernel
theorem dL_law_939 : decode cL_law 939 = .ok (.invokevirtual 122, 3) := by decide +kernel
theorem dL_law_942 : decode cL_law 942 = .ok (.aload_n 2, 1) := by decide +kernel
theorem dL_law_943 : decode cL_law 943 = .ok (.invokevirtual 125, 3) := by decide +kernel
theorem dL_law_946 : decode cL_law 946 = .ok (.if_icmp .eq 388, 3) := by decide +kernel
theorem dL_law_949 : decode cL_law 949 = .ok (.iconst 0, 1) := by decide +kernel
theorem dL_law_950 : decode cL_law 950 = .ok (.ireturn, 1) := by decide +kernel
theorem dL_law_951 : decode cL_law 951 = .ok (.aload_n 1, 1) := by decide +kernel
theorem dL_law_952 : decode cL_law 952 = .ok (.aload_n 0, 1) := by decide +kernel
theorem dL_law_953 : decode cL_law 953 = .ok (.iload_n 3, 1) := by decide +kernel
theorem dL_law_954 : decode cL_law 954 = .ok (.iconst 1, 1) := by decide +kernel
theorem dL_law_955 : decode cL_law 955 = .ok (.iadd, 1) := by decide +kernel
theorem dL_law_956 : decode cL_law 956 = .ok (.iaload, 1) := by decide +kernel
theorem dL_law_957 : decode cL_law 957 = .ok (.invokevirtual 126, 3) := by decide +kernel
theorem dL_law_960 : decode cL_law 960 = .ok (.aload_n 2, 1) := by decide +kernel
theorem dL_law_961 : decode cL_law 961 = .ok (.aload_n 0, 1) := by decide +kernel
theorem dL_law_962 : decode cL_law 962 = .ok (.iload_n 3, 1) := by decide +kernel
theorem dL_law_963 : decode cL_law 963 = .ok (.iconst 1, 1) := by decide +kernel
theorem dL_law_964 : decode cL_law 964 = .ok (.iadd, 1) := by decide +kernel
theorem dL_law_965 : decode cL_law 965 = .ok (.iaload, 1) := by decide +kernel
theorem dL_law_966 : decode cL_law 966 = .ok (.invokevirtual 129, 3) := by decide +kernel
theorem dL_law_969 : decode cL_law 969 = .ok (.if_icmp .eq 365, 3) := by decide +kernel
theorem dL_law_972 : decode cL_law 972 = .ok (.iconst 0, 1) := by decide +kernel
theorem dL_law_973 : decode cL_law 973 = .ok (.ireturn, 1) := by decide +kernel
theorem dL_law_974 : decode cL_law 974 = .ok (.aload_n 1, 1) := by decide +kernel
theorem dL_law_975 : decode cL_law 975 = .ok (.aload_n 0, 1) := by decide +kernel
theorem dL_law_976 : decode cL_law 976 = .ok (.iload_n 3, 1) := by decide +kernel
theorem dL_law_977 : decode cL_law 977 = .ok (.iconst 1, 1) := by decide +kernel
theorem dL_law_978 : decode cL_law 978 = .ok (.iadd, 1) := by decide +kernel
theorem dL_law_979 : decode cL_law 979 = .ok (.iaload, 1) := by decide +kernel
theorem dL_law_980 : decode cL_law 980 = .ok (.aload_n 0, 1) := by decide +kernel
theorem dL_law_981 : decode cL_law 981 = .ok (.iload_n 3, 1) := by decide +kernel
theorem dL_law_982 : decode cL_law 982 = .ok (.iconst 2, 1) := by decide +kernel
theorem dL_law_983 : decode cL_law 983 = .ok (.iadd, 1) := by decide +kernel
theorem dL_law_984 : decode cL_law 984 = .ok (.iaload, 1) := by decide +kernel
theorem dL_law_985 : decode cL_law 985 = .ok (.invokevirtual 130, 3) := by decide +kernel
theorem dL_law_988 : decode cL_law 988 = .ok (.aload_n 2, 1) := by decide +kernel
theorem dL_law_989 : decode cL_law 989 = .ok (.aload_n 0, 1) := by decide +kernel
theorem dL_law_990 : decode cL_law 990 = .ok (.iload_n 3, 1) := by decide +kernel
theorem dL_law_991 : decode cL_law 991 = .ok (.iconst 1, 1) := by decide +kernel
theorem dL_law_992 : decode cL_law 992 = .ok (.iadd, 1) := by decide +kernel
theorem dL_law_993 : decode cL_law 993 = .ok (.iaload, 1) := by decide +kernel
theorem dL_law_994 : decode cL_law 994 = .ok (.aload_n 0, 1) := by decide +kernel
theorem dL_law_995 : decode cL_law 995 = .ok (.iload_n 3, 1) := by decide +kernel
theorem dL_law_996 : decode cL_law 996 = .ok (.iconst 2, 1) := by decide +kernel
theorem dL_law_997 : decode cL_law 997 = .ok (.iadd, 1) := by decide +kernel
theorem dL_law_998 : decode cL_law 998 = .ok (.iaload, 1) := by decide +kernel
theorem dL_law_999 : decode cL_law 999 = .ok (.invokevirtual 133, 3) := by decide +kernel
theorem dL_law_1002 : decode cL_law 1002 = .ok (.if_icmp .eq 332, 3) := by decide +kernel
theorem dL_law_1005 : decode cL_law 1005 = .ok (.iconst 0, 1) := by decide +kernel
theorem dL_law_1006 : decode cL_law 1006 = .ok (.ireturn, 1) := by decide +kernel
theorem dL_law_1007 : decode cL_law 1007 = .ok (.aload_n 1, 1) := by decide +kernel
theorem dL_law_1008 : decode cL_law 1008 = .ok (.aload_n 0, 1) := by decide +kernel
theorem dL_law_1009 : decode cL_law 1009 = .ok (.iload_n 3, 1) := by decide +kernel
theorem dL_law_1010 : decode cL_law 1010 = .ok (.iconst 1, 1) := by decide +kernel
theorem dL_law_1011 : decode cL_law 1011 = .ok (.iadd, 1) := by decide +kernel
theorem dL_law_1012 : decode cL_law 1012 = .ok (.iaload, 1) := by decide +kernel
theorem dL_law_1013 : decode cL_law 1013 = .ok (.aload_n 0, 1) := by decide +kernel
theorem dL_law_1014 : decode cL_law 1014 = .ok (.iload_n 3, 1) := by decide +kernel
theorem dL_law_1015 : decode cL_law 1015 = .ok (.iconst 2, 1) := by decide +kernel
theorem dL_law_1016 : decode cL_law 1016 = .ok (.iadd, 1) := by decide +kernel
theorem dL_law_1017 : decode cL_law 1017 = .ok (.iaload, 1) := by decide +kernel
theorem dL_law_1018 : decode cL_law 1018 = .ok (.aload_n 0, 1) := by decide +kernel
theorem dL_law_1019 : decode cL_law 1019 = .ok (.iload_n 3, 1) := by decide +kernel
theorem dL_law_1020 : decode cL_law 1020 = .ok (.iconst 3, 1) := by decide +kernel
theorem dL_law_1021 : decode cL_law 1021 = .ok (.iadd, 1) := by decide +kernel
theorem dL_law_1022 : decode cL_law 1022 = .ok (.iaload, 1) := by decide +kernel
theorem dL_law_1023 : decode cL_law 1023 = .ok (.aload_n 0, 1) := by decide +kernel
theorem dL_law_1024 : decode cL_law 1024 = .ok (.iload_n 3, 1) := by decide +kernel
theorem dL_law_1025 : decode cL_law 1025 = .ok (.iconst 4, 1) := by decide +kernel
theorem dL_law_1026 : decode cL_law 1026 = .ok (.iadd, 1) := by decide +kernel
theorem dL_law_1027 : decode cL_law 1027 = .ok (.iaload, 1) := by decide +kernel
theorem dL_law_1028 : decode cL_law 1028 = .ok (.aload_n 0, 1) := by decide +kernel
theorem dL_law_1029 : decode cL_law 1029 = .ok (.iload_n 3, 1) := by decide +kernel
theorem dL_law_1030 : decode cL_law 1030 = .ok (.iconst 5, 1) := by decide +kernel
theorem dL_law_1031 : decode cL_law 1031 = .ok (.iadd, 1) := by decide +kernel
theorem dL_law_1032 : decode cL_law 1032 = .ok (.iaload, 1) := by decide +kernel
theorem dL_law_1033 : decode cL_law 1033 = .ok (.invokevirtual 134, 3) := by decide +kernel
theorem dL_law_1036 : decode cL_law 1036 = .ok (.aload_n 2, 1) := by decide +kernel
theorem dL_law_1037 : decode cL_law 1037 = .ok (.aload_n 0, 1) := by decide +kernel
theorem dL_law_1038 : decode cL_law 1038 = .ok (.iload_n 3, 1) := by decide +kernel
theorem dL_law_1039 : decode cL_law 1039 = .ok (.iconst 1, 1) := by decide +kernel
theorem dL_law_1040 : decode cL_law 1040 = .ok (.iadd, 1) := by decide +kernel
theorem dL_law_1041 : decode cL_law 1041 = .ok (.iaload, 1) := by decide +kernel
theorem dL_law_1042 : decode cL_law 1042 = .ok (.aload_n 0, 1) := by decide +kernel
theorem dL_law_1043 : decode cL_law 1043 = .ok (.iload_n 3, 1) := by decide +kernel
theorem dL_law_1044 : decode cL_law 1044 = .ok (.iconst 2, 1) := by decide +kernel
theorem dL_law_1045 : decode cL_law 1045 = .ok (.iadd, 1) := by decide +kernel
theorem dL_law_1046 : decode cL_law 1046 = .ok (.iaload, 1) := by decide +kernel
theorem dL_law_1047 : decode cL_law 1047 = .ok (.aload_n 0, 1) := by decide +kernel
theorem dL_law_1048 : decode cL_law 1048 = .ok (.iload_n 3, 1) := by decide +kernel
theorem dL_law_1049 : decode cL_law 1049 = .ok (.iconst 3, 1) := by decide +kernel
theorem dL_law_1050 : decode cL_law 1050 = .ok (.iadd, 1) := by decide +kernel
theorem dL_law_1051 : decode cL_law 1051 = .ok (.iaload, 1) := by decide +kernel
theorem dL_law_1052 : decode cL_law 1052 = .ok (.aload_n 0, 1) := by decide +kernel
theorem dL_law_1053 : decode cL_law 1053 = .ok (.iload_n 3, 1) := by decide +kernel
theorem dL_law_1054 : decode cL_law 1054 = .ok (.iconst 4, 1) := by decide +kernel
theorem dL_law_1055 : decode cL_law 1055 = .ok (.iadd, 1) := by decide +kernel
theorem dL_law_1056 : decode cL_law 1056 = .ok (.iaload, 1) := by decide +kernel
theorem dL_law_1057 : decode cL_law 1057 = .ok (.aload_n 0, 1) := by decide +kernel
theorem dL_law_1058 : decode cL_law 1058 = .ok (.iload_n 3, 1) := by decide +kernel
theorem dL_law_1059 : decode cL_law 1059 = .ok (.iconst 5, 1) := by decide +kernel
theorem dL_law_1060 : decode cL_law 1060 = .ok (.iadd, 1) := by decide +kernel
theorem dL_law_1061 : decode cL_law 1061 = .ok (.iaload, 1) := by decide +kernel
theorem dL_law_1062 : decode cL_law 1062 = .ok (.invokevirtual 138, 3) := by decide +kernel
theorem dL_law_1065 : decode cL_law 1065 = .ok (.if_icmp .eq 269, 3) := by decide +kernel
theorem dL_law_1068 : decode cL_law 1068 = .ok (.iconst 0, 1) := by decide +kernel
theorem dL_law_1069 : decode cL_law 1069 = .ok (.ireturn, 1) := by decide +kernel
theorem dL_law_1070 : decode cL_law 1070 = .ok (.aload_n 1, 1) := by decide +kernel
theorem dL_law_1071 : decode cL_law 1071 = .ok (.aload_n 0, 1) := by decide +kernel
theorem dL_law_1072 : decode cL_law 1072 = .ok (.iload_n 3, 1) := by decide +kernel
theorem dL_law_1073 : decode cL_law 1073 = .ok (.iconst 1, 1) := by decide +kernel
theorem dL_law_1074 : decode cL_law 1074 = .ok (.iadd, 1) := by decide +kernel
theorem dL_law_1075 : decode cL_law 1075 = .ok (.iaload, 1) := by decide +kernel
theorem dL_law_1076 : decode cL_law 1076 = .ok (.invokevirtual 139, 3) := by decide +kernel
theorem dL_law_1079 : decode cL_law 1079 = .ok (.aload_n 2, 1) := by decide +kernel
theorem dL_law_1080 : decode cL_law 1080 = .ok (.aload_n 0, 1) := by decide +kernel
theorem dL_law_1081 : decode cL_law 1081 = .ok (.iload_n 3, 1) := by decide +kernel
theorem dL_law_1082 : decode cL_law 1082 = .ok (.iconst 1, 1) := by decide +kernel
theorem dL_law_1083 : decode cL_law 1083 = .ok (.iadd, 1) := by decide +kernel
theorem dL_law_1084 : decode cL_law 1084 = .ok (.iaload, 1) := by decide +kernel
theorem dL_law_1085 : decode cL_law 1085 = .ok (.invokevirtual 142, 3) := by decide +kernel
theorem dL_law_1088 : decode cL_law 1088 = .ok (.if_icmp .eq 246, 3) := by decide +kernel
theorem dL_law_1091 : decode cL_law 1091 = .ok (.iconst 0, 1) := by decide +kernel
theorem dL_law_1092 : decode cL_law 1092 = .ok (.ireturn, 1) := by decide +kernel
theorem dL_law_1093 : decode cL_law 1093 = .ok (.aload_n 1, 1) := by decide +kernel
theorem dL_law_1094 : decode cL_law 1094 = .ok (.aload_n 0, 1) := by decide +kernel
theorem dL_law_1095 : decode cL_law 1095 = .ok (.iload_n 3, 1) := by decide +kernel
theorem dL_law_1096 : decode cL_law 1096 = .ok (.iconst 1, 1) := by decide +kernel
theorem dL_law_1097 : decode cL_law 1097 = .ok (.iadd, 1) := by decide +kernel
theorem dL_law_1098 : decode cL_law 1098 = .ok (.iaload, 1) := by decide +kernel
theorem dL_law_1099 : decode cL_law 1099 = .ok (.aload_n 0, 1) := by decide +kernel
theorem dL_law_1100 : decode cL_law 1100 = .ok (.iload_n 3, 1) := by decide +kernel
theorem dL_law_1101 : decode cL_law 1101 = .ok (.iconst 2, 1) := by decide +kernel
theorem dL_law_1102 : decode cL_law 1102 = .ok (.iadd, 1) := by decide +kernel
theorem dL_law_1103 : decode cL_law 1103 = .ok (.iaload, 1) := by decide +kernel
theorem dL_law_1104 : decode cL_law 1104 = .ok (.aload_n 0, 1) := by decide +kernel
theorem dL_law_1105 : decode cL_law 1105 = .ok (.iload_n 3, 1) := by decide +kernel
theorem dL_law_1106 : decode cL_law 1106 = .ok (.iconst 3, 1) := by decide +kernel
theorem dL_law_1107 : decode cL_law 1107 = .ok (.iadd, 1) := by decide +kernel
theorem dL_law_1108 : decode cL_law 1108 = .ok (.iaload, 1) := by decide +kernel
theorem dL_law_1109 : decode cL_law 1109 = .ok (.invokevirtual 143, 3) := by decide +kernel
theorem dL_law_1112 : decode cL_law 1112 = .ok (.aload_n 2, 1) := by decide +kernel
theorem dL_law_1113 : decode cL_law 1113 = .ok (.aload_n 0, 1) := by decide +kernel
theorem dL_law_1114 : decode cL_law 1114 = .ok (.iload_n 3, 1) := by decide +kernel
theorem dL_law_1115 : decode cL_law 1115 = .ok (.iconst 1, 1) := by decide +kernel
theorem dL_law_1116 : decode cL_law 1116 = .ok (.iadd, 1) := by decide +kernel
theorem dL_law_1117 : decode cL_law 1117 = .ok (.iaload, 1) := by decide +kernel
theorem dL_law_1118 : decode cL_law 1118 = .ok (.aload_n 0, 1) := by decide +kernel
theorem dL_law_1119 : decode cL_law 1119 = .ok (.iload_n 3, 1) := by decide +kernel
theorem dL_law_1120 : decode cL_law 1120 = .ok (.iconst 2, 1) := by decide +kernel
theorem dL_law_1121 : decode cL_law 1121 = .ok (.iadd, 1) := by decide +kernel
theorem dL_law_1122 : decode cL_law 1122 = .ok (.iaload, 1) := by decide +kernel
theorem dL_law_1123 : decode cL_law 1123 = .ok (.aload_n 0, 1) := by decide +kernel
theorem dL_law_1124 : decode cL_law 1124 = .ok (.iload_n 3, 1) := by decide +kernel
theorem dL_law_1125 : decode cL_law 1125 = .ok (.iconst 3, 1) := by decide +kernel
theorem dL_law_1126 : decode cL_law 1126 = .ok (.iadd, 1) := by decide +kernel
theorem dL_law_1127 : decode cL_law 1127 = .ok (.iaload, 1) := by decide +kernel
theorem dL_law_1128 : decode cL_law 1128 = .ok (.invokevirtual 146, 3) := by decide +kernel
theorem dL_law_1131 : decode cL_law 1131 = .ok (.if_icmp .eq 203, 3) := by decide +kernel
theorem dL_law_1134 : decode cL_law 1134 = .ok (.iconst 0, 1) := by decide +kernel
theorem dL_law_1135 : decode cL_law 1135 = .ok (.ireturn, 1) := by decide +kernel
theorem dL_law_1136 : decode cL_law 1136 = .ok (.aload_n 1, 1) := by decide +kernel
theorem dL_law_1137 : decode cL_law 1137 = .ok (.aload_n 0, 1) := by decide +kernel
theorem dL_law_1138 : decode cL_law 1138 = .ok (.iload_n 3, 1) := by decide +kernel
theorem dL_law_1139 : decode cL_law 1139 = .ok (.iconst 1, 1) := by decide +kernel
theorem dL_law_1140 : decode cL_law 1140 = .ok (.iadd, 1) := by decide +kernel
theorem dL_law_1141 : decode cL_law 1141 = .ok (.iaload, 1) := by decide +kernel
theorem dL_law_1142 : decode cL_law 1142 = .ok (.aload_n 0, 1) := by decide +kernel
theorem dL_law_1143 : decode cL_law 1143 = .ok (.iload_n 3, 1) := by decide +kernel
theorem dL_law_1144 : decode cL_law 1144 = .ok (.iconst 2, 1) := by decide +kernel
theorem dL_law_1145 : decode cL_law 1145 = .ok (.iadd, 1) := by decide +kernel
theorem dL_law_1146 : decode cL_law 1146 = .ok (.iaload, 1) := by decide +kernel
theorem dL_law_1147 : decode cL_law 1147 = .ok (.aload_n 0, 1) := by decide +kernel
theorem dL_law_1148 : decode cL_law 1148 = .ok (.iload_n 3, 1) := by decide +kernel
theorem dL_law_1149 : decode cL_law 1149 = .ok (.iconst 3, 1) := by decide +kernel
theorem dL_law_1150 : decode cL_law 1150 = .ok (.iadd, 1) := by decide +kernel
theorem dL_law_1151 : decode cL_law 1151 = .ok (.iaload, 1) := by decide +kernel
theorem dL_law_1152 : decode cL_law 1152 = .ok (.invokevirtual 147, 3) := by decide +kernel
theorem dL_law_1155 : decode cL_law 1155 = .ok (.aload_n 2, 1) := by decide +kernel
theorem dL_law_1156 : decode cL_law 1156 = .ok (.aload_n 0, 1) := by decide +kernel
theorem dL_law_1157 : decode cL_law 1157 = .ok (.iload_n 3, 1) := by decide +kernel
theorem dL_law_1158 : decode cL_law 1158 = .ok (.iconst 1, 1) := by decide +kernel
theorem dL_law_1159 : decode cL_law 1159 = .ok (.iadd, 1) := by decide +kernel
theorem dL_law_1160 : decode cL_law 1160 = .ok (.iaload, 1) := by decide +kernel
theorem dL_law_1161 : decode cL_law 1161 = .ok (.aload_n 0, 1) := by decide +kernel
theorem dL_law_1162 : decode cL_law 1162 = .ok (.iload_n 3, 1) := by decide +kernel
theorem dL_law_1163 : decode cL_law 1163 = .ok (.iconst 2, 1) := by decide +kernel
theorem dL_law_1164 : decode cL_law 1164 = .ok (.iadd, 1) := by decide +kernel
theorem dL_law_1165 : decode cL_law 1165 = .ok (.iaload, 1) := by decide +kernel
theorem dL_law_1166 : decode cL_law 1166 = .ok (.aload_n 0, 1) := by decide +kernel
theorem dL_law_1167 : decode cL_law 1167 = .ok (.iload_n 3, 1) := by decide +kernel
theorem dL_law_1168 : decode cL_law 1168 = .ok (.iconst 3, 1) := by decide +kernel
theorem dL_law_1169 : decode cL_law 1169 = .ok (.iadd, 1) := by decide +kernel
theorem dL_law_1170 : decode cL_law 1170 = .ok (.iaload, 1) := by decide +kernel
theorem dL_law_1171 : decode cL_law 1171 = .ok (.invokevirtual 150, 3) := by decide +kernel
theorem dL_law_1174 : decode cL_law 1174 = .ok (.if_icmp .eq 160, 3) := by decide +kernel
theorem dL_law_1177 : decode cL_law 1177 = .ok (.iconst 0, 1) := by decide +kernel
theorem dL_law_1178 : decode cL_law 1178 = .ok (.ireturn, 1) := by decide +kernel
theorem dL_law_1179 : decode cL_law 1179 = .ok (.aload_n 1, 1) := by decide +kernel
theorem dL_law_1180 : decode cL_law 1180 = .ok (.aload_n 0, 1) := by decide +kernel
theorem dL_law_1181 : decode cL_law 1181 = .ok (.iload_n 3, 1) := by decide +kernel
theorem dL_law_1182 : decode cL_law 1182 = .ok (.iconst 1, 1) := by decide +kernel
theorem dL_law_1183 : decode cL_law 1183 = .ok (.iadd, 1) := by decide +kernel
theorem dL_law_1184 : decode cL_law 1184 = .ok (.iaload, 1) := by decide +kernel
theorem dL_law_1185 : decode cL_law 1185 = .ok (.aload_n 0, 1) := by decide +kernel
theorem dL_law_1186 : decode cL_law 1186 = .ok (.iload_n 3, 1) := by decide +kernel
theorem dL_law_1187 : decode cL_law 1187 = .ok (.iconst 2, 1) := by decide +kernel
theorem dL_law_1188 : decode cL_law 1188 = .ok (.iadd, 1) := by decide +kernel
theorem dL_law_1189 : decode cL_law 1189 = .ok (.iaload, 1) := by decide +kernel
theorem dL_law_1190 : decode cL_law 1190 = .ok (.aload_n 0, 1) := by decide +kernel
theorem dL_law_1191 : decode cL_law 1191 = .ok (.iload_n 3, 1) := by decide +kernel
theorem dL_law_1192 : decode cL_law 1192 = .ok (.iconst 3, 1) := by decide +kernel
theorem dL_law_1193 : decode cL_law 1193 = .ok (.iadd, 1) := by decide +kernel
theorem dL_law_1194 : decode cL_law 1194 = .ok (.iaload, 1) := by decide +kernel
theorem dL_law_1195 : decode cL_law 1195 = .ok (.invokevirtual 151, 3) := by decide +kernel
theorem dL_law_1198 : decode cL_law 1198 = .ok (.aload_n 2, 1) := by decide +kernel
theorem dL_law_1199 : decode cL_law 1199 = .ok (.aload_n 0, 1) := by decide +kernel
theorem dL_law_1200 : decode cL_law 1200 = .ok (.iload_n 3, 1) := by decide +kernel
theorem dL_law_1201 : decode cL_law 1201 = .ok (.iconst 1, 1) := by decide +kernel
theorem dL_law_1202 : decode cL_law 1202 = .ok (.iadd, 1) := by decide +kernel
theorem dL_law_1203 : decode cL_law 1203 = .ok (.iaload, 1) := by decide +kernel
theorem dL_law_1204 : decode cL_law 1204 = .ok (.aload_n 0, 1) := by decide +kernel
theorem dL_law_1205 : decode cL_law 1205 = .ok (.iload_n 3, 1) := by decide +kernel
theorem dL_law_1206 : decode cL_law 1206 = .ok (.iconst 2, 1) := by decide +kernel
theorem dL_law_1207 : decode cL_law 1207 = .ok (.iadd, 1) := by decide +kernel
theorem dL_law_1208 : decode cL_law 1208 = .ok (.iaload, 1) := by decide +kernel
theorem dL_law_1209 : decode cL_law 1209 = .ok (.aload_n 0, 1) := by decide +kernel
theorem dL_law_1210 : decode cL_law 1210 = .ok (.iload_n 3, 1) := by decide +kernel
theorem dL_law_1211 : decode cL_law 1211 = .ok (.iconst 3, 1) := by decide +kernel
theorem dL_law_1212 : decode cL_law 1212 = .ok (.iadd, 1) := by decide +kernel
theorem dL_law_1213 : decode cL_law 1213 = .ok (.iaload, 1) := by decide +kernel
theorem dL_law_1214 : decode cL_law 1214 = .ok (.invokevirtual 154, 3) := by decide +kernel
theorem dL_law_1217 : decode cL_law 1217 = .ok (.if_icmp .eq 117, 3) := by decide +kernel
theorem dL_law_1220 : decode cL_law 1220 = .ok (.iconst 0, 1) := by decide +kernel
theorem dL_law_1221 : decode cL_law 1221 = .ok (.ireturn, 1) := by decide +kernel
theorem dL_law_1222 : decode cL_law 1222 = .ok (.aload_n 1, 1) := by decide +kernel
theorem dL_law_1223 : decode cL_law 1223 = .ok (.aload_n 0, 1) := by decide +kernel
theorem dL_law_1224 : decode cL_law 1224 = .ok (.iload_n 3, 1) := by decide +kernel
theorem dL_law_1225 : decode cL_law 1225 = .ok (.iconst 1, 1) := by decide +kernel
theorem dL_law_1226 : decode cL_law 1226 = .ok (.iadd, 1) := by decide +kernel
theorem dL_law_1227 : decode cL_law 1227 = .ok (.iaload, 1) := by decide +kernel
theorem dL_law_1228 : decode cL_law 1228 = .ok (.aload_n 0, 1) := by decide +kernel
theorem dL_law_1229 : decode cL_law 1229 = .ok (.iload_n 3, 1) := by decide +kernel
theorem dL_law_1230 : decode cL_law 1230 = .ok (.iconst 2, 1) := by decide +kernel
theorem dL_law_1231 : decode cL_law 1231 = .ok (.iadd, 1) := by decide +kernel
theorem dL_law_1232 : decode cL_law 1232 = .ok (.iaload, 1) := by decide +kernel
theorem dL_law_1233 : decode cL_law 1233 = .ok (.invokevirtual 155, 3) := by decide +kernel
theorem dL_law_1236 : decode cL_law 1236 = .ok (.aload_n 2, 1) := by decide +kernel
theorem dL_law_1237 : decode cL_law 1237 = .ok (.aload_n 0, 1) := by decide +kernel
theorem dL_law_1238 : decode cL_law 1238 = .ok (.iload_n 3, 1) := by decide +kernel
theorem dL_law_1239 : decode cL_law 1239 = .ok (.iconst 1, 1) := by decide +kernel
theorem dL_law_1240 : decode cL_law 1240 = .ok (.iadd, 1) := by decide +kernel
theorem dL_law_1241 : decode cL_law 1241 = .ok (.iaload, 1) := by decide +kernel
theorem dL_law_1242 : decode cL_law 1242 = .ok (.aload_n 0, 1) := by decide +kernel
theorem dL_law_1243 : decode cL_law 1243 = .ok (.iload_n 3, 1) := by decide +kernel
theorem dL_law_1244 : decode cL_law 1244 = .ok (.iconst 2, 1) := by decide +kernel
theorem dL_law_1245 : decode cL_law 1245 = .ok (.iadd, 1) := by decide +kernel
theorem dL_law_1246 : decode cL_law 1246 = .ok (.iaload, 1) := by decide +kernel
theorem dL_law_1247 : decode cL_law 1247 = .ok (.invokevirtual 158, 3) := by decide +kernel
theorem dL_law_1250 : decode cL_law 1250 = .ok (.if_icmp .eq 84, 3) := by decide +kernel
theorem dL_law_1253 : decode cL_law 1253 = .ok (.iconst 0, 1) := by decide +kernel
theorem dL_law_1254 : decode cL_law 1254 = .ok (.ireturn, 1) := by decide +kernel
theorem dL_law_1255 : decode cL_law 1255 = .ok (.aload_n 1, 1) := by decide +kernel
theorem dL_law_1256 : decode cL_law 1256 = .ok (.aload_n 0, 1) := by decide +kernel
theorem dL_law_1257 : decode cL_law 1257 = .ok (.iload_n 3, 1) := by decide +kernel
theorem dL_law_1258 : decode cL_law 1258 = .ok (.iconst 1, 1) := by decide +kernel
theorem dL_law_1259 : decode cL_law 1259 = .ok (.iadd, 1) := by decide +kernel
theorem dL_law_1260 : decode cL_law 1260 = .ok (.iaload, 1) := by decide +kernel
theorem dL_law_1261 : decode cL_law 1261 = .ok (.aload_n 0, 1) := by decide +kernel
theorem dL_law_1262 : decode cL_law 1262 = .ok (.iload_n 3, 1) := by decide +kernel
theorem dL_law_1263 : decode cL_law 1263 = .ok (.iconst 2, 1) := by decide +kernel
theorem dL_law_1264 : decode cL_law 1264 = .ok (.iadd, 1) := by decide +kernel
theorem dL_law_1265 : decode cL_law 1265 = .ok (.iaload, 1) := by decide +kernel
theorem dL_law_1266 : decode cL_law 1266 = .ok (.invokevirtual 159, 3) := by decide +kernel
theorem dL_law_1269 : decode cL_law 1269 = .ok (.aload_n 2, 1) := by decide +kernel
theorem dL_law_1270 : decode cL_law 1270 = .ok (.aload_n 0, 1) := by decide +kernel
theorem dL_law_1271 : decode cL_law 1271 = .ok (.iload_n 3, 1) := by decide +kernel
theorem dL_law_1272 : decode cL_law 1272 = .ok (.iconst 1, 1) := by decide +kernel
theorem dL_law_1273 : decode cL_law 1273 = .ok (.iadd, 1) := by decide +kernel
theorem dL_law_1274 : decode cL_law 1274 = .ok (.iaload, 1) := by decide +kernel
theorem dL_law_1275 : decode cL_law 1275 = .ok (.aload_n 0, 1) := by decide +kernel
theorem dL_law_1276 : decode cL_law 1276 = .ok (.iload_n 3, 1) := by decide +kernel
theorem dL_law_1277 : decode cL_law 1277 = .ok (.iconst 2, 1) := by decide +kernel
theorem dL_law_1278 : decode cL_law 1278 = .ok (.iadd, 1) := by decide +kernel
theorem dL_law_1279 : decode cL_law 1279 = .ok (.iaload, 1) := by decide +kernel
theorem dL_law_1280 : decode cL_law 1280 = .ok (.invokevirtual 162, 3) := by decide +kernel
theorem dL_law_1283 : decode cL_law 1283 = .ok (.if_icmp .eq 51, 3) := by decide +kernel
theorem dL_law_1286 : decode cL_law 1286 = .ok (.iconst 0, 1) := by decide +kernel
theorem dL_law_1287 : decode cL_law 1287 = .ok (.ireturn, 1) := by decide +kernel
theorem dL_law_1288 : decode cL_law 1288 = .ok (.aload_n 1, 1) := by decide +kernel
theorem dL_law_1289 : decode cL_law 1289 = .ok (.aload_n 0, 1) := by decide +kernel
theorem dL_law_1290 : decode cL_law 1290 = .ok (.iload_n 3, 1) := by decide +kernel
theorem dL_law_1291 : decode cL_law 1291 = .ok (.iconst 1, 1) := by decide +kernel
theorem dL_law_1292 : decode cL_law 1292 = .ok (.iadd, 1) := by decide +kernel
theorem dL_law_1293 : decode cL_law 1293 = .ok (.iaload, 1) := by decide +kernel
theorem dL_law_1294 : decode cL_law 1294 = .ok (.invokevirtual 163, 3) := by decide +kernel
theorem dL_law_1297 : decode cL_law 1297 = .ok (.aload_n 2, 1) := by decide +kernel
theorem dL_law_1298 : decode cL_law 1298 = .ok (.aload_n 0, 1) := by decide +kernel
theorem dL_law_1299 : decode cL_law 1299 = .ok (.iload_n 3, 1) := by decide +kernel
theorem dL_law_1300 : decode cL_law 1300 = .ok (.iconst 1, 1) := by decide +kernel
theorem dL_law_1301 : decode cL_law 1301 = .ok (.iadd, 1) := by decide +kernel
theorem dL_law_1302 : decode cL_law 1302 = .ok (.iaload, 1) := by decide +kernel
theorem dL_law_1303 : decode cL_law 1303 = .ok (.invokevirtual 166, 3) := by decide +kernel
theorem dL_law_1306 : decode cL_law 1306 = .ok (.if_icmp .eq 28, 3) := by decide +kernel
theorem dL_law_1309 : decode cL_law 1309 = .ok (.iconst 0, 1) := by decide +kernel
theorem dL_law_1310 : decode cL_law 1310 = .ok (.ireturn, 1) := by decide +kernel
theorem dL_law_1311 : decode cL_law 1311 = .ok (.aload_n 1, 1) := by decide +kernel
theorem dL_law_1312 : decode cL_law 1312 = .ok (.aload_n 0, 1) := by decide +kernel
theorem dL_law_1313 : decode cL_law 1313 = .ok (.iload_n 3, 1) := by decide +kernel
theorem dL_law_1314 : decode cL_law 1314 = .ok (.iconst 1, 1) := by decide +kernel
theorem dL_law_1315 : decode cL_law 1315 = .ok (.iadd, 1) := by decide +kernel
theorem dL_law_1316 : decode cL_law 1316 = .ok (.iaload, 1) := by decide +kernel
theorem dL_law_1317 : decode cL_law 1317 = .ok (.invokevirtual 167, 3) := by decide +kernel
theorem dL_law_1320 : decode cL_law 1320 = .ok (.aload_n 2, 1) := by decide +kernel
theorem dL_law_1321 : decode cL_law 1321 = .ok (.aload_n 0, 1) := by decide +kernel
theorem dL_law_1322 : decode cL_law 1322 = .ok (.iload_n 3, 1) := by decide +kernel
theorem dL_law_1323 : decode cL_law 1323 = .ok (.iconst 1, 1) := by decide +kernel
theorem dL_law_1324 : decode cL_law 1324 = .ok (.iadd, 1) := by decide +kernel
theorem dL_law_1325 : decode cL_law 1325 = .ok (.iaload, 1) := by decide +kernel
theorem dL_law_1326 : decode cL_law 1326 = .ok (.invokevirtual 170, 3) := by decide +kernel
theorem dL_law_1329 : decode cL_law 1329 = .ok (.if_icmp .eq 5, 3) := by decide +kernel
theorem dL_law_1332 : decode cL_law 1332 = .ok (.iconst 0, 1) := by decide +kernel
theorem dL_law_1333 : decode cL_law 1333 = .ok (.ireturn, 1) := by decide +kernel
theorem dL_law_1334 : decode cL_law 1334 = .ok (.iinc 3 6, 3) := by decide +kernel
theorem dL_law_1337 : decode cL_law 1337 = .ok (.goto (-1319), 3) := by decide +kernel
theorem dL_law_1340 : decode cL_law 1340 = .ok (.iconst 1, 1) := by decide +kernel
theorem dL_law_1341 : decode cL_law 1341 = .ok (.ireturn, 1) := by decide +kernel
end
section
abbrev zAV : Type := Int32 ⊕ (Int64 ⊕ ((Nat × Nat) ⊕ Nat))
abbrev zI (x : Int32) : zAV := .inl x
abbrev zL (x : Int64) : zAV := .inr (.inl x)
abbrev zA (i n : Nat) : zAV := .inr (.inr (.inl (i, n)))
abbrev zO (i : Nat) : zAV := .inr (.inr (.inr i))
abbrev zM : Type := Nat → Nat → Int32
/-- an object of a class with its fields (an int, or a reference that stays), a row of rows, a row -/
abbrev zK : Type := (Nat × List (Option zAV)) ⊕ ((Nat × Nat × Nat) ⊕ Nat)
def zlayL : List zK := [.inl (8, [some (zO 1), some (zO 2), some (zO 3), some (zO 4), some (zO 5), some (zO 6), some (zO 7), some (zO 8)]),
  .inl (2, [some (zA 10 8), some (zO 11), some (zA 20 8), some (zA 21 8), none]),
  .inl (7, [some (zO 1), some (zA 22 24), some (zA 23 24), some (zA 24 24), none]),
  .inl (6, [some (zO 1), some (zO 25), some (zO 29), some (zA 33 12), none, some (zA 34 10), some (zA 35 10), some (zA 36 12)]),
  .inl (4, [some (zA 37 5), some (zO 38)]),
  .inl (1, [some (zO 4), some (zA 44 16), none]),
  .inl (5, [some (zO 4), some (zA 45 3), some (zA 46 3), some (zO 47), none, none, none, some (zO 51), some (zA 68 16), none, some (zA 69 16)]),
  .inl (3, [some (zA 70 6), some (zA 71 6), some (zA 72 6), some (zA 73 6), none, none, none]),
  .inl (0, [some (zA 74 9)]),
  .inl (9, [some (zA 75 8), some (zA 76 32), some (zA 77 8), some (zA 78 8), none, none, some (zA 79 24), some (zA 80 24), some (zA 81 24), some (zA 82 24), some (zA 83 27), none, some (zA 84 12), some (zA 85 130), some (zA 86 5), some (zA 87 20), none, some (zA 88 16), none, none, none, some (zA 89 3), some (zA 90 192), some (zA 91 1296), some (zA 92 153), some (zA 93 16), some (zA 94 6), some (zA 95 6), some (zA 96 6), some (zA 97 6), none, none, none, some (zA 98 9)]),
  .inr (.inr 8),
  .inr (.inl (12, 8, 4)),
  .inr (.inr 4),
  .inr (.inr 4),
  .inr (.inr 4),
  .inr (.inr 4),
  .inr (.inr 4),
  .inr (.inr 4),
  .inr (.inr 4),
  .inr (.inr 4),
  .inr (.inr 8),
  .inr (.inr 8),
  .inr (.inr 24),
  .inr (.inr 24),
  .inr (.inr 24),
  .inr (.inl (26, 3, 8)),
  .inr (.inr 8),
  .inr (.inr 8),
  .inr (.inr 8),
  .inr (.inl (30, 3, 9)),
  .inr (.inr 9),
  .inr (.inr 9),
  .inr (.inr 9),
  .inr (.inr 12),
  .inr (.inr 10),
  .inr (.inr 10),
  .inr (.inr 12),
  .inr (.inr 5),
  .inr (.inl (39, 5, 4)),
  .inr (.inr 4),
  .inr (.inr 4),
  .inr (.inr 4),
  .inr (.inr 4),
  .inr (.inr 4),
  .inr (.inr 16),
  .inr (.inr 3),
  .inr (.inr 3),
  .inr (.inl (48, 3, 64)),
  .inr (.inr 64),
  .inr (.inr 64),
  .inr (.inr 64),
  .inr (.inl (52, 16, 9)),
  .inr (.inr 9),
  .inr (.inr 9),
  .inr (.inr 9),
  .inr (.inr 9),
  .inr (.inr 9),
  .inr (.inr 9),
  .inr (.inr 9),
  .inr (.inr 9),
  .inr (.inr 9),
  .inr (.inr 9),
  .inr (.inr 9),
  .inr (.inr 9),
  .inr (.inr 9),
  .inr (.inr 9),
  .inr (.inr 9),
  .inr (.inr 9),
  .inr (.inr 16),
  .inr (.inr 16),
  .inr (.inr 6),
  .inr (.inr 6),
  .inr (.inr 6),
  .inr (.inr 6),
  .inr (.inr 9),
  .inr (.inr 8),
  .inr (.inr 32),
  .inr (.inr 8),
  .inr (.inr 8),
  .inr (.inr 24),
  .inr (.inr 24),
  .inr (.inr 24),
  .inr (.inr 24),
  .inr (.inr 27),
  .inr (.inr 12),
  .inr (.inr 130),
  .inr (.inr 5),
  .inr (.inr 20),
  .inr (.inr 16),
  .inr (.inr 3),
  .inr (.inr 192),
  .inr (.inr 1296),
  .inr (.inr 153),
  .inr (.inr 16),
  .inr (.inr 6),
  .inr (.inr 6),
  .inr (.inr 6),
  .inr (.inr 6),
  .inr (.inr 9)]
def zlay (i : Nat) : zK := zlayL.getD i (.inr (.inr 0))
def zNW : List Cond := [.methodLinkNest RX2 30 yX8_nibble "PiperHouse", .methodLinkNest RX2 34 yX8_hasBit "PiperHouse", .methodLinkNest RX6 90 yX8_hasBit "PiperHouse", .methodLinkNest RX4 20 yX8_nibble "PiperHouse", .methodLinkNest RX4 30 yX8_hasBit "PiperHouse", .methodLinkNest RX3 40 yX8_hasBit "PiperHouse"]
def zU : List Cond := lw_tbl.filter goodWord
end
section
/-! ===== the pure machine: memory M (row or object, place) over a fixed layout; zS: 'from here the method returns r' ===== -/
def zcv (ad : Nat → Nat) : zAV → Value
  | .inl x => .int x
  | .inr (.inl x) => .long x
  | .inr (.inr (.inl q)) => .ref (ad q.1)
  | .inr (.inr (.inr i)) => .ref (ad i)
def zfv (ad : Nat → Nat) (M : zM) (i j : Nat) : Option zAV → Value
  | none => .int (M i j)
  | some v => zcv ad v
def zEk (cI cG : ClassId) (ad : Nat → Nat) (M : zM) (i : Nat) : zK → va_E
  | .inl o => .inr (o.1, o.2.mapIdx (fun j f => zfv ad M i j f))
  | .inr (.inl g) => .inl (cG, g.2.1, .inr (.inr (.inr (.inr (fun k => if k < g.2.1 then some (ad (g.1 + k)) else none)))))
  | .inr (.inr n) => .inl (cI, n, .inl (M i))
def zE (cI cG : ClassId) (ad : Nat → Nat) (M : zM) (i : Nat) : va_E := zEk cI cG ad M i (zlay i)
def zW (cI cG : ClassId) (ad : Nat → Nat) (ids : List Nat) (M : zM) : va_W := ids.map (fun i => (ad i, zE cI cG ad M i))
def zset (M : zM) (i j : Nat) (x : Int32) : zM := fun a b => if a = i ∧ b = j then x else M a b
def zok (ids : List Nat) : zAV → Prop
  | .inl _ => True
  | .inr (.inl _) => True
  | .inr (.inr (.inl q)) => q.1 ∈ ids ∧ zlay q.1 = .inr (.inr q.2)
  | .inr (.inr (.inr i)) => i ∈ ids
def zclk (ids : List Nat) : zK → Prop
  | .inl o => ∀ v, some v ∈ o.2 → zok ids v
  | .inr (.inl g) => ∀ k, k < g.2.1 → zok ids (zA (g.1 + k) g.2.2)
  | .inr (.inr _) => True
def zcl (ids : List Nat) : Prop := ∀ i ∈ ids, zclk ids (zlay i)
/-- a method: name, bytes, locals, what it returns, how deep its calls go -/
abbrev zY : Type := MethodName × ByteArray × Nat × Option FieldType × Nat
def zlv (ad : Nat → Nat) : Nat → List (Option zAV) → List (Nat × Value)
  | _, [] => []
  | i, none :: r => zlv ad (i + 1) r
  | i, some v :: r => (i, zcv ad v) :: zlv ad (i + 1) r
theorem zlv_mem (ad : Nat → Nat) : ∀ (ls : List (Option zAV)) (k : Nat) (q : Nat × Value), q ∈ zlv ad k ls ↔ ∃ j v, ls[j]? = some (some v) ∧ q = (k + j, zcv ad v)
  | [], k, q => by simp [zlv]
  | none :: r, k, q => by
    rw [zlv, zlv_mem ad r (k + 1) q]
    constructor
    · rintro ⟨j, v, h, rfl⟩
      exact ⟨j + 1, v, by simpa using h, by rw [show k + (j + 1) = k + 1 + j by omega]⟩
    · rintro ⟨j, v, h, rfl⟩
      cases j with
      | zero => simp at h
      | succ j => exact ⟨j, v, by simpa using h, by rw [show k + (j + 1) = k + 1 + j by omega]⟩
  | some w :: r, k, q => by
    rw [zlv, List.mem_cons, zlv_mem ad r (k + 1) q]
    constructor
    · rintro (rfl | ⟨j, v, h, rfl⟩)
      · exact ⟨0, w, by simp, rfl⟩
      · exact ⟨j + 1, v, by simpa using h, by rw [show k + (j + 1) = k + 1 + j by omega]⟩
    · rintro ⟨j, v, h, rfl⟩
      cases j with
      | zero =>
        simp at h
        subst h
        exact Or.inl rfl
      | succ j => exact Or.inr ⟨j, v, by simpa using h, by rw [show k + (j + 1) = k + 1 + j by omega]⟩
theorem zlv_at {ad : Nat → Nat} {ls : List (Option zAV)} {Ls : Array Slot} {n i : Nat} {v : zAV} (h : lv_has Ls n (zlv ad 0 ls)) (hi : ls[i]? = some (some v)) : Ls[i]? = some (.val (zcv ad v)) :=
  h.2.2 (i, zcv ad v) ((zlv_mem ad ls 0 _).mpr ⟨i, v, hi, by rw [Nat.zero_add]⟩)
def zC (Y : zY) (D : va_G) (cI cG : ClassId) (ids : List Nat) (A : Nat → Prop) (p : Program) (s : State) (m : MethodId) (args : Array Value) (c : Code) : Prop :=
  p.tables.exec = Jvm.exec ∧ c.code = Y.2.1 ∧ c.maxLocals = Y.2.2.1 ∧ s.vm.findClass Y.1.cls = some m.cls ∧ (∀ w ∈ zU, w.before args s = true) ∧ (∀ w ∈ zNW, va_Nw w s) ∧ va_K D vwCl [(cI, .int), (cG, .array .int)] s ∧ zcl ids ∧ ∀ q, s.heap.size ≤ q → A q
def zB (D : va_G) (cI cG : ClassId) (ad : Nat → Nat) (ids : List Nat) (A : Nat → Prop) (s : State) (M : zM) (H : Heap) (locs : List Loc) : Prop :=
  va_P D vwCl (zW cI cG ad ids M) H ∧ va_D A (zW cI cG ad ids M) ∧ va_S A s.heap H locs
def zF (ad : Nat → Nat) (ids : List Nat) (n : Nat) (Ls : Array Slot) (ls : List (Option zAV)) (st : List zAV) : Prop :=
  lv_has Ls n (zlv ad 0 ls) ∧ (∀ v, some v ∈ ls → zok ids v) ∧ ∀ v ∈ st, zok ids v
/-- which return instruction hands v back -/
def zend (Y : zY) (pc : Nat) : Option Int32 → Prop
  | none => decode Y.2.1 pc = .ok (.return_, 1)
  | some v => decode Y.2.1 pc = .ok (.ireturn, 1) ∧ ∀ ty, Y.2.2.2.1 = some ty → narrow ty (.int v) = .int v
def zS (Y : zY) (pc : Nat) (ls : List (Option zAV)) (st : List zAV) (M : zM) (r : Option Int32 × zM) : Prop :=
  ∀ (l : Launch) (D : va_G) (cI cG : ClassId) (ad : Nat → Nat) (ids : List Nat) (A : Nat → Prop) (p : Program) (e : Env) (s : State) (m : MethodId) (args : Array Value) (below : List Frame) (meth : Method) (c : Code) (R : Room) (cells slots : Nat) (Q : State → Prop) (H : Heap) (locs : List Loc) (Ls : Array Slot),
    zC Y D cI cG ids A p s m args c → zB D cI cG ad ids A s M H locs → zF ad ids Y.2.2.1 Ls ls st →
    (Y.2.2.2.2 ≤ R.frames ∧ 33 * Y.2.2.2.2 ≤ R.locals ∧ cells ≤ R.cells ∧ slots ≤ R.slots) →
    (∀ (H' : Heap) (locs' : List Loc) (Ls' : Array Slot) (pc' : Nat), zB D cI cG ad ids A s r.2 H' locs' → zend Y pc' r.1 → W p l e R s m args below meth c H' locs' cells slots Q (F0 m pc' Ls' (r.1.toList.map Value.int))) →
    W p l e R s m args below meth c H locs cells slots Q (F0 m pc Ls (st.map (zcv ad)))
section ZR
variable {Y : zY} {pc : Nat} {ls : List (Option zAV)} {st : List zAV} {M : zM} {r : Option Int32 × zM}
theorem zF.tl {ad : Nat → Nat} {ids : List Nat} {n : Nat} {Ls : Array Slot} {v : zAV} (h : zF ad ids n Ls ls (v :: st)) : zF ad ids n Ls ls st := ⟨h.1, h.2.1, fun w hw => h.2.2 w (List.mem_cons_of_mem _ hw)⟩
theorem zF.hd {ad : Nat → Nat} {ids : List Nat} {n : Nat} {Ls : Array Slot} {v : zAV} (h : zF ad ids n Ls ls (v :: st)) : zok ids v := h.2.2 v List.mem_cons_self
theorem zF.push {ad : Nat → Nat} {ids : List Nat} {n : Nat} {Ls : Array Slot} {v : zAV} (h : zF ad ids n Ls ls st) (hv : zok ids v) : zF ad ids n Ls ls (v :: st) := ⟨h.1, h.2.1, fun w hw => (List.mem_cons.mp hw).elim (fun e => e ▸ hv) (h.2.2 w)⟩
theorem zF.at {ad : Nat → Nat} {ids : List Nat} {n : Nat} {Ls : Array Slot} {v : zAV} {i : Nat} (h : zF ad ids n Ls ls st) (hi : ls[i]? = some (some v)) : zok ids v := h.2.1 v (List.mem_of_getElem? hi)
theorem zF.set {ad : Nat → Nat} {ids : List Nat} {n : Nat} {Ls Ls' : Array Slot} {v : zAV} {i : Nat} {lv' : List (Nat × Value)} (h : zF ad ids n Ls ls st) (hv : zok ids v) (hlv : lv' = (i, zcv ad v) :: (zlv ad 0 ls).filter (fun q => !(q.1 == i) && !(q.1 + 1 == i && q.2.category == 2))) (hpre : ∀ x, i ≠ 0 → ls[i - 1]? ≠ some (some (zL x))) (h' : lv_has Ls' n lv') : zF ad ids n Ls' (ls.set i (some v)) st := by
  refine ⟨⟨h'.1, h'.2.1, fun q hq => ?_⟩, fun w hw => ?_, h.2.2⟩
  · obtain ⟨j, w, hj, rfl⟩ := (zlv_mem ad _ 0 q).mp hq
    apply h'.2.2
    rw [hlv]
    by_cases hji : j = i
    · subst hji
      have hl : j < ls.length := by
        have := (List.getElem?_eq_some_iff.mp hj).1
        simpa using this
      rw [List.getElem?_set_self hl] at hj
      cases hj
      simp
    · rw [List.getElem?_set_ne (Ne.symm hji)] at hj
      refine List.mem_cons_of_mem _ (List.mem_filter.mpr ⟨(zlv_mem ad ls 0 _).mpr ⟨j, w, hj, rfl⟩, ?_⟩)
      simp only [Nat.zero_add, Bool.and_eq_true, Bool.not_eq_true', beq_eq_false_iff_ne, ne_eq, Bool.and_eq_false_iff]
      refine ⟨hji, ?_⟩
      by_cases h1 : j + 1 = i
      · right
        intro hc
        have hc2 : (zcv ad w).category = 2 := by simpa using hc
        subst h1
        match w, hj, hc2 with
        | .inl _, _, hc2 => cases hc2
        | .inr (.inl x), hj, _ => exact hpre x (by omega) (by simpa using hj)
        | .inr (.inr (.inl _)), _, hc2 => cases hc2
        | .inr (.inr (.inr _)), _, hc2 => cases hc2
      · left
        exact h1
  · rcases List.mem_or_eq_of_mem_set hw with h1 | h1
    · exact h.2.1 w h1
    · cases h1
      exact hv
/-- no long stands just ahead of the place; no long among these -/
def zpre (ls : List (Option zAV)) : Nat → Bool
  | 0 => true
  | j + 1 => match ls[j]? with
    | some (some (.inr (.inl _))) => false
    | _ => true
theorem zpre_spec {i : Nat} (h : zpre ls i = true) : ∀ x, i ≠ 0 → ls[i - 1]? ≠ some (some (zL x)) := by
  intro x hi hc
  cases i with
  | zero => exact hi rfl
  | succ j =>
    rw [Nat.add_sub_cancel] at hc
    rw [zpre, hc] at h
    cases h
def zno : List zAV → Bool
  | [] => true
  | .inl _ :: r => zno r
  | .inr (.inl _) :: _ => false
  | .inr (.inr _) :: r => zno r
theorem zno_spec : ∀ {as : List zAV}, zno as = true → ∀ v ∈ as, ∀ x, v ≠ zL x
  | [], _, v, hv, _ => by cases hv
  | .inl _ :: r, h, v, hv, x => (List.mem_cons.mp hv).elim (fun e => by subst e; simp) (fun h2 => zno_spec (as := r) h v h2 x)
  | .inr (.inl _) :: r, h, v, hv, x => by cases h
  | .inr (.inr (.inl _)) :: r, h, v, hv, x => (List.mem_cons.mp hv).elim (fun e => by subst e; simp) (fun h2 => zno_spec (as := r) h v h2 x)
  | .inr (.inr (.inr _)) :: r, h, v, hv, x => (List.mem_cons.mp hv).elim (fun e => by subst e; simp) (fun h2 => zno_spec (as := r) h v h2 x)
/-- fewer locals are known -/
def zle : List (Option zAV) → List (Option zAV) → Prop
  | [], _ => True
  | none :: r, [] => zle r []
  | none :: r, _ :: s => zle r s
  | some v :: r, some w :: s => v = w ∧ zle r s
  | some _ :: _, _ => False
theorem zle_at : ∀ {ls' ls : List (Option zAV)}, zle ls' ls → ∀ (j : Nat) (v : zAV), ls'[j]? = some (some v) → ls[j]? = some (some v)
  | [], _, _, j, v, h => by simp at h
  | none :: r, [], hl, j, v, h => by
    cases j with
    | zero => simp at h
    | succ j =>
      have := zle_at (ls' := r) (ls := []) hl j v (by simpa using h)
      simp at this
  | none :: r, _ :: s, hl, j, v, h => by
    cases j with
    | zero => simp at h
    | succ j => simpa using zle_at (ls' := r) (ls := s) hl j v (by simpa using h)
  | some a :: r, some w :: s, hl, j, v, h => by
    cases j with
    | zero =>
      simp at h ⊢
      rw [← h, hl.1]
    | succ j => simpa using zle_at (ls' := r) (ls := s) hl.2 j v (by simpa using h)
  | some a :: r, [], hl, j, v, h => hl.elim
  | some a :: r, none :: s, hl, j, v, h => hl.elim
theorem zS_wk (ls' : List (Option zAV)) (hl : zle ls' ls) (k : zS Y pc ls' st M r) : zS Y pc ls st M r := by
  intro l D cI cG ad ids A p e s m args below meth c R cells slots Q H locs Ls C B F hR hk
  refine k l D cI cG ad ids A p e s m args below meth c R cells slots Q H locs Ls C B ⟨⟨F.1.1, F.1.2.1, fun q hq => ?_⟩, fun v hv => ?_, F.2.2⟩ hR hk
  · obtain ⟨j, w, hj, rfl⟩ := (zlv_mem ad _ 0 q).mp hq
    rw [Nat.zero_add]
    exact zlv_at F.1 (zle_at hl j w hj)
  · obtain ⟨j, hj⟩ := List.getElem?_of_mem hv
    exact F.2.1 v (List.mem_of_getElem? (zle_at hl j v hj))
/-! constants, locals, stack -/
theorem zS_iconst {n : Int} {v : Int32} (hd : decode Y.2.1 pc = .ok (.iconst n, 1)) (hv : Int32.ofInt n = v) (k : zS Y (pc + 1) ls (zI v :: st) M r) : zS Y pc ls st M r := by
  intro l D cI cG ad ids A p e s m args below meth c R cells slots Q H locs Ls C B F hR hk
  exact lv_iconst C.1 C.2.1 hd hv (k l D cI cG ad ids A p e s m args below meth c R cells slots Q H locs Ls C B (F.push trivial) hR hk)
theorem zS_bipush {n : Int} {v : Int32} (hd : decode Y.2.1 pc = .ok (.bipush n, 2)) (hv : (Int8.ofInt n).toInt32 = v) (k : zS Y (pc + 2) ls (zI v :: st) M r) : zS Y pc ls st M r := by
  intro l D cI cG ad ids A p e s m args below meth c R cells slots Q H locs Ls C B F hR hk
  exact lv_bipush C.1 C.2.1 hd hv (k l D cI cG ad ids A p e s m args below meth c R cells slots Q H locs Ls C B (F.push trivial) hR hk)
theorem zS_sipush {n : Int} {v : Int32} (hd : decode Y.2.1 pc = .ok (.sipush n, 3)) (hv : (Int16.ofInt n).toInt32 = v) (k : zS Y (pc + 3) ls (zI v :: st) M r) : zS Y pc ls st M r := by
  intro l D cI cG ad ids A p e s m args below meth c R cells slots Q H locs Ls C B F hR hk
  exact lv_sipush C.1 C.2.1 hd hv (k l D cI cG ad ids A p e s m args below meth c R cells slots Q H locs Ls C B (F.push trivial) hR hk)
theorem zS_ldc {v : Int32} {index : Nat} (hd : decode Y.2.1 pc = .ok (.ldc index, 2)) (hw : Cond.constant Y.1.cls index v ∈ zU) (k : zS Y (pc + 2) ls (zI v :: st) M r) : zS Y pc ls st M r := by
  intro l D cI cG ad ids A p e s m args below meth c R cells slots Q H locs Ls C B F hR hk
  exact lv_ldc C.1 C.2.1 C.2.2.2.1 (C.2.2.2.2.1 _ hw) hd (k l D cI cG ad ids A p e s m args below meth c R cells slots Q H locs Ls C B (F.push trivial) hR hk)
theorem zS_ldcw {v : Int32} {index : Nat} (hd : decode Y.2.1 pc = .ok (.ldc_w index, 3)) (hw : Cond.constant Y.1.cls index v ∈ zU) (k : zS Y (pc + 3) ls (zI v :: st) M r) : zS Y pc ls st M r := by
  intro l D cI cG ad ids A p e s m args below meth c R cells slots Q H locs Ls C B F hR hk
  exact lv_ldcw C.1 C.2.1 C.2.2.2.1 (C.2.2.2.2.1 _ hw) hd (k l D cI cG ad ids A p e s m args below meth c R cells slots Q H locs Ls C B (F.push trivial) hR hk)
theorem zS_ldc2 {v : Int64} {index : Nat} (hd : decode Y.2.1 pc = .ok (.ldc2_w index, 3)) (hw : Cond.constantLong Y.1.cls index v ∈ zU) (k : zS Y (pc + 3) ls (zL v :: st) M r) : zS Y pc ls st M r := by
  intro l D cI cG ad ids A p e s m args below meth c R cells slots Q H locs Ls C B F hR hk
  exact lv_ldc2 C.1 C.2.1 C.2.2.2.1 (C.2.2.2.2.1 _ hw) hd (k l D cI cG ad ids A p e s m args below meth c R cells slots Q H locs Ls C B (F.push trivial) hR hk)
theorem zS_lconst {n : Fin 2} {v : Int64} (hd : decode Y.2.1 pc = .ok (.lconst n, 1)) (hv : Int64.ofNat (n : Nat) = v) (k : zS Y (pc + 1) ls (zL v :: st) M r) : zS Y pc ls st M r := by
  intro l D cI cG ad ids A p e s m args below meth c R cells slots Q H locs Ls C B F hR hk
  exact lv_lconst C.1 C.2.1 hd hv (k l D cI cG ad ids A p e s m args below meth c R cells slots Q H locs Ls C B (F.push trivial) hR hk)
theorem zS_iload_n {j : Fin 4} {i : Nat} {x : Int32} (hd : decode Y.2.1 pc = .ok (.iload_n j, 1)) (hi : (j : Nat) = i) (hl : ls[i]? = some (some (zI x))) (k : zS Y (pc + 1) ls (zI x :: st) M r) : zS Y pc ls st M r := by
  intro l D cI cG ad ids A p e s m args below meth c R cells slots Q H locs Ls C B F hR hk
  exact lv_iload_n C.1 C.2.1 hd hi (zlv_at F.1 hl) (k l D cI cG ad ids A p e s m args below meth c R cells slots Q H locs Ls C B (F.push trivial) hR hk)
theorem zS_iload {i : Nat} {x : Int32} (hd : decode Y.2.1 pc = .ok (.iload i, 2)) (hl : ls[i]? = some (some (zI x))) (k : zS Y (pc + 2) ls (zI x :: st) M r) : zS Y pc ls st M r := by
  intro l D cI cG ad ids A p e s m args below meth c R cells slots Q H locs Ls C B F hR hk
  exact lv_iload C.1 C.2.1 hd (zlv_at F.1 hl) (k l D cI cG ad ids A p e s m args below meth c R cells slots Q H locs Ls C B (F.push trivial) hR hk)
theorem zS_lload_n {j : Fin 4} {i : Nat} {x : Int64} (hd : decode Y.2.1 pc = .ok (.lload_n j, 1)) (hi : (j : Nat) = i) (hl : ls[i]? = some (some (zL x))) (k : zS Y (pc + 1) ls (zL x :: st) M r) : zS Y pc ls st M r := by
  intro l D cI cG ad ids A p e s m args below meth c R cells slots Q H locs Ls C B F hR hk
  exact lv_lload_n C.1 C.2.1 hd hi (zlv_at F.1 hl) (k l D cI cG ad ids A p e s m args below meth c R cells slots Q H locs Ls C B (F.push trivial) hR hk)
theorem zS_aload_nO {j : Fin 4} {i o : Nat} (hd : decode Y.2.1 pc = .ok (.aload_n j, 1)) (hi : (j : Nat) = i) (hl : ls[i]? = some (some (zO o))) (k : zS Y (pc + 1) ls (zO o :: st) M r) : zS Y pc ls st M r := by
  intro l D cI cG ad ids A p e s m args below meth c R cells slots Q H locs Ls C B F hR hk
  exact lv_aload_n C.1 C.2.1 hd hi (zlv_at F.1 hl) (k l D cI cG ad ids A p e s m args below meth c R cells slots Q H locs Ls C B (F.push (F.at hl)) hR hk)
theorem zS_aload_nA {j : Fin 4} {i o n : Nat} (hd : decode Y.2.1 pc = .ok (.aload_n j, 1)) (hi : (j : Nat) = i) (hl : ls[i]? = some (some (zA o n))) (k : zS Y (pc + 1) ls (zA o n :: st) M r) : zS Y pc ls st M r := by
  intro l D cI cG ad ids A p e s m args below meth c R cells slots Q H locs Ls C B F hR hk
  exact lv_aload_n C.1 C.2.1 hd hi (zlv_at F.1 hl) (k l D cI cG ad ids A p e s m args below meth c R cells slots Q H locs Ls C B (F.push (F.at hl)) hR hk)
theorem zS_istore_n {j : Fin 4} {i : Nat} {x : Int32} {ls' : List (Option zAV)} (hd : decode Y.2.1 pc = .ok (.istore_n j, 1)) (hi : (j : Nat) = i) (hn : i < Y.2.2.1) (hp0 : zpre ls i = true) (hl : ls.set i (some (zI x)) = ls') (k : zS Y (pc + 1) ls' st M r) : zS Y pc ls (zI x :: st) M r := by
  have hpre := zpre_spec hp0
  subst hl
  intro l D cI cG ad ids A p e s m args below meth c R cells slots Q H locs Ls C B F hR hk
  exact lv_istore_n C.1 C.2.1 hd hi F.1 hn rfl (fun Ls' h' => k l D cI cG ad ids A p e s m args below meth c R cells slots Q H locs Ls' C B (F.tl.set trivial rfl hpre h') hR hk)
theorem zS_istore {i : Nat} {x : Int32} {ls' : List (Option zAV)} (hd : decode Y.2.1 pc = .ok (.istore i, 2)) (hn : i < Y.2.2.1) (hp0 : zpre ls i = true) (hl : ls.set i (some (zI x)) = ls') (k : zS Y (pc + 2) ls' st M r) : zS Y pc ls (zI x :: st) M r := by
  have hpre := zpre_spec hp0
  subst hl
  intro l D cI cG ad ids A p e s m args below meth c R cells slots Q H locs Ls C B F hR hk
  exact lv_istore C.1 C.2.1 hd F.1 hn rfl (fun Ls' h' => k l D cI cG ad ids A p e s m args below meth c R cells slots Q H locs Ls' C B (F.tl.set trivial rfl hpre h') hR hk)
theorem zS_iinc {i : Nat} {n : Int} {x v : Int32} {ls' : List (Option zAV)} (hd : decode Y.2.1 pc = .ok (.iinc i n, 3)) (hx : ls[i]? = some (some (zI x))) (hv : x + Int32.ofInt n = v) (hn : i < Y.2.2.1) (hp0 : zpre ls i = true) (hl : ls.set i (some (zI v)) = ls') (k : zS Y (pc + 3) ls' st M r) : zS Y pc ls st M r := by
  have hpre := zpre_spec hp0
  subst hl
  intro l D cI cG ad ids A p e s m args below meth c R cells slots Q H locs Ls C B F hR hk
  obtain ⟨kk, hkk⟩ := List.getElem?_of_mem ((zlv_mem ad ls 0 (i, .int x)).mpr ⟨i, zI x, hx, by rw [Nat.zero_add]; rfl⟩)
  exact lv_iinc C.1 C.2.1 hd F.1 hkk hv hn rfl (fun Ls' h' => k l D cI cG ad ids A p e s m args below meth c R cells slots Q H locs Ls' C B (F.set (v := zI v) trivial rfl hpre h') hR hk)
theorem zS_lstore_n {j : Fin 4} {i : Nat} {x : Int64} {ls' : List (Option zAV)} (hd : decode Y.2.1 pc = .ok (.lstore_n j, 1)) (hi : (j : Nat) = i) (hn : i + 1 < Y.2.2.1) (hp0 : zpre ls i = true) (hl : (ls.set i (some (zL x))).set (i + 1) none = ls') (k : zS Y (pc + 1) ls' st M r) : zS Y pc ls (zL x :: st) M r := by
  have hpre := zpre_spec hp0
  subst hl
  intro l D cI cG ad ids A p e s m args below meth c R cells slots Q H locs Ls C B F hR hk
  refine lv_lstore_n C.1 C.2.1 hd hi F.1 hn rfl (fun Ls' h' => k l D cI cG ad ids A p e s m args below meth c R cells slots Q H locs Ls' C B ⟨⟨h'.1, h'.2.1, fun q hq => ?_⟩, fun w hw => ?_, F.tl.2.2⟩ hR hk)
  · obtain ⟨j', w, hj, rfl⟩ := (zlv_mem ad _ 0 q).mp hq
    apply h'.2.2
    by_cases h1 : j' = i + 1
    · subst h1
      by_cases hl : i + 1 < ls.length
      · rw [List.getElem?_set_self (by simpa using hl)] at hj
        simp at hj
      · rw [List.getElem?_eq_none (by simp; omega)] at hj
        cases hj
    · rw [List.getElem?_set_ne (Ne.symm h1)] at hj
      by_cases hji : j' = i
      · subst hji
        have hl : j' < ls.length := by
          have := (List.getElem?_eq_some_iff.mp hj).1
          simpa using this
        rw [List.getElem?_set_self hl] at hj
        cases hj
        simp [zcv]
      · rw [List.getElem?_set_ne (Ne.symm hji)] at hj
        refine List.mem_cons_of_mem _ (List.mem_filter.mpr ⟨(zlv_mem ad ls 0 _).mpr ⟨j', w, hj, rfl⟩, ?_⟩)
        simp only [Nat.zero_add, Bool.and_eq_true, Bool.not_eq_true', beq_eq_false_iff_ne, ne_eq, Bool.and_eq_false_iff]
        refine ⟨hji, h1, ?_⟩
        by_cases h2 : j' + 1 = i
        · right
          intro hc
          have hc2 : (zcv ad w).category = 2 := by simpa using hc
          subst h2
          match w, hj, hc2 with
          | .inl _, _, hc2 => cases hc2
          | .inr (.inl x), hj, _ => exact hpre x (by omega) (by simpa using hj)
          | .inr (.inr (.inl _)), _, hc2 => cases hc2
          | .inr (.inr (.inr _)), _, hc2 => cases hc2
        · left
          exact h2
  · rcases List.mem_or_eq_of_mem_set hw with h1 | h1
    · rcases List.mem_or_eq_of_mem_set h1 with h2 | h2
      · exact F.2.1 w h2
      · cases h2
        trivial
    · cases h1
theorem zS_dup {v : zAV} (hd : decode Y.2.1 pc = .ok (.dup, 1)) (hv0 : zno [v] = true) (k : zS Y (pc + 1) ls (v :: v :: st) M r) : zS Y pc ls (v :: st) M r := by
  have hv : ∀ x, v ≠ zL x := zno_spec hv0 v List.mem_cons_self
  intro l D cI cG ad ids A p e s m args below meth c R cells slots Q H locs Ls C B F hR hk
  refine lv_dup C.1 C.2.1 hd ?_ (k l D cI cG ad ids A p e s m args below meth c R cells slots Q H locs Ls C B (F.push F.hd) hR hk)
  match v, hv with
  | .inl _, _ => rfl
  | .inr (.inl x), hv => exact absurd rfl (hv x)
  | .inr (.inr (.inl _)), _ => rfl
  | .inr (.inr (.inr _)), _ => rfl
theorem zcat1 {ad : Nat → Nat} {v : zAV} (hv : ∀ x, v ≠ zL x) : (zcv ad v).category = 1 := by
  match v, hv with
  | .inl _, _ => rfl
  | .inr (.inl x), hv => exact absurd rfl (hv x)
  | .inr (.inr (.inl _)), _ => rfl
  | .inr (.inr (.inr _)), _ => rfl
theorem zS_dup2 {v w : zAV} (hd : decode Y.2.1 pc = .ok (.dup2, 1)) (hv0 : zno [v, w] = true) (k : zS Y (pc + 1) ls (v :: w :: v :: w :: st) M r) : zS Y pc ls (v :: w :: st) M r := by
  have hv : ∀ x, v ≠ zL x := zno_spec hv0 v List.mem_cons_self
  have hw : ∀ x, w ≠ zL x := zno_spec hv0 w (List.mem_cons_of_mem _ List.mem_cons_self)
  intro l D cI cG ad ids A p e s m args below meth c R cells slots Q H locs Ls C B F hR hk
  exact lv_dup2_11 C.1 C.2.1 hd (zcat1 hv) (zcat1 hw) (k l D cI cG ad ids A p e s m args below meth c R cells slots Q H locs Ls C B ((F.push F.tl.hd).push F.hd) hR hk)
theorem zS_pop {v : zAV} (hd : decode Y.2.1 pc = .ok (.pop, 1)) (hv0 : zno [v] = true) (k : zS Y (pc + 1) ls st M r) : zS Y pc ls (v :: st) M r := by
  have hv : ∀ x, v ≠ zL x := zno_spec hv0 v List.mem_cons_self
  intro l D cI cG ad ids A p e s m args below meth c R cells slots Q H locs Ls C B F hR hk
  exact lv_pop C.1 C.2.1 hd (zcat1 hv) (k l D cI cG ad ids A p e s m args below meth c R cells slots Q H locs Ls C B F.tl hR hk)
theorem zS_goto {off : Int} {tgt : Nat} (hd : decode Y.2.1 pc = .ok (.goto off, 3)) (ht : (pc : Int) + off = (tgt : Int)) (k : zS Y tgt ls st M r) : zS Y pc ls st M r := by
  intro l D cI cG ad ids A p e s m args below meth c R cells slots Q H locs Ls C B F hR hk
  exact lv_goto C.1 C.2.1 hd ht (k l D cI cG ad ids A p e s m args below meth c R cells slots Q H locs Ls C B F hR hk)
end ZR
end
section
section ZR2
variable {Y : zY} {pc : Nat} {ls : List (Option zAV)} {st : List zAV} {M : zM} {r : Option Int32 × zM}
theorem zS_iadd {x y : Int32} (hd : decode Y.2.1 pc = .ok (.iadd, 1)) (k : zS Y (pc + 1) ls (zI (x + y) :: st) M r) : zS Y pc ls (zI y :: zI x :: st) M r := by
  intro l D cI cG ad ids A p e s m args below meth c R cells slots Q H locs Ls C B F hR hk
  exact lv_iadd C.1 C.2.1 hd (k l D cI cG ad ids A p e s m args below meth c R cells slots Q H locs Ls C B (F.tl.tl.push trivial) hR hk)
theorem zS_isub {x y : Int32} (hd : decode Y.2.1 pc = .ok (.isub, 1)) (k : zS Y (pc + 1) ls (zI (x - y) :: st) M r) : zS Y pc ls (zI y :: zI x :: st) M r := by
  intro l D cI cG ad ids A p e s m args below meth c R cells slots Q H locs Ls C B F hR hk
  exact lv_isub C.1 C.2.1 hd (k l D cI cG ad ids A p e s m args below meth c R cells slots Q H locs Ls C B (F.tl.tl.push trivial) hR hk)
theorem zS_imul {x y : Int32} (hd : decode Y.2.1 pc = .ok (.imul, 1)) (k : zS Y (pc + 1) ls (zI (x * y) :: st) M r) : zS Y pc ls (zI y :: zI x :: st) M r := by
  intro l D cI cG ad ids A p e s m args below meth c R cells slots Q H locs Ls C B F hR hk
  exact lv_imul C.1 C.2.1 hd (k l D cI cG ad ids A p e s m args below meth c R cells slots Q H locs Ls C B (F.tl.tl.push trivial) hR hk)
theorem zS_iand {x y : Int32} (hd : decode Y.2.1 pc = .ok (.iand, 1)) (k : zS Y (pc + 1) ls (zI (x &&& y) :: st) M r) : zS Y pc ls (zI y :: zI x :: st) M r := by
  intro l D cI cG ad ids A p e s m args below meth c R cells slots Q H locs Ls C B F hR hk
  exact lv_iand C.1 C.2.1 hd (k l D cI cG ad ids A p e s m args below meth c R cells slots Q H locs Ls C B (F.tl.tl.push trivial) hR hk)
theorem zS_ior {x y : Int32} (hd : decode Y.2.1 pc = .ok (.ior, 1)) (k : zS Y (pc + 1) ls (zI (x ||| y) :: st) M r) : zS Y pc ls (zI y :: zI x :: st) M r := by
  intro l D cI cG ad ids A p e s m args below meth c R cells slots Q H locs Ls C B F hR hk
  exact lv_ior C.1 C.2.1 hd (k l D cI cG ad ids A p e s m args below meth c R cells slots Q H locs Ls C B (F.tl.tl.push trivial) hR hk)
theorem zS_ixor {x y : Int32} (hd : decode Y.2.1 pc = .ok (.ixor, 1)) (k : zS Y (pc + 1) ls (zI (x ^^^ y) :: st) M r) : zS Y pc ls (zI y :: zI x :: st) M r := by
  intro l D cI cG ad ids A p e s m args below meth c R cells slots Q H locs Ls C B F hR hk
  exact lv_ixor C.1 C.2.1 hd (k l D cI cG ad ids A p e s m args below meth c R cells slots Q H locs Ls C B (F.tl.tl.push trivial) hR hk)
theorem zS_ishl {x y : Int32} (hd : decode Y.2.1 pc = .ok (.ishl, 1)) (k : zS Y (pc + 1) ls (zI (x <<< (y &&& 31)) :: st) M r) : zS Y pc ls (zI y :: zI x :: st) M r := by
  intro l D cI cG ad ids A p e s m args below meth c R cells slots Q H locs Ls C B F hR hk
  exact lv_ishl C.1 C.2.1 hd (k l D cI cG ad ids A p e s m args below meth c R cells slots Q H locs Ls C B (F.tl.tl.push trivial) hR hk)
theorem zS_ishr {x y : Int32} (hd : decode Y.2.1 pc = .ok (.ishr, 1)) (k : zS Y (pc + 1) ls (zI (x >>> (y &&& 31)) :: st) M r) : zS Y pc ls (zI y :: zI x :: st) M r := by
  intro l D cI cG ad ids A p e s m args below meth c R cells slots Q H locs Ls C B F hR hk
  exact lv_ishr C.1 C.2.1 hd (k l D cI cG ad ids A p e s m args below meth c R cells slots Q H locs Ls C B (F.tl.tl.push trivial) hR hk)
theorem zS_iushr {x y : Int32} (hd : decode Y.2.1 pc = .ok (.iushr, 1)) (k : zS Y (pc + 1) ls (zI ((x.toUInt32 >>> (y.toUInt32 &&& Int32.toUInt32 31)).toInt32) :: st) M r) : zS Y pc ls (zI y :: zI x :: st) M r := by
  intro l D cI cG ad ids A p e s m args below meth c R cells slots Q H locs Ls C B F hR hk
  exact lv_iushr C.1 C.2.1 hd rfl (k l D cI cG ad ids A p e s m args below meth c R cells slots Q H locs Ls C B (F.tl.tl.push trivial) hR hk)
theorem zS_idiv {x y : Int32} (hne : ¬ y = 0) (hd : decode Y.2.1 pc = .ok (.idiv, 1)) (k : zS Y (pc + 1) ls (zI (x / y) :: st) M r) : zS Y pc ls (zI y :: zI x :: st) M r := by
  intro l D cI cG ad ids A p e s m args below meth c R cells slots Q H locs Ls C B F hR hk
  exact lv_idiv C.1 C.2.1 hd hne (k l D cI cG ad ids A p e s m args below meth c R cells slots Q H locs Ls C B (F.tl.tl.push trivial) hR hk)
theorem zS_irem {x y : Int32} (hne : ¬ y = 0) (hd : decode Y.2.1 pc = .ok (.irem, 1)) (k : zS Y (pc + 1) ls (zI (x - x / y * y) :: st) M r) : zS Y pc ls (zI y :: zI x :: st) M r := by
  intro l D cI cG ad ids A p e s m args below meth c R cells slots Q H locs Ls C B F hR hk
  exact lv_irem C.1 C.2.1 hd hne (k l D cI cG ad ids A p e s m args below meth c R cells slots Q H locs Ls C B (F.tl.tl.push trivial) hR hk)
theorem zS_ineg {x : Int32} (hd : decode Y.2.1 pc = .ok (.ineg, 1)) (k : zS Y (pc + 1) ls (zI (-x) :: st) M r) : zS Y pc ls (zI x :: st) M r := by
  intro l D cI cG ad ids A p e s m args below meth c R cells slots Q H locs Ls C B F hR hk
  exact lv_ineg C.1 C.2.1 hd (k l D cI cG ad ids A p e s m args below meth c R cells slots Q H locs Ls C B (F.tl.push trivial) hR hk)
theorem zS_i2l {x : Int32} (hd : decode Y.2.1 pc = .ok (.i2l, 1)) (k : zS Y (pc + 1) ls (zL x.toInt64 :: st) M r) : zS Y pc ls (zI x :: st) M r := by
  intro l D cI cG ad ids A p e s m args below meth c R cells slots Q H locs Ls C B F hR hk
  exact lv_i2l C.1 C.2.1 hd rfl (k l D cI cG ad ids A p e s m args below meth c R cells slots Q H locs Ls C B (F.tl.push trivial) hR hk)
theorem zS_l2i {x : Int64} (hd : decode Y.2.1 pc = .ok (.l2i, 1)) (k : zS Y (pc + 1) ls (zI x.toInt32 :: st) M r) : zS Y pc ls (zL x :: st) M r := by
  intro l D cI cG ad ids A p e s m args below meth c R cells slots Q H locs Ls C B F hR hk
  exact lv_l2i C.1 C.2.1 hd rfl (k l D cI cG ad ids A p e s m args below meth c R cells slots Q H locs Ls C B (F.tl.push trivial) hR hk)
theorem zS_lmul {x y : Int64} (hd : decode Y.2.1 pc = .ok (.lmul, 1)) (k : zS Y (pc + 1) ls (zL (x * y) :: st) M r) : zS Y pc ls (zL y :: zL x :: st) M r := by
  intro l D cI cG ad ids A p e s m args below meth c R cells slots Q H locs Ls C B F hR hk
  exact lv_lmul C.1 C.2.1 hd (k l D cI cG ad ids A p e s m args below meth c R cells slots Q H locs Ls C B (F.tl.tl.push trivial) hR hk)
theorem zS_lcmp {x y : Int64} (hd : decode Y.2.1 pc = .ok (.lcmp, 1)) (k : zS Y (pc + 1) ls (zI (lg_cmp x y) :: st) M r) : zS Y pc ls (zL y :: zL x :: st) M r := by
  intro l D cI cG ad ids A p e s m args below meth c R cells slots Q H locs Ls C B F hR hk
  exact W.lcmp C.1 C.2.1 hd (k l D cI cG ad ids A p e s m args below meth c R cells slots Q H locs Ls C B (F.tl.tl.push trivial) hR hk)
theorem zS_if_eq {x : Int32} {off : Int} {tgt : Nat} (hd : decode Y.2.1 pc = .ok (.ifCond .eq off, 3)) (ht : (pc : Int) + off = (tgt : Int)) (kt : x = 0 → zS Y tgt ls st M r) (kf : ¬ x = 0 → zS Y (pc + 3) ls st M r) : zS Y pc ls (zI x :: st) M r := by
  intro l D cI cG ad ids A p e s m args below meth c R cells slots Q H locs Ls C B F hR hk
  exact lv_if_eq C.1 C.2.1 hd ht (fun h => kt h l D cI cG ad ids A p e s m args below meth c R cells slots Q H locs Ls C B F.tl hR hk) (fun h => kf h l D cI cG ad ids A p e s m args below meth c R cells slots Q H locs Ls C B F.tl hR hk)
theorem zS_icmp_eq {x y : Int32} {off : Int} {tgt : Nat} (hd : decode Y.2.1 pc = .ok (.if_icmp .eq off, 3)) (ht : (pc : Int) + off = (tgt : Int)) (kt : x = y → zS Y tgt ls st M r) (kf : ¬ x = y → zS Y (pc + 3) ls st M r) : zS Y pc ls (zI y :: zI x :: st) M r := by
  intro l D cI cG ad ids A p e s m args below meth c R cells slots Q H locs Ls C B F hR hk
  exact lv_icmp_eq C.1 C.2.1 hd ht (fun h => kt h l D cI cG ad ids A p e s m args below meth c R cells slots Q H locs Ls C B F.tl.tl hR hk) (fun h => kf h l D cI cG ad ids A p e s m args below meth c R cells slots Q H locs Ls C B F.tl.tl hR hk)
theorem zS_if_ne {x : Int32} {off : Int} {tgt : Nat} (hd : decode Y.2.1 pc = .ok (.ifCond .ne off, 3)) (ht : (pc : Int) + off = (tgt : Int)) (kt : ¬ x = 0 → zS Y tgt ls st M r) (kf : x = 0 → zS Y (pc + 3) ls st M r) : zS Y pc ls (zI x :: st) M r := by
  intro l D cI cG ad ids A p e s m args below meth c R cells slots Q H locs Ls C B F hR hk
  exact lv_if_ne C.1 C.2.1 hd ht (fun h => kt h l D cI cG ad ids A p e s m args below meth c R cells slots Q H locs Ls C B F.tl hR hk) (fun h => kf h l D cI cG ad ids A p e s m args below meth c R cells slots Q H locs Ls C B F.tl hR hk)
theorem zS_icmp_ne {x y : Int32} {off : Int} {tgt : Nat} (hd : decode Y.2.1 pc = .ok (.if_icmp .ne off, 3)) (ht : (pc : Int) + off = (tgt : Int)) (kt : ¬ x = y → zS Y tgt ls st M r) (kf : x = y → zS Y (pc + 3) ls st M r) : zS Y pc ls (zI y :: zI x :: st) M r := by
  intro l D cI cG ad ids A p e s m args below meth c R cells slots Q H locs Ls C B F hR hk
  exact lv_icmp_ne C.1 C.2.1 hd ht (fun h => kt h l D cI cG ad ids A p e s m args below meth c R cells slots Q H locs Ls C B F.tl.tl hR hk) (fun h => kf h l D cI cG ad ids A p e s m args below meth c R cells slots Q H locs Ls C B F.tl.tl hR hk)
theorem zS_if_lt {x : Int32} {off : Int} {tgt : Nat} (hd : decode Y.2.1 pc = .ok (.ifCond .lt off, 3)) (ht : (pc : Int) + off = (tgt : Int)) (kt : x < 0 → zS Y tgt ls st M r) (kf : ¬ x < 0 → zS Y (pc + 3) ls st M r) : zS Y pc ls (zI x :: st) M r := by
  intro l D cI cG ad ids A p e s m args below meth c R cells slots Q H locs Ls C B F hR hk
  exact lv_if_lt C.1 C.2.1 hd ht (fun h => kt h l D cI cG ad ids A p e s m args below meth c R cells slots Q H locs Ls C B F.tl hR hk) (fun h => kf h l D cI cG ad ids A p e s m args below meth c R cells slots Q H locs Ls C B F.tl hR hk)
theorem zS_icmp_lt {x y : Int32} {off : Int} {tgt : Nat} (hd : decode Y.2.1 pc = .ok (.if_icmp .lt off, 3)) (ht : (pc : Int) + off = (tgt : Int)) (kt : x < y → zS Y tgt ls st M r) (kf : ¬ x < y → zS Y (pc + 3) ls st M r) : zS Y pc ls (zI y :: zI x :: st) M r := by
  intro l D cI cG ad ids A p e s m args below meth c R cells slots Q H locs Ls C B F hR hk
  exact lv_icmp_lt C.1 C.2.1 hd ht (fun h => kt h l D cI cG ad ids A p e s m args below meth c R cells slots Q H locs Ls C B F.tl.tl hR hk) (fun h => kf h l D cI cG ad ids A p e s m args below meth c R cells slots Q H locs Ls C B F.tl.tl hR hk)
theorem zS_if_ge {x : Int32} {off : Int} {tgt : Nat} (hd : decode Y.2.1 pc = .ok (.ifCond .ge off, 3)) (ht : (pc : Int) + off = (tgt : Int)) (kt : 0 ≤ x → zS Y tgt ls st M r) (kf : ¬ 0 ≤ x → zS Y (pc + 3) ls st M r) : zS Y pc ls (zI x :: st) M r := by
  intro l D cI cG ad ids A p e s m args below meth c R cells slots Q H locs Ls C B F hR hk
  exact lv_if_ge C.1 C.2.1 hd ht (fun h => kt h l D cI cG ad ids A p e s m args below meth c R cells slots Q H locs Ls C B F.tl hR hk) (fun h => kf h l D cI cG ad ids A p e s m args below meth c R cells slots Q H locs Ls C B F.tl hR hk)
theorem zS_icmp_ge {x y : Int32} {off : Int} {tgt : Nat} (hd : decode Y.2.1 pc = .ok (.if_icmp .ge off, 3)) (ht : (pc : Int) + off = (tgt : Int)) (kt : y ≤ x → zS Y tgt ls st M r) (kf : ¬ y ≤ x → zS Y (pc + 3) ls st M r) : zS Y pc ls (zI y :: zI x :: st) M r := by
  intro l D cI cG ad ids A p e s m args below meth c R cells slots Q H locs Ls C B F hR hk
  exact lv_icmp_ge C.1 C.2.1 hd ht (fun h => kt h l D cI cG ad ids A p e s m args below meth c R cells slots Q H locs Ls C B F.tl.tl hR hk) (fun h => kf h l D cI cG ad ids A p e s m args below meth c R cells slots Q H locs Ls C B F.tl.tl hR hk)
theorem zS_if_gt {x : Int32} {off : Int} {tgt : Nat} (hd : decode Y.2.1 pc = .ok (.ifCond .gt off, 3)) (ht : (pc : Int) + off = (tgt : Int)) (kt : 0 < x → zS Y tgt ls st M r) (kf : ¬ 0 < x → zS Y (pc + 3) ls st M r) : zS Y pc ls (zI x :: st) M r := by
  intro l D cI cG ad ids A p e s m args below meth c R cells slots Q H locs Ls C B F hR hk
  exact lv_if_gt C.1 C.2.1 hd ht (fun h => kt h l D cI cG ad ids A p e s m args below meth c R cells slots Q H locs Ls C B F.tl hR hk) (fun h => kf h l D cI cG ad ids A p e s m args below meth c R cells slots Q H locs Ls C B F.tl hR hk)
theorem zS_icmp_gt {x y : Int32} {off : Int} {tgt : Nat} (hd : decode Y.2.1 pc = .ok (.if_icmp .gt off, 3)) (ht : (pc : Int) + off = (tgt : Int)) (kt : y < x → zS Y tgt ls st M r) (kf : ¬ y < x → zS Y (pc + 3) ls st M r) : zS Y pc ls (zI y :: zI x :: st) M r := by
  intro l D cI cG ad ids A p e s m args below meth c R cells slots Q H locs Ls C B F hR hk
  exact lv_icmp_gt C.1 C.2.1 hd ht (fun h => kt h l D cI cG ad ids A p e s m args below meth c R cells slots Q H locs Ls C B F.tl.tl hR hk) (fun h => kf h l D cI cG ad ids A p e s m args below meth c R cells slots Q H locs Ls C B F.tl.tl hR hk)
theorem zS_if_le {x : Int32} {off : Int} {tgt : Nat} (hd : decode Y.2.1 pc = .ok (.ifCond .le off, 3)) (ht : (pc : Int) + off = (tgt : Int)) (kt : x ≤ 0 → zS Y tgt ls st M r) (kf : ¬ x ≤ 0 → zS Y (pc + 3) ls st M r) : zS Y pc ls (zI x :: st) M r := by
  intro l D cI cG ad ids A p e s m args below meth c R cells slots Q H locs Ls C B F hR hk
  exact lv_if_le C.1 C.2.1 hd ht (fun h => kt h l D cI cG ad ids A p e s m args below meth c R cells slots Q H locs Ls C B F.tl hR hk) (fun h => kf h l D cI cG ad ids A p e s m args below meth c R cells slots Q H locs Ls C B F.tl hR hk)
theorem zS_icmp_le {x y : Int32} {off : Int} {tgt : Nat} (hd : decode Y.2.1 pc = .ok (.if_icmp .le off, 3)) (ht : (pc : Int) + off = (tgt : Int)) (kt : x ≤ y → zS Y tgt ls st M r) (kf : ¬ x ≤ y → zS Y (pc + 3) ls st M r) : zS Y pc ls (zI y :: zI x :: st) M r := by
  intro l D cI cG ad ids A p e s m args below meth c R cells slots Q H locs Ls C B F hR hk
  exact lv_icmp_le C.1 C.2.1 hd ht (fun h => kt h l D cI cG ad ids A p e s m args below meth c R cells slots Q H locs Ls C B F.tl.tl hR hk) (fun h => kf h l D cI cG ad ids A p e s m args below meth c R cells slots Q H locs Ls C B F.tl.tl hR hk)
theorem zS_tswO {dflt lo hi : Int} {offs : Array Int} {len : Nat} {x : Int32} {tgt : Nat} (hd : decode Y.2.1 pc = .ok (.tableswitch dflt lo hi offs, len)) (h : x.toInt < lo ∨ hi < x.toInt) (ht : (pc : Int) + dflt = (tgt : Int)) (k : zS Y tgt ls st M r) : zS Y pc ls (zI x :: st) M r := by
  intro l D cI cG ad ids A p e s m args below meth c R cells slots Q H locs Ls C B F hR hk
  exact lv_tableOut C.1 C.2.1 hd h ht (k l D cI cG ad ids A p e s m args below meth c R cells slots Q H locs Ls C B F.tl hR hk)
theorem zS_tswI {dflt lo hi : Int} {offs : Array Int} {len : Nat} {x : Int32} {off : Int} {tgt : Nat} (hd : decode Y.2.1 pc = .ok (.tableswitch dflt lo hi offs, len)) (h1 : ¬ x.toInt < lo) (h2 : ¬ hi < x.toInt) (ho : offs[(x.toInt - lo).toNat]? = some off) (ht : (pc : Int) + off = (tgt : Int)) (k : zS Y tgt ls st M r) : zS Y pc ls (zI x :: st) M r := by
  intro l D cI cG ad ids A p e s m args below meth c R cells slots Q H locs Ls C B F hR hk
  exact lv_tableIn C.1 C.2.1 hd h1 h2 ho ht (k l D cI cG ad ids A p e s m args below meth c R cells slots Q H locs Ls C B F.tl hR hk)
/-! the world -/
theorem zW_at {cI cG : ClassId} {ad : Nat → Nat} {ids : List Nat} {i : Nat} (M : zM) (h : i ∈ ids) : ∃ q : Nat, ids[q]? = some i ∧ (zW cI cG ad ids M)[q]? = some (ad i, zE cI cG ad M i) := by
  obtain ⟨q, hq⟩ := List.getElem?_of_mem h
  exact ⟨q, hq, by simp [zW, hq]⟩
theorem zE_obj {cI cG : ClassId} {ad : Nat → Nat} {i : Nat} {o : Nat × List (Option zAV)} (h : zlay i = .inl o) : zE cI cG ad M i = .inr (o.1, o.2.mapIdx (fun j f => zfv ad M i j f)) := by simp [zE, h, zEk]
theorem zE_arr {cI cG : ClassId} {ad : Nat → Nat} {i n : Nat} (h : zlay i = .inr (.inr n)) : zE cI cG ad M i = .inl (cI, n, .inl (M i)) := by simp [zE, h, zEk]
theorem zE_grid {cI cG : ClassId} {ad : Nat → Nat} {i : Nat} {g : Nat × Nat × Nat} (h : zlay i = .inr (.inl g)) : zE cI cG ad M i = .inl (cG, g.2.1, .inr (.inr (.inr (.inr (fun k => if k < g.2.1 then some (ad (g.1 + k)) else none))))) := by simp [zE, h, zEk]
theorem zE_congr {cI cG : ClassId} {ad : Nat → Nat} {i : Nat} {M1 M2 : zM} (h : M1 i = M2 i) : zE cI cG ad M1 i = zE cI cG ad M2 i := by
  unfold zE
  match zlay i with
  | .inl o =>
    simp only [zEk]
    congr 2
    apply List.ext_getElem?
    intro j
    simp only [List.getElem?_mapIdx]
    cases o.2[j]? with
    | none => rfl
    | some f => cases f <;> simp [zfv, h]
  | .inr (.inl g) => rfl
  | .inr (.inr n) => simp only [zEk, h]
theorem zset_ne {i j : Nat} {x : Int32} {a : Nat} (h : a ≠ i) : zset M i j x a = M a := by funext b; simp [zset, h]
theorem zset_row {i j : Nat} {x : Int32} : zset M i j x i = upd (M i) j x := by funext b; simp [zset, upd]
theorem zW_set {cI cG : ClassId} {ad : Nat → Nat} {ids : List Nat} {A : Nat → Prop} {q i j : Nat} {x : Int32} (hD : va_D A (zW cI cG ad ids M)) (hq : ids[q]? = some i) : (zW cI cG ad ids M).set q (ad i, zE cI cG ad (zset M i j x) i) = zW cI cG ad ids (zset M i j x) := by
  apply List.ext_getElem?
  intro k
  have hl : q < (zW cI cG ad ids M).length := by
    have := (List.getElem?_eq_some_iff.mp hq).1
    simpa [zW] using this
  by_cases hk : k = q
  · subst hk
    rw [List.getElem?_set_self hl]
    simp [zW, hq]
  · rw [List.getElem?_set_ne (Ne.symm hk)]
    simp only [zW, List.getElem?_map]
    cases hi : ids[k]? with
    | none => rfl
    | some i' =>
      have hne : i' ≠ i := by
        intro h
        subst h
        exact hk (hD.1 k q (ad i', zE cI cG ad M i') (ad i', zE cI cG ad M i') (by simp [zW, hi]) (by simp [zW, hq]) rfl)
      simp only [Option.map_some]
      rw [zE_congr (zset_ne hne)]
theorem zB.put {D : va_G} {cI cG : ClassId} {ad : Nat → Nat} {ids : List Nat} {A : Nat → Prop} {s : State} {H1 : Heap} {locs1 : List Loc} {q i j : Nat} {x : Int32} {ee : va_E} (hD : va_D A (zW cI cG ad ids M)) (hq : ids[q]? = some i) (he : ee = zE cI cG ad (zset M i j x) i) (h1 : va_P D vwCl ((zW cI cG ad ids M).set q (ad i, ee)) H1) (h2 : va_D A ((zW cI cG ad ids M).set q (ad i, ee))) (h3 : va_S A s.heap H1 locs1) : zB D cI cG ad ids A s (zset M i j x) H1 locs1 := by
  subst he
  rw [zW_set hD hq] at h1 h2
  exact ⟨h1, h2, h3⟩
theorem zS_getI {o index j ci : Nat} {fl : List (Option zAV)} {C : String} {T : u_T} {N : Nat} (hd : decode Y.2.1 pc = .ok (.getfield index, 3)) (hlay : zlay o = .inl (ci, fl)) (hj : fl[j]? = some none) (hc : vwCl[ci]? = some (C, T, N)) (hjN : j < N) (hT : (T j).1 = C) (hin : ∀ w ∈ u_ws C T N, w ∈ zU) (hlink : Cond.fieldLink Y.1.cls index C (T j).2.1 (T j).2.2.1 ∈ zU) (k : zS Y (pc + 3) ls (zI (M o j) :: st) M r) : zS Y pc ls (zO o :: st) M r := by
  intro l D cI cG ad ids A p e s m args below meth c R cells slots Q H locs Ls C B F hR hk
  obtain ⟨q, -, hq⟩ := zW_at (cI := cI) (cG := cG) (ad := ad) M (F.hd : o ∈ ids)
  rw [zE_obj hlay] at hq
  refine va_get (v := .int (M o j)) C.1 C.2.1 C.2.2.2.2.1 hin C.2.2.2.1 C.2.2.2.2.2.2.1 B.1 q hq hc j hjN (C.2.2.2.2.1 _ hlink) (fun _ h => hT ▸ h) (by simp [List.getElem?_mapIdx, hj, zfv]) hd (k l D cI cG ad ids A p e s m args below meth c R cells slots Q H locs Ls C B (F.tl.push trivial) hR hk)
theorem zS_getR {o index j ci : Nat} {fl : List (Option zAV)} {C : String} {T : u_T} {N : Nat} {v : zAV} (hd : decode Y.2.1 pc = .ok (.getfield index, 3)) (hlay : zlay o = .inl (ci, fl)) (hj : fl[j]? = some (some v)) (hc : vwCl[ci]? = some (C, T, N)) (hjN : j < N) (hT : (T j).1 = C) (hin : ∀ w ∈ u_ws C T N, w ∈ zU) (hlink : Cond.fieldLink Y.1.cls index C (T j).2.1 (T j).2.2.1 ∈ zU) (k : zS Y (pc + 3) ls (v :: st) M r) : zS Y pc ls (zO o :: st) M r := by
  intro l D cI cG ad ids A p e s m args below meth c R cells slots Q H locs Ls C B F hR hk
  have ho : o ∈ ids := F.hd
  obtain ⟨q, -, hq⟩ := zW_at (cI := cI) (cG := cG) (ad := ad) M ho
  rw [zE_obj hlay] at hq
  have hv : zok ids v := by
    have h1 := C.2.2.2.2.2.2.2.1 o ho
    rw [hlay] at h1
    exact h1 v (List.mem_of_getElem? hj)
  refine va_get (v := zcv ad v) C.1 C.2.1 C.2.2.2.2.1 hin C.2.2.2.1 C.2.2.2.2.2.2.1 B.1 q hq hc j hjN (C.2.2.2.2.1 _ hlink) (fun _ h => hT ▸ h) (by simp [List.getElem?_mapIdx, hj, zfv]) hd (k l D cI cG ad ids A p e s m args below meth c R cells slots Q H locs Ls C B (F.tl.push hv) hR hk)
theorem zS_putI {o index j ci : Nat} {fl : List (Option zAV)} {C : String} {T : u_T} {N : Nat} {x : Int32} (ty0 : Nat → FieldType) (hty : ∀ k, k < N → parseFieldDescriptor (T k).2.2.1 = some (ty0 k)) (hnm : ∀ a, a < N → ∀ b, b < N → a ≠ b → (T a).2.1 ≠ (T b).2.1) (hd : decode Y.2.1 pc = .ok (.putfield index, 3)) (hlay : zlay o = .inl (ci, fl)) (hj : fl[j]? = some none) (hc : vwCl[ci]? = some (C, T, N)) (hjN : j < N) (hT : (T j).1 = C) (hfin : (T j).2.2.2 = false) (hpd : parseFieldDescriptor (T j).2.2.1 = some .int) (hin : ∀ w ∈ u_ws C T N, w ∈ zU) (hlink : Cond.fieldLink Y.1.cls index C (T j).2.1 (T j).2.2.1 ∈ zU) (k : zS Y (pc + 3) ls st (zset M o j x) r) : zS Y pc ls (zI x :: zO o :: st) M r := by
  intro l D cI cG ad ids A p e s m args below meth c R cells slots Q H locs Ls C B F hR hk
  obtain ⟨q, hi, hq⟩ := zW_at (cI := cI) (cG := cG) (ad := ad) M (F.tl.hd : o ∈ ids)
  rw [zE_obj hlay] at hq
  have hjl : j < fl.length := (List.getElem?_eq_some_iff.mp hj).1
  refine va_put (ty := .int) (v := .int x) C.1 C.2.1 C.2.2.2.2.1 hin ty0 hty hnm C.2.2.2.1 C.2.2.2.2.2.2.1 B.1 B.2.1 B.2.2 q hq hc j hjN (C.2.2.2.2.1 _ hlink) (fun _ h => hT ▸ h) hfin hpd rfl rfl (by simpa using hjl) hd (fun H1 locs1 h1 h2 h3 => k l D cI cG ad ids A p e s m args below meth c R cells slots Q H1 locs1 Ls C (zB.put B.2.1 hi ?_ h1 h2 h3) F.tl.tl hR hk)
  rw [zE_obj hlay]
  congr 2
  apply List.ext_getElem?
  intro a
  by_cases ha : a = j
  · subst ha
    rw [List.getElem?_set_self (by simpa using hjl)]
    simp [List.getElem?_mapIdx, hj, zfv, zset]
  · rw [List.getElem?_set_ne (Ne.symm ha)]
    simp only [List.getElem?_mapIdx]
    cases fl[a]? with
    | none => rfl
    | some f => cases f <;> simp [zfv, zset, ha]
theorem zS_iald {o n : Nat} {i : Int32} (hb : ¬ (i < 0 ∨ n ≤ i.toNatClampNeg)) (hd : decode Y.2.1 pc = .ok (.iaload, 1)) (k : zS Y (pc + 1) ls (zI (M o i.toNatClampNeg) :: st) M r) : zS Y pc ls (zI i :: zA o n :: st) M r := by
  intro l D cI cG ad ids A p e s m args below meth c R cells slots Q H locs Ls C B F hR hk
  have ho : o ∈ ids ∧ zlay o = .inr (.inr n) := F.tl.hd
  obtain ⟨q, -, hq⟩ := zW_at (cI := cI) (cG := cG) (ad := ad) M ho.1
  rw [zE_arr ho.2] at hq
  exact va_iald C.1 C.2.1 C.2.2.2.2.2.2.1 B.1 q 0 hq rfl hb hd (k l D cI cG ad ids A p e s m args below meth c R cells slots Q H locs Ls C B (F.tl.tl.push trivial) hR hk)
theorem zS_iast {o n : Nat} {i x : Int32} (hb : ¬ (i < 0 ∨ n ≤ i.toNatClampNeg)) (hd : decode Y.2.1 pc = .ok (.iastore, 1)) (k : zS Y (pc + 1) ls st (zset M o i.toNatClampNeg x) r) : zS Y pc ls (zI x :: zI i :: zA o n :: st) M r := by
  intro l D cI cG ad ids A p e s m args below meth c R cells slots Q H locs Ls C B F hR hk
  have ho : o ∈ ids ∧ zlay o = .inr (.inr n) := F.tl.tl.hd
  obtain ⟨q, hi, hq⟩ := zW_at (cI := cI) (cG := cG) (ad := ad) M ho.1
  rw [zE_arr ho.2] at hq
  refine va_iast C.1 C.2.1 C.2.2.2.2.2.2.1 B.1 B.2.1 B.2.2 q 0 hq rfl hb hd (fun H1 locs1 h1 h2 h3 => k l D cI cG ad ids A p e s m args below meth c R cells slots Q H1 locs1 Ls C (zB.put B.2.1 hi ?_ h1 h2 h3) F.tl.tl.tl hR hk)
  rw [zE_arr ho.2, zset_row]
theorem zS_aald {o base cnt len : Nat} {i : Int32} (hlay : zlay o = .inr (.inl (base, cnt, len))) (hb : ¬ (i < 0 ∨ cnt ≤ i.toNatClampNeg)) (hd : decode Y.2.1 pc = .ok (.aaload, 1)) (k : zS Y (pc + 1) ls (zA (base + i.toNatClampNeg) len :: st) M r) : zS Y pc ls (zI i :: zO o :: st) M r := by
  intro l D cI cG ad ids A p e s m args below meth c R cells slots Q H locs Ls C B F hR hk
  have ho : o ∈ ids := F.tl.hd
  obtain ⟨q, -, hq⟩ := zW_at (cI := cI) (cG := cG) (ad := ad) M ho
  rw [zE_grid hlay] at hq
  have hlt : i.toNatClampNeg < cnt := Nat.not_le.mp fun q => hb (Or.inr q)
  have hv : zok ids (zA (base + i.toNatClampNeg) len) := by
    have h1 := C.2.2.2.2.2.2.2.1 o ho
    rw [hlay] at h1
    exact h1 _ hlt
  have hv2 : va_rf (if i.toNatClampNeg < cnt then some (ad (base + i.toNatClampNeg)) else none) = .ref (ad (base + i.toNatClampNeg)) := by rw [if_pos hlt]; rfl
  exact W.aald (v := .ref (ad (base + i.toNatClampNeg))) (ty := .array .int) C.1 C.2.1 (B.1 q _ hq) ((C.2.2.2.2.2.2.1.2 1 _ rfl).1 cnt (fun j => va_rf (if j < cnt then some (ad (base + j)) else none))) rfl (fun q => by cases q) (by show ¬ (i < 0 ∨ (arrV _ _ _).slots.size ≤ _); rw [arrV_size]; exact hb) (by show (arrV _ _ _).slots[_]? = _; rw [arrV_read _ _ hlt]; exact congrArg some hv2) rfl rfl hd (k l D cI cG ad ids A p e s m args below meth c R cells slots Q H locs Ls C B (F.tl.tl.push hv) hR hk)
theorem zS_alen {o n : Nat} (hd : decode Y.2.1 pc = .ok (.arraylength, 1)) (k : zS Y (pc + 1) ls (zI (Int32.ofNat n) :: st) M r) : zS Y pc ls (zA o n :: st) M r := by
  intro l D cI cG ad ids A p e s m args below meth c R cells slots Q H locs Ls C B F hR hk
  have ho : o ∈ ids ∧ zlay o = .inr (.inr n) := F.hd
  obtain ⟨q, -, hq⟩ := zW_at (cI := cI) (cG := cG) (ad := ad) M ho.1
  rw [zE_arr ho.2] at hq
  exact va_alen C.1 C.2.1 C.2.2.2.2.2.2.1 B.1 q 0 hq rfl rfl hd (k l D cI cG ad ids A p e s m args below meth c R cells slots Q H locs Ls C B (F.tl.push trivial) hR hk)
/-! ends -/
theorem zS_ireturn {v : Int32} {ty : FieldType} (hd : decode Y.2.1 pc = .ok (.ireturn, 1)) (hret : Y.2.2.2.1 = some ty) (hn : narrow ty (.int v) = .int v) : zS Y pc ls [zI v] M (some v, M) := by
  intro l D cI cG ad ids A p e s m args below meth c R cells slots Q H locs Ls C B F hR hk
  exact hk H locs Ls pc B ⟨hd, fun t ht => by cases hret.symm.trans ht; exact hn⟩
theorem zS_return (hd : decode Y.2.1 pc = .ok (.return_, 1)) : zS Y pc ls [] M (none, M) := by
  intro l D cI cG ad ids A p e s m args below meth c R cells slots Q H locs Ls C B F hR hk
  exact hk H locs Ls pc B hd
end ZR2
/-! calls -/
def zroom (n : Nat) : Room := { frames := n, cells := 0, slots := 0, locals := 33 * n }
def zws (Y : zY) : List Cond := .code Y.1 Y.2.1 Y.2.2.1 Y.2.2.2.1 :: zU
def zPre (D : va_G) (cI cG : ClassId) (ad : Nat → Nat) (ids : List Nat) (sz : Nat) (M : zM) (U : State) : Prop :=
  U.heap.size = sz ∧ va_P D vwCl (zW cI cG ad ids M) U.heap ∧ va_K D vwCl [(cI, .int), (cG, .array .int)] U ∧ va_D (fun _ => True) (zW cI cG ad ids M) ∧ ∀ w ∈ zNW, va_Nw w U
def zYok (Y : zY) : Prop := plainName Y.1.cls = true ∧ Cond.code Y.1 Y.2.1 Y.2.2.1 Y.2.2.2.1 ∈ zU ∧ Cond.initialized Y.1.cls ∈ zU ∧ (Y.1.cls ≠ "java/lang/invoke/MethodHandle" ∧ Y.1.cls ≠ "java/lang/invoke/VarHandle") ∧ Y.2.2.1 ≤ 14
theorem zNW_warm {s U : State} (hW : s.WarmedH U.vm) (h : ∀ w ∈ zNW, va_Nw w s) : ∀ w ∈ zNW, va_Nw w U := by
  intro w hw
  have h1 := h w hw
  simp only [zNW, List.mem_cons, List.not_mem_nil, or_false] at hw
  rcases hw with rfl | rfl | rfl | rfl | rfl | rfl <;> exact va_Nw.warmM hW h1
theorem zNW_same {s U : State} (e : s.vm = U.vm) (h : ∀ w ∈ zNW, va_Nw w s) : ∀ w ∈ zNW, va_Nw w U := by
  intro w hw
  have h1 := h w hw
  simp only [zNW, List.mem_cons, List.not_mem_nil, or_false] at hw
  rcases hw with rfl | rfl | rfl | rfl | rfl | rfl <;> exact va_Nw.same rfl e h1
theorem zblind {D : va_G} {cI cG : ClassId} {ad : Nat → Nat} {ids : List Nat} {sz : Nat} {M : zM} {av : List Value} : FrameBlind (va_Pc av (zPre D cI cG ad ids sz M)) := by
  intro a U g mk q
  obtain ⟨q0, q1, qP, qK, qD, qN⟩ := q
  exact ⟨q0, q1, qP, va_K.moved (u := U) (U := U.calling g mk a) (Vm.Alike.refl U.vm) qK, qD, zNW_same (s := U) (U := U.calling g mk a) rfl qN⟩
theorem zargs_mem : ∀ (vs : List Value) (k : Nat), (∀ v ∈ vs, v.category = 1) → ∀ (j : Nat) (w : Value), vs[j]? = some w → (k + j, w) ∈ lv_args k vs
  | [], k, _, j, w, h => by simp at h
  | v :: vs, k, hc, j, w, h => by
    have h1 : v.category = 1 := hc v List.mem_cons_self
    have h2 : (if v.category = 2 then k + 2 else k + 1) = k + 1 := by rw [h1]; rfl
    rw [lv_args, h2]
    cases j with
    | zero =>
      simp at h
      subst h
      exact List.mem_cons_self
    | succ j =>
      rw [show k + (j + 1) = k + 1 + j by omega]
      exact List.mem_cons_of_mem _ (zargs_mem vs (k + 1) (fun v hv => hc v (List.mem_cons_of_mem _ hv)) j w (by simpa using h))
theorem zsl_len : ∀ (vs : List Value), (∀ v ∈ vs, v.category = 1) → (lg_sl vs).length = vs.length
  | [], _ => rfl
  | v :: vs, hc => by
    have h1 : v.category = 1 := hc v List.mem_cons_self
    have h2 := zsl_len vs (fun v hv => hc v (List.mem_cons_of_mem _ hv))
    unfold lg_sl at h2 ⊢
    simp [List.flatMap_cons, h1, h2]
section ZM
variable {Y : zY} {as : List zAV} {ls0 : List (Option zAV)} {M M1 : zM} {l : Launch} {D : va_G} {cI cG : ClassId} {ad : Nat → Nat} {ids : List Nat} {sz : Nat}
theorem zentry {Ls : Array Slot} {n : Nat} (hl : lv_has Ls n (lv_args 0 (as.map (zcv ad)))) (hl0 : zle ls0 (as.map some)) (hcat : ∀ v ∈ as, ∀ x, v ≠ zL x) (hok : ∀ v ∈ as, zok ids v) : zF ad ids n Ls ls0 [] := by
  refine ⟨⟨hl.1, hl.2.1, fun q hq => ?_⟩, fun v hv => ?_, fun v hv => by cases hv⟩
  · obtain ⟨j, w, hj, rfl⟩ := (zlv_mem ad _ 0 q).mp hq
    have h1 := zle_at hl0 j w hj
    rw [List.getElem?_map] at h1
    obtain ⟨w', h2, h3⟩ := Option.map_eq_some_iff.mp h1
    cases h3
    apply hl.2.2
    exact zargs_mem _ 0 (fun v hv => by
      obtain ⟨u, hu, rfl⟩ := List.mem_map.mp hv
      exact zcat1 (hcat u hu)) j _ (by rw [List.getElem?_map, h2]; rfl)
  · obtain ⟨j, hj⟩ := List.getElem?_of_mem hv
    have h1 := zle_at hl0 j v hj
    rw [List.getElem?_map] at h1
    obtain ⟨w', h2, h3⟩ := Option.map_eq_some_iff.mp h1
    cases h3
    exact hok _ (List.mem_of_getElem? h2)
theorem zMetI {v : Int32} {ty : FieldType} (hY : zYok Y) (hret : Y.2.2.2.1 = some ty) (hS : zS Y 0 ls0 [] M (some v, M1)) (hl0 : zle ls0 (as.map some)) (hcat : ∀ v ∈ as, ∀ x, v ≠ zL x) (hsz : as.length ≤ Y.2.2.1) (hok : ∀ v ∈ as, zok ids v) (hcl : zcl ids) :
    Met l Y.1 (zws Y) (zroom Y.2.2.2.2) (va_Pc (as.map (zcv ad)) (zPre D cI cG ad ids sz M)) (va_Qi (fun (r : Int32) (_ : Unit) => r = v) (fun _ t => va_P D vwCl (zW cI cG ad ids M1) t.heap) (va_A (zW cI cG ad ids M) sz)) 0 0 (va_A (zW cI cG ad ids M) sz) := by
  refine Met.ofW (cc := Y.2.1) (maxL := Y.2.2.1) (ret := Y.2.2.2.1) hY.1 rfl ?_
  intro p e s m args below meth c s₁ B hml hv
  obtain ⟨rfl, hsz0, hP, hK, hD0, hN⟩ := hv
  have hts := atoms_spec (ws := zws Y) B.pre
  have hown : s.vm.findClass Y.1.cls = some m.cls := findClass_of_methodNamed B.named
  have hlocks := B.notSynchronized
  subst hsz0
  have hcat' : ∀ v ∈ as.map (zcv ad), v.category = 1 := fun v hv => by
    obtain ⟨u, hu, rfl⟩ := List.mem_map.mp hv
    exact zcat1 (hcat u hu)
  have hl := lv_entry (as.map (zcv ad)) (n := Y.2.2.1) (by rw [zsl_len _ hcat', List.length_map]; exact hsz)
  rw [lg_entry_eq]
  generalize (lg_sl (as.map (zcv ad)) ++ List.replicate (Y.2.2.1 - (lg_sl (as.map (zcv ad))).length) Slot.unset).toArray = Ls at hl ⊢
  refine hS l D cI cG ad ids (va_A (zW cI cG ad ids M) s.heap.size) p e s m _ below meth c _ 0 0 _ s.heap [] Ls ⟨B.exec, B.bytes, hml, hown, fun w hw => hts w (List.mem_cons_of_mem _ hw), hN, hK, hcl, fun q h => Or.inr h⟩ ⟨hP, hD0.self, va_S.rf⟩ (zentry hl hl0 hcat hok) ⟨Nat.le_refl _, Nat.le_refl _, Nat.zero_le _, Nat.zero_le _⟩ ?_
  intro H' locs' Ls' pc' hB' he
  exact W.zret (ty := ty) B.exec B.bytes (by rw [B.returns, hret]) (he.2 ty hret) (fun t ht hW => ⟨⟨v, (), rfl, rfl, by show va_P D vwCl (zW cI cG ad ids M1) t.heap; rw [ht]; exact hB'.1⟩, hB'.2.2.F ht⟩) hB'.2.2.2.2 he.1
theorem zMetV (hY : zYok Y) (hret : Y.2.2.2.1 = none) (hS : zS Y 0 ls0 [] M (none, M1)) (hl0 : zle ls0 (as.map some)) (hcat : ∀ v ∈ as, ∀ x, v ≠ zL x) (hsz : as.length ≤ Y.2.2.1) (hok : ∀ v ∈ as, zok ids v) (hcl : zcl ids) :
    Met l Y.1 (zws Y) (zroom Y.2.2.2.2) (va_Pc (as.map (zcv ad)) (zPre D cI cG ad ids sz M)) (va_Qv (fun (_ : Unit) => True) (fun _ t => va_P D vwCl (zW cI cG ad ids M1) t.heap) (va_A (zW cI cG ad ids M) sz)) 0 0 (va_A (zW cI cG ad ids M) sz) := by
  refine Met.ofW (cc := Y.2.1) (maxL := Y.2.2.1) (ret := Y.2.2.2.1) hY.1 rfl ?_
  intro p e s m args below meth c s₁ B hml hv
  obtain ⟨rfl, hsz0, hP, hK, hD0, hN⟩ := hv
  have hts := atoms_spec (ws := zws Y) B.pre
  have hown : s.vm.findClass Y.1.cls = some m.cls := findClass_of_methodNamed B.named
  have hlocks := B.notSynchronized
  subst hsz0
  have hcat' : ∀ v ∈ as.map (zcv ad), v.category = 1 := fun v hv => by
    obtain ⟨u, hu, rfl⟩ := List.mem_map.mp hv
    exact zcat1 (hcat u hu)
  have hl := lv_entry (as.map (zcv ad)) (n := Y.2.2.1) (by rw [zsl_len _ hcat', List.length_map]; exact hsz)
  rw [lg_entry_eq]
  generalize (lg_sl (as.map (zcv ad)) ++ List.replicate (Y.2.2.1 - (lg_sl (as.map (zcv ad))).length) Slot.unset).toArray = Ls at hl ⊢
  refine hS l D cI cG ad ids (va_A (zW cI cG ad ids M) s.heap.size) p e s m _ below meth c _ 0 0 _ s.heap [] Ls ⟨B.exec, B.bytes, hml, hown, fun w hw => hts w (List.mem_cons_of_mem _ hw), hN, hK, hcl, fun q h => Or.inr h⟩ ⟨hP, hD0.self, va_S.rf⟩ (zentry hl hl0 hcat hok) ⟨Nat.le_refl _, Nat.le_refl _, Nat.zero_le _, Nat.zero_le _⟩ ?_
  intro H' locs' Ls' pc' hB' he
  exact W.vret B.exec B.bytes (by rw [B.returns, hret]) (fun t ht hW => ⟨⟨(), rfl, trivial, by show va_P D vwCl (zW cI cG ad ids M1) t.heap; rw [ht]; exact hB'.1⟩, hB'.2.2.F ht⟩) hB'.2.2.2.2 he
end ZM
def zsum : List zAV → Nat
  | [] => 0
  | .inl _ :: r => 1 + zsum r
  | .inr (.inl _) :: r => 2 + zsum r
  | .inr (.inr _) :: r => 1 + zsum r
theorem zsum_eq (ad : Nat → Nat) : ∀ st : List zAV, ((st.map (zcv ad)).map fun v => v.category).sum = zsum st
  | [] => rfl
  | .inl _ :: r => by rw [List.map_cons, List.map_cons, List.sum_cons, zsum_eq ad r]; rfl
  | .inr (.inl _) :: r => by rw [List.map_cons, List.map_cons, List.sum_cons, zsum_eq ad r]; rfl
  | .inr (.inr (.inl _)) :: r => by rw [List.map_cons, List.map_cons, List.sum_cons, zsum_eq ad r]; rfl
  | .inr (.inr (.inr _)) :: r => by rw [List.map_cons, List.map_cons, List.sum_cons, zsum_eq ad r]; rfl
theorem zgood {Y : zY} (hY : zYok Y) : GoodIn zU (zws Y) := by
  intro w hw
  rcases List.mem_cons.mp hw with rfl | h
  · exact ⟨hY.2.1, good_of_word (List.mem_filter.mp hY.2.1).2⟩
  · exact ⟨h, good_of_word (List.mem_filter.mp h).2⟩
/-- nothing of the world's addresses hangs on what it holds -/
theorem zD_mem {A : Nat → Prop} {cI cG : ClassId} {ad : Nat → Nat} {ids : List Nat} {M M1 : zM} (h : va_D A (zW cI cG ad ids M)) : va_D A (zW cI cG ad ids M1) := by
  have key : ∀ (k : Nat) (q : Nat × va_E), (zW cI cG ad ids M1)[k]? = some q → ∃ e, (zW cI cG ad ids M)[k]? = some (q.1, e) := by
    intro k q hk
    simp only [zW, List.getElem?_map] at hk ⊢
    cases hi : ids[k]? with
    | none => rw [hi] at hk; cases hk
    | some i => rw [hi] at hk; cases hk; exact ⟨_, rfl⟩
  refine ⟨fun i j x y hi hj hxy => ?_, fun k q hk => ?_⟩
  · obtain ⟨e1, h1⟩ := key i x hi
    obtain ⟨e2, h2⟩ := key j y hj
    exact h.1 i j _ _ h1 h2 hxy
  · obtain ⟨e1, h1⟩ := key k q hk
    exact h.2 k (q.1, e1) h1
theorem zfree {A : Nat → Prop} {cI cG : ClassId} {ad : Nat → Nat} {ids : List Nat} {M : zM} {H0 H : Heap} {locs : List Loc} (hD : va_D A (zW cI cG ad ids M)) (hS : va_S A H0 H locs) (hA : ∀ q, H0.size ≤ q → A q) : ∀ q, va_A (zW cI cG ad ids M) H.size q → A q := by
  intro q h
  rcases h with ⟨k, e, h⟩ | h
  · exact hD.2 k _ h
  · exact hA q (Nat.le_trans hS.1 h)
section ZCALL
variable {Y Y' : zY} {pc index : Nat} {ls ls0 : List (Option zAV)} {stk st as : List zAV} {M M1 : zM} {r : Option Int32 × zM}
theorem zS_callV {v : Int32} {ty : FieldType} {o ci N : Nat} {fl : List (Option zAV)} {T : u_T} (hd : decode Y.2.1 pc = .ok (.invokevirtual index, 3)) (hY : zYok Y') (hret : Y'.2.2.2.1 = some ty) (hst : stk = as.reverse ++ zO o :: st) (hlay : zlay o = .inl (ci, fl)) (hc : vwCl[ci]? = some (Y'.1.cls, T, N)) (hin : Cond.instanceMethod Y'.1 ∈ zU) (hsel : Cond.selects Y'.1.cls Y'.1 Y'.1 ∈ zU) (hlink : Cond.methodLink Y.1.cls index Y'.1 ∈ zU) (hn : (parseMethodDescriptor Y'.1.desc).map (fun d => d.parameters.length) = some as.length) (hlv : Y'.2.2.2.2 < Y.2.2.2.2) (hs8 : zsum st ≤ 8) (hcat0 : zno as = true) (hsz : (zO o :: as).length ≤ Y'.2.2.1) (hl0 : zle ls0 ((zO o :: as).map some)) (hcal : zS Y' 0 ls0 [] M (some v, M1)) (k : zS Y (pc + 3) ls (zI v :: st) M1 r) : zS Y pc ls stk M r := by
  subst hst
  have hcat := zno_spec hcat0
  intro l D cI cG ad ids A p e s m args below meth c R cells slots Q H locs Ls C B F hR hk
  have hok : ∀ v ∈ (zO o :: as), zok ids v := fun v hv => F.2.2 v (by rcases List.mem_cons.mp hv with rfl | h <;> simp_all)
  have hcat2 : ∀ v ∈ (zO o :: as), ∀ x, v ≠ zL x := fun v hv x => (List.mem_cons.mp hv).elim (fun e => by subst e; simp) (fun h => hcat v h x)
  have hM := zMetI (l := l) (D := D) (cI := cI) (cG := cG) (ad := ad) (ids := ids) (sz := H.size) (as := (zO o :: as)) hY hret hcal hl0 hcat2 hsz hok C.2.2.2.2.2.2.2.1
  have hFst : ∀ v ∈ st, zok ids v := fun v hv => F.2.2 v (by simp_all)
  have hR2 : (zroom Y'.2.2.2.2).frames + 1 ≤ R.frames ∧ 8 + (Y'.2.2.1 + 11) + (zroom Y'.2.2.2.2).locals ≤ R.locals := by
    have h5 := hY.2.2.2.2
    obtain ⟨h1, h2, -, -⟩ := hR
    simp only [zroom]
    omega
  have hFc := zfree (M := M) B.2.1 B.2.2 C.2.2.2.2.2.2.2.2
  obtain ⟨q, -, hq⟩ := zW_at (cI := cI) (cG := cG) (ad := ad) M (F.2.2 (zO o) (by simp) : o ∈ ids)
  rw [zE_obj hlay] at hq
  refine va_calli (va_runV (b := ad o) (As := as.map (zcv ad)) (rest := st.map (zcv ad)) ⟨C.1, C.2.1, C.2.2.1, C.2.2.2.1, C.2.2.2.2.1⟩ hM ⟨callB_of as.length C.2.2.2.2.1 (zgood hY) rfl rfl rfl (C.2.2.2.2.1 _ hY.2.2.1) (C.2.2.2.2.1 _ hlink) ⟨hY.2.2.2.1.1, hY.2.2.2.1.2, hn⟩ hR2, C.2.2.2.2.1 _ hin, C.2.2.2.2.1 _ hsel⟩ ⟨zblind, va_recv C.2.2.2.2.2.2.1 B.1 hc hq, fun U hU hW => ⟨rfl, by rw [hU], by rw [hU]; exact B.1, va_K.moved hW.alike C.2.2.2.2.2.2.1, B.2.1.weaken (fun _ _ _ _ => trivial), zNW_warm hW C.2.2.2.2.2.1⟩⟩ rfl (List.length_map _) F.1.1 (by simp [zcv]) (lv_room (by rw [zsum_eq]; exact hs8)) hd ⟨hR.2.2.1, hR.2.2.2⟩) B.2.2 (fun q _ h => hFc q h) hFc (fun r1 u t H1 locs1 ht hvm hw hB hz1 hk1 hS1 => ?_)
  subst hw
  rw [ht] at hB
  exact k l D cI cG ad ids A p e s m args below meth c R cells slots Q H1 locs1 Ls C ⟨hB, zD_mem B.2.1, hS1⟩ ⟨F.1, F.2.1, fun w hw => (List.mem_cons.mp hw).elim (fun e => by subst e; trivial) (hFst w)⟩ hR hk
theorem zS_callVv {o ci N : Nat} {fl : List (Option zAV)} {T : u_T} (hd : decode Y.2.1 pc = .ok (.invokevirtual index, 3)) (hY : zYok Y') (hret : Y'.2.2.2.1 = none) (hst : stk = as.reverse ++ zO o :: st) (hlay : zlay o = .inl (ci, fl)) (hc : vwCl[ci]? = some (Y'.1.cls, T, N)) (hin : Cond.instanceMethod Y'.1 ∈ zU) (hsel : Cond.selects Y'.1.cls Y'.1 Y'.1 ∈ zU) (hlink : Cond.methodLink Y.1.cls index Y'.1 ∈ zU) (hn : (parseMethodDescriptor Y'.1.desc).map (fun d => d.parameters.length) = some as.length) (hlv : Y'.2.2.2.2 < Y.2.2.2.2) (hs8 : zsum st ≤ 8) (hcat0 : zno as = true) (hsz : (zO o :: as).length ≤ Y'.2.2.1) (hl0 : zle ls0 ((zO o :: as).map some)) (hcal : zS Y' 0 ls0 [] M (none, M1)) (k : zS Y (pc + 3) ls (st) M1 r) : zS Y pc ls stk M r := by
  subst hst
  have hcat := zno_spec hcat0
  intro l D cI cG ad ids A p e s m args below meth c R cells slots Q H locs Ls C B F hR hk
  have hok : ∀ v ∈ (zO o :: as), zok ids v := fun v hv => F.2.2 v (by rcases List.mem_cons.mp hv with rfl | h <;> simp_all)
  have hcat2 : ∀ v ∈ (zO o :: as), ∀ x, v ≠ zL x := fun v hv x => (List.mem_cons.mp hv).elim (fun e => by subst e; simp) (fun h => hcat v h x)
  have hM := zMetV (l := l) (D := D) (cI := cI) (cG := cG) (ad := ad) (ids := ids) (sz := H.size) (as := (zO o :: as)) hY hret hcal hl0 hcat2 hsz hok C.2.2.2.2.2.2.2.1
  have hFst : ∀ v ∈ st, zok ids v := fun v hv => F.2.2 v (by simp_all)
  have hR2 : (zroom Y'.2.2.2.2).frames + 1 ≤ R.frames ∧ 8 + (Y'.2.2.1 + 11) + (zroom Y'.2.2.2.2).locals ≤ R.locals := by
    have h5 := hY.2.2.2.2
    obtain ⟨h1, h2, -, -⟩ := hR
    simp only [zroom]
    omega
  have hFc := zfree (M := M) B.2.1 B.2.2 C.2.2.2.2.2.2.2.2
  obtain ⟨q, -, hq⟩ := zW_at (cI := cI) (cG := cG) (ad := ad) M (F.2.2 (zO o) (by simp) : o ∈ ids)
  rw [zE_obj hlay] at hq
  refine va_callv (va_runV (b := ad o) (As := as.map (zcv ad)) (rest := st.map (zcv ad)) ⟨C.1, C.2.1, C.2.2.1, C.2.2.2.1, C.2.2.2.2.1⟩ hM ⟨callB_of as.length C.2.2.2.2.1 (zgood hY) rfl rfl rfl (C.2.2.2.2.1 _ hY.2.2.1) (C.2.2.2.2.1 _ hlink) ⟨hY.2.2.2.1.1, hY.2.2.2.1.2, hn⟩ hR2, C.2.2.2.2.1 _ hin, C.2.2.2.2.1 _ hsel⟩ ⟨zblind, va_recv C.2.2.2.2.2.2.1 B.1 hc hq, fun U hU hW => ⟨rfl, by rw [hU], by rw [hU]; exact B.1, va_K.moved hW.alike C.2.2.2.2.2.2.1, B.2.1.weaken (fun _ _ _ _ => trivial), zNW_warm hW C.2.2.2.2.2.1⟩⟩ rfl (List.length_map _) F.1.1 (by simp [zcv]) (lv_room (by rw [zsum_eq]; exact hs8)) hd ⟨hR.2.2.1, hR.2.2.2⟩) B.2.2 (fun q _ h => hFc q h) hFc (fun u t H1 locs1 ht hvm hw hB hz1 hk1 hS1 => ?_)
  rw [ht] at hB
  exact k l D cI cG ad ids A p e s m args below meth c R cells slots Q H1 locs1 Ls C ⟨hB, zD_mem B.2.1, hS1⟩ ⟨F.1, F.2.1, hFst⟩ hR hk
theorem zS_callS {v : Int32} {ty : FieldType} (hd : decode Y.2.1 pc = .ok (.invokestatic index, 3)) (hY : zYok Y') (hret : Y'.2.2.2.1 = some ty) (hst : stk = as.reverse ++ st) (hstat : Cond.static Y'.1 ∈ zU) (hlink : Cond.methodLink Y.1.cls index Y'.1 ∈ zU) (hn : (parseMethodDescriptor Y'.1.desc).map (fun d => d.parameters.length) = some as.length) (hlv : Y'.2.2.2.2 < Y.2.2.2.2) (hs8 : zsum st ≤ 8) (hcat0 : zno as = true) (hsz : as.length ≤ Y'.2.2.1) (hl0 : zle ls0 (as.map some)) (hcal : zS Y' 0 ls0 [] M (some v, M1)) (k : zS Y (pc + 3) ls (zI v :: st) M1 r) : zS Y pc ls stk M r := by
  subst hst
  have hcat := zno_spec hcat0
  intro l D cI cG ad ids A p e s m args below meth c R cells slots Q H locs Ls C B F hR hk
  have hok : ∀ v ∈ as, zok ids v := fun v hv => F.2.2 v (by simp_all)
  have hcat2 : ∀ v ∈ as, ∀ x, v ≠ zL x := hcat
  have hM := zMetI (l := l) (D := D) (cI := cI) (cG := cG) (ad := ad) (ids := ids) (sz := H.size) (as := as) hY hret hcal hl0 hcat2 hsz hok C.2.2.2.2.2.2.2.1
  have hFst : ∀ v ∈ st, zok ids v := fun v hv => F.2.2 v (by simp_all)
  have hR2 : (zroom Y'.2.2.2.2).frames + 1 ≤ R.frames ∧ 8 + (Y'.2.2.1 + 11) + (zroom Y'.2.2.2.2).locals ≤ R.locals := by
    have h5 := hY.2.2.2.2
    obtain ⟨h1, h2, -, -⟩ := hR
    simp only [zroom]
    omega
  have hFc := zfree (M := M) B.2.1 B.2.2 C.2.2.2.2.2.2.2.2
  refine va_calli (va_runS (As := as.map (zcv ad)) (rest := st.map (zcv ad)) ⟨C.1, C.2.1, C.2.2.1, C.2.2.2.1, C.2.2.2.2.1⟩ hM ⟨callB_of as.length C.2.2.2.2.1 (zgood hY) rfl rfl rfl (C.2.2.2.2.1 _ hY.2.2.1) (C.2.2.2.2.1 _ hlink) ⟨hY.2.2.2.1.1, hY.2.2.2.1.2, hn⟩ hR2, C.2.2.2.2.1 _ hstat⟩ ⟨zblind, fun U hU hW => ⟨rfl, by rw [hU], by rw [hU]; exact B.1, va_K.moved hW.alike C.2.2.2.2.2.2.1, B.2.1.weaken (fun _ _ _ _ => trivial), zNW_warm hW C.2.2.2.2.2.1⟩⟩ rfl (List.length_map _) F.1.1 (by simp [zcv]) (lv_room (by rw [zsum_eq]; exact hs8)) hd ⟨hR.2.2.1, hR.2.2.2⟩) B.2.2 (fun q _ h => hFc q h) hFc (fun r1 u t H1 locs1 ht hvm hw hB hz1 hk1 hS1 => ?_)
  subst hw
  rw [ht] at hB
  exact k l D cI cG ad ids A p e s m args below meth c R cells slots Q H1 locs1 Ls C ⟨hB, zD_mem B.2.1, hS1⟩ ⟨F.1, F.2.1, fun w hw => (List.mem_cons.mp hw).elim (fun e => by subst e; trivial) (hFst w)⟩ hR hk
theorem zS_callSv (hd : decode Y.2.1 pc = .ok (.invokestatic index, 3)) (hY : zYok Y') (hret : Y'.2.2.2.1 = none) (hst : stk = as.reverse ++ st) (hstat : Cond.static Y'.1 ∈ zU) (hlink : Cond.methodLink Y.1.cls index Y'.1 ∈ zU) (hn : (parseMethodDescriptor Y'.1.desc).map (fun d => d.parameters.length) = some as.length) (hlv : Y'.2.2.2.2 < Y.2.2.2.2) (hs8 : zsum st ≤ 8) (hcat0 : zno as = true) (hsz : as.length ≤ Y'.2.2.1) (hl0 : zle ls0 (as.map some)) (hcal : zS Y' 0 ls0 [] M (none, M1)) (k : zS Y (pc + 3) ls (st) M1 r) : zS Y pc ls stk M r := by
  subst hst
  have hcat := zno_spec hcat0
  intro l D cI cG ad ids A p e s m args below meth c R cells slots Q H locs Ls C B F hR hk
  have hok : ∀ v ∈ as, zok ids v := fun v hv => F.2.2 v (by simp_all)
  have hcat2 : ∀ v ∈ as, ∀ x, v ≠ zL x := hcat
  have hM := zMetV (l := l) (D := D) (cI := cI) (cG := cG) (ad := ad) (ids := ids) (sz := H.size) (as := as) hY hret hcal hl0 hcat2 hsz hok C.2.2.2.2.2.2.2.1
  have hFst : ∀ v ∈ st, zok ids v := fun v hv => F.2.2 v (by simp_all)
  have hR2 : (zroom Y'.2.2.2.2).frames + 1 ≤ R.frames ∧ 8 + (Y'.2.2.1 + 11) + (zroom Y'.2.2.2.2).locals ≤ R.locals := by
    have h5 := hY.2.2.2.2
    obtain ⟨h1, h2, -, -⟩ := hR
    simp only [zroom]
    omega
  have hFc := zfree (M := M) B.2.1 B.2.2 C.2.2.2.2.2.2.2.2
  refine va_callv (va_runS (As := as.map (zcv ad)) (rest := st.map (zcv ad)) ⟨C.1, C.2.1, C.2.2.1, C.2.2.2.1, C.2.2.2.2.1⟩ hM ⟨callB_of as.length C.2.2.2.2.1 (zgood hY) rfl rfl rfl (C.2.2.2.2.1 _ hY.2.2.1) (C.2.2.2.2.1 _ hlink) ⟨hY.2.2.2.1.1, hY.2.2.2.1.2, hn⟩ hR2, C.2.2.2.2.1 _ hstat⟩ ⟨zblind, fun U hU hW => ⟨rfl, by rw [hU], by rw [hU]; exact B.1, va_K.moved hW.alike C.2.2.2.2.2.2.1, B.2.1.weaken (fun _ _ _ _ => trivial), zNW_warm hW C.2.2.2.2.2.1⟩⟩ rfl (List.length_map _) F.1.1 (by simp [zcv]) (lv_room (by rw [zsum_eq]; exact hs8)) hd ⟨hR.2.2.1, hR.2.2.2⟩) B.2.2 (fun q _ h => hFc q h) hFc (fun u t H1 locs1 ht hvm hw hB hz1 hk1 hS1 => ?_)
  rw [ht] at hB
  exact k l D cI cG ad ids A p e s m args below meth c R cells slots Q H1 locs1 Ls C ⟨hB, zD_mem B.2.1, hS1⟩ ⟨F.1, F.2.1, hFst⟩ hR hk
theorem zS_callN {v : Int32} {ty : FieldType} {host : String} (hd : decode Y.2.1 pc = .ok (.invokestatic index, 3)) (hY : zYok Y') (hret : Y'.2.2.2.1 = some ty) (hst : stk = as.reverse ++ st) (hstat : Cond.static Y'.1 ∈ zU) (hlink : Cond.methodLinkNest Y.1.cls index Y'.1 host ∈ zNW) (hn : (parseMethodDescriptor Y'.1.desc).map (fun d => d.parameters.length) = some as.length) (hlv : Y'.2.2.2.2 < Y.2.2.2.2) (hs8 : zsum st ≤ 8) (hcat0 : zno as = true) (hsz : as.length ≤ Y'.2.2.1) (hl0 : zle ls0 (as.map some)) (hcal : zS Y' 0 ls0 [] M (some v, M1)) (k : zS Y (pc + 3) ls (zI v :: st) M1 r) : zS Y pc ls stk M r := by
  subst hst
  have hcat := zno_spec hcat0
  intro l D cI cG ad ids A p e s m args below meth c R cells slots Q H locs Ls C B F hR hk
  have hok : ∀ v ∈ as, zok ids v := fun v hv => F.2.2 v (by simp_all)
  have hcat2 : ∀ v ∈ as, ∀ x, v ≠ zL x := hcat
  have hM := zMetI (l := l) (D := D) (cI := cI) (cG := cG) (ad := ad) (ids := ids) (sz := H.size) (as := as) hY hret hcal hl0 hcat2 hsz hok C.2.2.2.2.2.2.2.1
  have hFst : ∀ v ∈ st, zok ids v := fun v hv => F.2.2 v (by simp_all)
  have hR2 : (zroom Y'.2.2.2.2).frames + 1 ≤ R.frames ∧ 8 + (Y'.2.2.1 + 11) + (zroom Y'.2.2.2.2).locals ≤ R.locals := by
    have h5 := hY.2.2.2.2
    obtain ⟨h1, h2, -, -⟩ := hR
    simp only [zroom]
    omega
  have hFc := zfree (M := M) B.2.1 B.2.2 C.2.2.2.2.2.2.2.2
  refine va_calli (va_runSN (As := as.map (zcv ad)) (rest := st.map (zcv ad)) ⟨C.1, C.2.1, C.2.2.1, C.2.2.2.1, C.2.2.2.2.1⟩ hM ⟨va_cnB as.length C.2.2.2.2.1 (zgood hY) rfl rfl rfl (C.2.2.2.2.2.1 _ hlink) (C.2.2.2.2.1 _ hY.2.2.1) ⟨hY.2.2.2.1.1, hY.2.2.2.1.2, hn⟩ hR2, C.2.2.2.2.1 _ hstat, trivial⟩ ⟨zblind, fun U hU hW => ⟨rfl, by rw [hU], by rw [hU]; exact B.1, va_K.moved hW.alike C.2.2.2.2.2.2.1, B.2.1.weaken (fun _ _ _ _ => trivial), zNW_warm hW C.2.2.2.2.2.1⟩⟩ rfl (List.length_map _) F.1.1 (by simp [zcv]) (lv_room (by rw [zsum_eq]; exact hs8)) hd ⟨hR.2.2.1, hR.2.2.2⟩) B.2.2 (fun q _ h => hFc q h) hFc (fun r1 u t H1 locs1 ht hvm hw hB hz1 hk1 hS1 => ?_)
  subst hw
  rw [ht] at hB
  exact k l D cI cG ad ids A p e s m args below meth c R cells slots Q H1 locs1 Ls C ⟨hB, zD_mem B.2.1, hS1⟩ ⟨F.1, F.2.1, fun w hw => (List.mem_cons.mp hw).elim (fun e => by subst e; trivial) (hFst w)⟩ hR hk
end ZCALL
section ZMATH
variable {Y : zY} {pc index : Nat} {ls : List (Option zAV)} {st : List zAV} {M : zM} {r : Option Int32 × zM}
theorem zS_min {x y : Int32} (hd : decode Y.2.1 pc = .ok (.invokestatic index, 3)) (hlink : Cond.methodLink Y.1.cls index Lib.Math.min.name ∈ zU) (h1 : Cond.static Lib.Math.min.name ∈ zU) (h2 : Cond.initialized "java/lang/Math" ∈ zU) (h3 : Cond.code Lib.Math.min.name Lib.Math.min.code 2 (some .int) ∈ zU) (hlv : 1 ≤ Y.2.2.2.2) (hs8 : zsum st ≤ 8) (k : zS Y (pc + 3) ls (zI (if y < x then y else x) :: st) M r) : zS Y pc ls (zI y :: zI x :: st) M r := by
  intro l D cI cG ad ids A p e s m args below meth c R cells slots Q H locs Ls C B F hR hk
  exact va_mmin C.1 C.2.1 (C.2.2.1.trans F.1.1.symm) C.2.2.2.1 (C.2.2.2.2.1 _ hlink) (C.2.2.2.2.1 _ h1) (C.2.2.2.2.1 _ h2) (C.2.2.2.2.1 _ h3) (Nat.le_trans hlv hR.1) (by rw [zsum_eq]; have := hR.2.1; omega) hR.2.2.1 hR.2.2.2 hd (k l D cI cG ad ids A p e s m args below meth c R cells slots Q H locs Ls C B (F.tl.tl.push trivial) hR hk)
theorem zS_max {x y : Int32} (hd : decode Y.2.1 pc = .ok (.invokestatic index, 3)) (hlink : Cond.methodLink Y.1.cls index Lib.Math.max.name ∈ zU) (h1 : Cond.static Lib.Math.max.name ∈ zU) (h2 : Cond.initialized "java/lang/Math" ∈ zU) (h3 : Cond.code Lib.Math.max.name Lib.Math.max.code 2 (some .int) ∈ zU) (hlv : 1 ≤ Y.2.2.2.2) (hs8 : zsum st ≤ 8) (k : zS Y (pc + 3) ls (zI (if x < y then y else x) :: st) M r) : zS Y pc ls (zI y :: zI x :: st) M r := by
  intro l D cI cG ad ids A p e s m args below meth c R cells slots Q H locs Ls C B F hR hk
  exact va_mmax C.1 C.2.1 (C.2.2.1.trans F.1.1.symm) C.2.2.2.1 (C.2.2.2.2.1 _ hlink) (C.2.2.2.2.1 _ h1) (C.2.2.2.2.1 _ h2) (C.2.2.2.2.1 _ h3) (Nat.le_trans hlv hR.1) (by rw [zsum_eq]; have := hR.2.1; omega) hR.2.2.1 hR.2.2.2 hd (k l D cI cG ad ids A p e s m args below meth c R cells slots Q H locs Ls C B (F.tl.tl.push trivial) hR hk)
theorem zS_abs {x : Int32} (hd : decode Y.2.1 pc = .ok (.invokestatic index, 3)) (hlink : Cond.methodLink Y.1.cls index Lib.Math.abs.name ∈ zU) (h1 : Cond.static Lib.Math.abs.name ∈ zU) (h2 : Cond.initialized "java/lang/Math" ∈ zU) (h3 : Cond.code Lib.Math.abs.name Lib.Math.abs.code 1 (some .int) ∈ zU) (hlv : 1 ≤ Y.2.2.2.2) (hs8 : zsum st ≤ 8) (k : zS Y (pc + 3) ls (zI (if 0 ≤ x then x else 0 - x) :: st) M r) : zS Y pc ls (zI x :: st) M r := by
  intro l D cI cG ad ids A p e s m args below meth c R cells slots Q H locs Ls C B F hR hk
  exact va_mabs C.1 C.2.1 (C.2.2.1.trans F.1.1.symm) C.2.2.2.1 (C.2.2.2.2.1 _ hlink) (C.2.2.2.2.1 _ h1) (C.2.2.2.2.1 _ h2) (C.2.2.2.2.1 _ h3) (Nat.le_trans hlv hR.1) (by rw [zsum_eq]; have := hR.2.1; omega) hR.2.2.1 hR.2.2.2 hd (k l D cI cG ad ids A p e s m args below meth c R cells slots Q H locs Ls C B (F.tl.push trivial) hR hk)
def zrow (M : zM) (i : Nat) (f : Nat → Int32) : zM := fun a => if a = i then f else M a
theorem zW_row {cI cG : ClassId} {ad : Nat → Nat} {ids : List Nat} {A : Nat → Prop} {q i : Nat} {f : Nat → Int32} (hD : va_D A (zW cI cG ad ids M)) (hq : ids[q]? = some i) : (zW cI cG ad ids M).set q (ad i, zE cI cG ad (zrow M i f) i) = zW cI cG ad ids (zrow M i f) := by
  apply List.ext_getElem?
  intro k
  have hl : q < (zW cI cG ad ids M).length := by
    have := (List.getElem?_eq_some_iff.mp hq).1
    simpa [zW] using this
  by_cases hk : k = q
  · subst hk
    rw [List.getElem?_set_self hl]
    simp [zW, hq]
  · rw [List.getElem?_set_ne (Ne.symm hk)]
    simp only [zW, List.getElem?_map]
    cases hi : ids[k]? with
    | none => rfl
    | some i' =>
      have hne : i' ≠ i := by
        intro h
        subst h
        exact hk (hD.1 k q (ad i', zE cI cG ad M i') (ad i', zE cI cG ad M i') (by simp [zW, hi]) (by simp [zW, hq]) rfl)
      simp only [Option.map_some]
      rw [zE_congr (M1 := zrow M i f) (M2 := M) (by simp [zrow, hne])]
theorem zS_acopy {a b n0 n1 : Nat} {sp dp n : Int32} (h1 : ¬ sp < 0) (h2 : ¬ dp < 0) (h3 : ¬ n < 0) (h4 : sp.toNatClampNeg + n.toNatClampNeg ≤ n0) (h5 : dp.toNatClampNeg + n.toNatClampNeg ≤ n1) (hd : decode Y.2.1 pc = .ok (.invokestatic index, 3)) (hlink : Cond.methodLink Y.1.cls index arraycopyName ∈ zU) (w1 : Cond.native arraycopyName ∈ zU) (w2 : Cond.static arraycopyName ∈ zU) (w3 : Cond.initialized "java/lang/System" ∈ zU) (hlv : 1 ≤ Y.2.2.2.2) (hs8 : zsum st ≤ 8) (k : zS Y (pc + 3) ls st (zrow M b (va_cpy (M a) (M b) sp.toNatClampNeg dp.toNatClampNeg n.toNatClampNeg)) r) : zS Y pc ls (zI n :: zI dp :: zA b n1 :: zI sp :: zA a n0 :: st) M r := by
  intro l D cI cG ad ids A p e s m args below meth c R cells slots Q H locs Ls C B F hR hk
  have hb : b ∈ ids ∧ zlay b = .inr (.inr n1) := F.tl.tl.hd
  have ha : a ∈ ids ∧ zlay a = .inr (.inr n0) := F.tl.tl.tl.tl.hd
  obtain ⟨q, hi, hq⟩ := zW_at (cI := cI) (cG := cG) (ad := ad) M hb.1
  obtain ⟨q', hi', hq'⟩ := zW_at (cI := cI) (cG := cG) (ad := ad) M ha.1
  rw [zE_arr hb.2] at hq
  rw [zE_arr ha.2] at hq'
  refine va_copyi C.1 C.2.1 (C.2.2.1.trans F.1.1.symm) C.2.2.2.1 (C.2.2.2.2.1 _ hlink) (C.2.2.2.2.1 _ w1) (C.2.2.2.2.1 _ w2) (C.2.2.2.2.1 _ w3) C.2.2.2.2.2.2.1 B.1 B.2.1 B.2.2 q' q 0 0 hq' hq rfl rfl rfl h1 h2 h3 h4 h5 (fun _ _ => rfl) (Nat.le_trans hlv hR.1) (by rw [zsum_eq, show nativeFrameWords "java/lang/System" "arraycopy" 5 = 7 from by decide]; have := hR.2.1; omega) hd (fun H1 locs1 g1 g2 g3 => k l D cI cG ad ids A p e s m args below meth c R cells slots Q H1 locs1 Ls C ?_ F.tl.tl.tl.tl.tl hR hk)
  have he : (.inl (cI, n1, .inl (va_cpy (M a) (M b) sp.toNatClampNeg dp.toNatClampNeg n.toNatClampNeg)) : va_E) = zE cI cG ad (zrow M b (va_cpy (M a) (M b) sp.toNatClampNeg dp.toNatClampNeg n.toNatClampNeg)) b := by
    rw [zE_arr hb.2]
    simp [zrow]
  rw [he, zW_row B.2.1 hi] at g1 g2
  exact ⟨g1, g2, g3⟩
end ZMATH
end
