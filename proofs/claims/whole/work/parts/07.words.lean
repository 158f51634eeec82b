theorem zU_in {w : Cond} (h : w ∈ lw_tbl) (g : goodWord w = true) : w ∈ zU := List.mem_filter.mpr ⟨h, g⟩
theorem zU_all {ws : List Cond} (h : ∀ w ∈ ws, w ∈ lw_tbl) (g : ws.all goodWord = true) : ∀ w ∈ ws, w ∈ zU := fun w hw => zU_in (h w hw) (List.all_eq_true.mp g w hw)
theorem uin_0 : ∀ w ∈ u_ws RX0 TX0 1, w ∈ zU := zU_all (by decide +kernel) (by decide +kernel)
theorem uin_1 : ∀ w ∈ u_ws RX1 TX1 3, w ∈ zU := zU_all (by decide +kernel) (by decide +kernel)
theorem uin_2 : ∀ w ∈ u_ws RX2 TX2 5, w ∈ zU := zU_all (by decide +kernel) (by decide +kernel)
theorem uin_3 : ∀ w ∈ u_ws RX3 TX3 7, w ∈ zU := zU_all (by decide +kernel) (by decide +kernel)
theorem uin_4 : ∀ w ∈ u_ws RX4 TX4 2, w ∈ zU := zU_all (by decide +kernel) (by decide +kernel)
theorem uin_5 : ∀ w ∈ u_ws RX5 TX5 11, w ∈ zU := zU_all (by decide +kernel) (by decide +kernel)
theorem uin_6 : ∀ w ∈ u_ws RX6 TX6 8, w ∈ zU := zU_all (by decide +kernel) (by decide +kernel)
theorem uin_7 : ∀ w ∈ u_ws RX7 TX7 5, w ∈ zU := zU_all (by decide +kernel) (by decide +kernel)
theorem uin_8 : ∀ w ∈ u_ws RX8 TX8 8, w ∈ zU := zU_all (by decide +kernel) (by decide +kernel)
theorem uin_9 : ∀ w ∈ u_ws RX9 TX9 34, w ∈ zU := zU_all (by decide +kernel) (by decide +kernel)
theorem lay_0 : zlay 0 = .inl (8, [some (zO 1), some (zO 2), some (zO 3), some (zO 4), some (zO 5), some (zO 6), some (zO 7), some (zO 8)]) := rfl
theorem lay_1 : zlay 1 = .inl (2, [some (zA 10 8), some (zO 11), some (zA 20 8), some (zA 21 8), none]) := rfl
theorem lay_2 : zlay 2 = .inl (7, [some (zO 1), some (zA 22 24), some (zA 23 24), some (zA 24 24), none]) := rfl
theorem lay_3 : zlay 3 = .inl (6, [some (zO 1), some (zO 25), some (zO 29), some (zA 33 12), none, some (zA 34 10), some (zA 35 10), some (zA 36 12)]) := rfl
theorem lay_4 : zlay 4 = .inl (4, [some (zA 37 5), some (zO 38)]) := rfl
theorem lay_5 : zlay 5 = .inl (1, [some (zO 4), some (zA 44 16), none]) := rfl
theorem lay_6 : zlay 6 = .inl (5, [some (zO 4), some (zA 45 3), some (zA 46 3), some (zO 47), none, none, none, some (zO 51), some (zA 68 16), none, some (zA 69 16)]) := rfl
theorem lay_7 : zlay 7 = .inl (3, [some (zA 70 6), some (zA 71 6), some (zA 72 6), some (zA 73 6), none, none, none]) := rfl
theorem lay_8 : zlay 8 = .inl (0, [some (zA 74 9)]) := rfl
theorem lay_9 : zlay 9 = .inl (9, [some (zA 75 8), some (zA 76 32), some (zA 77 8), some (zA 78 8), none, none, some (zA 79 24), some (zA 80 24), some (zA 81 24), some (zA 82 24), some (zA 83 27), none, some (zA 84 12), some (zA 85 130), some (zA 86 5), some (zA 87 20), none, some (zA 88 16), none, none, none, some (zA 89 3), some (zA 90 192), some (zA 91 1296), some (zA 92 153), some (zA 93 16), some (zA 94 6), some (zA 95 6), some (zA 96 6), some (zA 97 6), none, none, none, some (zA 98 9)]) := rfl
theorem lay_11 : zlay 11 = .inr (.inl (12, 8, 4)) := rfl
theorem lay_25 : zlay 25 = .inr (.inl (26, 3, 8)) := rfl
theorem lay_29 : zlay 29 = .inr (.inl (30, 3, 9)) := rfl
theorem lay_38 : zlay 38 = .inr (.inl (39, 5, 4)) := rfl
theorem lay_47 : zlay 47 = .inr (.inl (48, 3, 64)) := rfl
theorem lay_51 : zlay 51 = .inr (.inl (52, 16, 9)) := rfl
theorem gf_0_0 {Y : zY} {pc index : Nat} {ls : List (Option zAV)} {st : List zAV} {M : zM} {r : Option Int32 × zM} (hd : decode Y.2.1 pc = .ok (.getfield index, 3)) (hlink : Cond.fieldLink Y.1.cls index RX8 "movements" "LPiperHouse$Movements;" ∈ zU) (k : zS Y (pc + 3) ls (zO 1 :: st) M r) : zS Y pc ls (zO 0 :: st) M r := zS_getR (T := TX8) (N := 8) hd lay_0 (j := 0) rfl rfl (by decide) rfl uin_8 hlink k
theorem gf_0_1 {Y : zY} {pc index : Nat} {ls : List (Option zAV)} {st : List zAV} {M : zM} {r : Option Int32 × zM} (hd : decode Y.2.1 pc = .ok (.getfield index, 3)) (hlink : Cond.fieldLink Y.1.cls index RX8 "tune" "LPiperHouse$Tune;" ∈ zU) (k : zS Y (pc + 3) ls (zO 2 :: st) M r) : zS Y pc ls (zO 0 :: st) M r := zS_getR (T := TX8) (N := 8) hd lay_0 (j := 1) rfl rfl (by decide) rfl uin_8 hlink k
theorem gf_0_2 {Y : zY} {pc index : Nat} {ls : List (Option zAV)} {st : List zAV} {M : zM} {r : Option Int32 × zM} (hd : decode Y.2.1 pc = .ok (.getfield index, 3)) (hlink : Cond.fieldLink Y.1.cls index RX8 "song" "LPiperHouse$Song;" ∈ zU) (k : zS Y (pc + 3) ls (zO 3 :: st) M r) : zS Y pc ls (zO 0 :: st) M r := zS_getR (T := TX8) (N := 8) hd lay_0 (j := 2) rfl rfl (by decide) rfl uin_8 hlink k
theorem gf_0_3 {Y : zY} {pc index : Nat} {ls : List (Option zAV)} {st : List zAV} {M : zM} {r : Option Int32 × zM} (hd : decode Y.2.1 pc = .ok (.getfield index, 3)) (hlink : Cond.fieldLink Y.1.cls index RX8 "rules" "LPiperHouse$Rules;" ∈ zU) (k : zS Y (pc + 3) ls (zO 4 :: st) M r) : zS Y pc ls (zO 0 :: st) M r := zS_getR (T := TX8) (N := 8) hd lay_0 (j := 3) rfl rfl (by decide) rfl uin_8 hlink k
theorem gf_0_4 {Y : zY} {pc index : Nat} {ls : List (Option zAV)} {st : List zAV} {M : zM} {r : Option Int32 × zM} (hd : decode Y.2.1 pc = .ok (.getfield index, 3)) (hlink : Cond.fieldLink Y.1.cls index RX8 "ground" "LPiperHouse$Ground;" ∈ zU) (k : zS Y (pc + 3) ls (zO 5 :: st) M r) : zS Y pc ls (zO 0 :: st) M r := zS_getR (T := TX8) (N := 8) hd lay_0 (j := 4) rfl rfl (by decide) rfl uin_8 hlink k
theorem gf_0_5 {Y : zY} {pc index : Nat} {ls : List (Option zAV)} {st : List zAV} {M : zM} {r : Option Int32 × zM} (hd : decode Y.2.1 pc = .ok (.getfield index, 3)) (hlink : Cond.fieldLink Y.1.cls index RX8 "sheets" "LPiperHouse$Sheets;" ∈ zU) (k : zS Y (pc + 3) ls (zO 6 :: st) M r) : zS Y pc ls (zO 0 :: st) M r := zS_getR (T := TX8) (N := 8) hd lay_0 (j := 5) rfl rfl (by decide) rfl uin_8 hlink k
theorem gf_0_6 {Y : zY} {pc index : Nat} {ls : List (Option zAV)} {st : List zAV} {M : zM} {r : Option Int32 × zM} (hd : decode Y.2.1 pc = .ok (.getfield index, 3)) (hlink : Cond.fieldLink Y.1.cls index RX8 "pipers" "LPiperHouse$Pipers;" ∈ zU) (k : zS Y (pc + 3) ls (zO 7 :: st) M r) : zS Y pc ls (zO 0 :: st) M r := zS_getR (T := TX8) (N := 8) hd lay_0 (j := 6) rfl rfl (by decide) rfl uin_8 hlink k
theorem gf_0_7 {Y : zY} {pc index : Nat} {ls : List (Option zAV)} {st : List zAV} {M : zM} {r : Option Int32 × zM} (hd : decode Y.2.1 pc = .ok (.getfield index, 3)) (hlink : Cond.fieldLink Y.1.cls index RX8 "drone" "LPiperHouse$Drone;" ∈ zU) (k : zS Y (pc + 3) ls (zO 8 :: st) M r) : zS Y pc ls (zO 0 :: st) M r := zS_getR (T := TX8) (N := 8) hd lay_0 (j := 7) rfl rfl (by decide) rfl uin_8 hlink k
theorem gf_1_0 {Y : zY} {pc index : Nat} {ls : List (Option zAV)} {st : List zAV} {M : zM} {r : Option Int32 × zM} (hd : decode Y.2.1 pc = .ok (.getfield index, 3)) (hlink : Cond.fieldLink Y.1.cls index RX2 "size" "[I" ∈ zU) (k : zS Y (pc + 3) ls (zA 10 8 :: st) M r) : zS Y pc ls (zO 1 :: st) M r := zS_getR (T := TX2) (N := 5) hd lay_1 (j := 0) rfl rfl (by decide) rfl uin_2 hlink k
theorem gf_1_1 {Y : zY} {pc index : Nat} {ls : List (Option zAV)} {st : List zAV} {M : zM} {r : Option Int32 × zM} (hd : decode Y.2.1 pc = .ok (.getfield index, 3)) (hlink : Cond.fieldLink Y.1.cls index RX2 "grace" "[[I" ∈ zU) (k : zS Y (pc + 3) ls (zO 11 :: st) M r) : zS Y pc ls (zO 1 :: st) M r := zS_getR (T := TX2) (N := 5) hd lay_1 (j := 1) rfl rfl (by decide) rfl uin_2 hlink k
theorem gf_1_2 {Y : zY} {pc index : Nat} {ls : List (Option zAV)} {st : List zAV} {M : zM} {r : Option Int32 × zM} (hd : decode Y.2.1 pc = .ok (.getfield index, 3)) (hlink : Cond.fieldLink Y.1.cls index RX2 "from" "[I" ∈ zU) (k : zS Y (pc + 3) ls (zA 20 8 :: st) M r) : zS Y pc ls (zO 1 :: st) M r := zS_getR (T := TX2) (N := 5) hd lay_1 (j := 2) rfl rfl (by decide) rfl uin_2 hlink k
theorem gf_1_3 {Y : zY} {pc index : Nat} {ls : List (Option zAV)} {st : List zAV} {M : zM} {r : Option Int32 × zM} (hd : decode Y.2.1 pc = .ok (.getfield index, 3)) (hlink : Cond.fieldLink Y.1.cls index RX2 "to" "[I" ∈ zU) (k : zS Y (pc + 3) ls (zA 21 8 :: st) M r) : zS Y pc ls (zO 1 :: st) M r := zS_getR (T := TX2) (N := 5) hd lay_1 (j := 3) rfl rfl (by decide) rfl uin_2 hlink k
theorem gf_1_4 {Y : zY} {pc index : Nat} {ls : List (Option zAV)} {st : List zAV} {M : zM} {r : Option Int32 × zM} (hd : decode Y.2.1 pc = .ok (.getfield index, 3)) (hlink : Cond.fieldLink Y.1.cls index RX2 "beat" "I" ∈ zU) (k : zS Y (pc + 3) ls (zI (M 1 4) :: st) M r) : zS Y pc ls (zO 1 :: st) M r := zS_getI (T := TX2) (N := 5) hd lay_1 (j := 4) rfl rfl (by decide) rfl uin_2 hlink k
theorem pf_1_4 {Y : zY} {pc index : Nat} {ls : List (Option zAV)} {st : List zAV} {M : zM} {r : Option Int32 × zM} {x : Int32} (hd : decode Y.2.1 pc = .ok (.putfield index, 3)) (hlink : Cond.fieldLink Y.1.cls index RX2 "beat" "I" ∈ zU) (k : zS Y (pc + 3) ls st (zset M 1 4 x) r) : zS Y pc ls (zI x :: zO 1 :: st) M r := zS_putI (T := TX2) (N := 5) tyX2 tyX2_ok nmX2 hd lay_1 (j := 4) rfl rfl (by decide) rfl rfl (by decide +kernel) uin_2 hlink k
theorem gf_2_0 {Y : zY} {pc index : Nat} {ls : List (Option zAV)} {st : List zAV} {M : zM} {r : Option Int32 × zM} (hd : decode Y.2.1 pc = .ok (.getfield index, 3)) (hlink : Cond.fieldLink Y.1.cls index RX7 "movements" "LPiperHouse$Movements;" ∈ zU) (k : zS Y (pc + 3) ls (zO 1 :: st) M r) : zS Y pc ls (zO 2 :: st) M r := zS_getR (T := TX7) (N := 5) hd lay_2 (j := 0) rfl rfl (by decide) rfl uin_7 hlink k
theorem gf_2_1 {Y : zY} {pc index : Nat} {ls : List (Option zAV)} {st : List zAV} {M : zM} {r : Option Int32 × zM} (hd : decode Y.2.1 pc = .ok (.getfield index, 3)) (hlink : Cond.fieldLink Y.1.cls index RX7 "note" "[I" ∈ zU) (k : zS Y (pc + 3) ls (zA 22 24 :: st) M r) : zS Y pc ls (zO 2 :: st) M r := zS_getR (T := TX7) (N := 5) hd lay_2 (j := 1) rfl rfl (by decide) rfl uin_7 hlink k
theorem gf_2_2 {Y : zY} {pc index : Nat} {ls : List (Option zAV)} {st : List zAV} {M : zM} {r : Option Int32 × zM} (hd : decode Y.2.1 pc = .ok (.getfield index, 3)) (hlink : Cond.fieldLink Y.1.cls index RX7 "length" "[I" ∈ zU) (k : zS Y (pc + 3) ls (zA 23 24 :: st) M r) : zS Y pc ls (zO 2 :: st) M r := zS_getR (T := TX7) (N := 5) hd lay_2 (j := 2) rfl rfl (by decide) rfl uin_7 hlink k
theorem gf_2_3 {Y : zY} {pc index : Nat} {ls : List (Option zAV)} {st : List zAV} {M : zM} {r : Option Int32 × zM} (hd : decode Y.2.1 pc = .ok (.getfield index, 3)) (hlink : Cond.fieldLink Y.1.cls index RX7 "movement" "[I" ∈ zU) (k : zS Y (pc + 3) ls (zA 24 24 :: st) M r) : zS Y pc ls (zO 2 :: st) M r := zS_getR (T := TX7) (N := 5) hd lay_2 (j := 3) rfl rfl (by decide) rfl uin_7 hlink k
theorem gf_2_4 {Y : zY} {pc index : Nat} {ls : List (Option zAV)} {st : List zAV} {M : zM} {r : Option Int32 × zM} (hd : decode Y.2.1 pc = .ok (.getfield index, 3)) (hlink : Cond.fieldLink Y.1.cls index RX7 "size" "I" ∈ zU) (k : zS Y (pc + 3) ls (zI (M 2 4) :: st) M r) : zS Y pc ls (zO 2 :: st) M r := zS_getI (T := TX7) (N := 5) hd lay_2 (j := 4) rfl rfl (by decide) rfl uin_7 hlink k
theorem pf_2_4 {Y : zY} {pc index : Nat} {ls : List (Option zAV)} {st : List zAV} {M : zM} {r : Option Int32 × zM} {x : Int32} (hd : decode Y.2.1 pc = .ok (.putfield index, 3)) (hlink : Cond.fieldLink Y.1.cls index RX7 "size" "I" ∈ zU) (k : zS Y (pc + 3) ls st (zset M 2 4 x) r) : zS Y pc ls (zI x :: zO 2 :: st) M r := zS_putI (T := TX7) (N := 5) tyX7 tyX7_ok nmX7 hd lay_2 (j := 4) rfl rfl (by decide) rfl rfl (by decide +kernel) uin_7 hlink k
theorem gf_3_0 {Y : zY} {pc index : Nat} {ls : List (Option zAV)} {st : List zAV} {M : zM} {r : Option Int32 × zM} (hd : decode Y.2.1 pc = .ok (.getfield index, 3)) (hlink : Cond.fieldLink Y.1.cls index RX6 "movements" "LPiperHouse$Movements;" ∈ zU) (k : zS Y (pc + 3) ls (zO 1 :: st) M r) : zS Y pc ls (zO 3 :: st) M r := zS_getR (T := TX6) (N := 8) hd lay_3 (j := 0) rfl rfl (by decide) rfl uin_6 hlink k
theorem gf_3_1 {Y : zY} {pc index : Nat} {ls : List (Option zAV)} {st : List zAV} {M : zM} {r : Option Int32 × zM} (hd : decode Y.2.1 pc = .ok (.getfield index, 3)) (hlink : Cond.fieldLink Y.1.cls index RX6 "head" "[[I" ∈ zU) (k : zS Y (pc + 3) ls (zO 25 :: st) M r) : zS Y pc ls (zO 3 :: st) M r := zS_getR (T := TX6) (N := 8) hd lay_3 (j := 1) rfl rfl (by decide) rfl uin_6 hlink k
theorem gf_3_2 {Y : zY} {pc index : Nat} {ls : List (Option zAV)} {st : List zAV} {M : zM} {r : Option Int32 × zM} (hd : decode Y.2.1 pc = .ok (.getfield index, 3)) (hlink : Cond.fieldLink Y.1.cls index RX6 "tail" "[[I" ∈ zU) (k : zS Y (pc + 3) ls (zO 29 :: st) M r) : zS Y pc ls (zO 3 :: st) M r := zS_getR (T := TX6) (N := 8) hd lay_3 (j := 2) rfl rfl (by decide) rfl uin_6 hlink k
theorem gf_3_3 {Y : zY} {pc index : Nat} {ls : List (Option zAV)} {st : List zAV} {M : zM} {r : Option Int32 × zM} (hd : decode Y.2.1 pc = .ok (.getfield index, 3)) (hlink : Cond.fieldLink Y.1.cls index RX6 "heard" "[I" ∈ zU) (k : zS Y (pc + 3) ls (zA 33 12 :: st) M r) : zS Y pc ls (zO 3 :: st) M r := zS_getR (T := TX6) (N := 8) hd lay_3 (j := 3) rfl rfl (by decide) rfl uin_6 hlink k
theorem gf_3_4 {Y : zY} {pc index : Nat} {ls : List (Option zAV)} {st : List zAV} {M : zM} {r : Option Int32 × zM} (hd : decode Y.2.1 pc = .ok (.getfield index, 3)) (hlink : Cond.fieldLink Y.1.cls index RX6 "size" "I" ∈ zU) (k : zS Y (pc + 3) ls (zI (M 3 4) :: st) M r) : zS Y pc ls (zO 3 :: st) M r := zS_getI (T := TX6) (N := 8) hd lay_3 (j := 4) rfl rfl (by decide) rfl uin_6 hlink k
theorem pf_3_4 {Y : zY} {pc index : Nat} {ls : List (Option zAV)} {st : List zAV} {M : zM} {r : Option Int32 × zM} {x : Int32} (hd : decode Y.2.1 pc = .ok (.putfield index, 3)) (hlink : Cond.fieldLink Y.1.cls index RX6 "size" "I" ∈ zU) (k : zS Y (pc + 3) ls st (zset M 3 4 x) r) : zS Y pc ls (zI x :: zO 3 :: st) M r := zS_putI (T := TX6) (N := 8) tyX6 tyX6_ok nmX6 hd lay_3 (j := 4) rfl rfl (by decide) rfl rfl (by decide +kernel) uin_6 hlink k
theorem gf_3_5 {Y : zY} {pc index : Nat} {ls : List (Option zAV)} {st : List zAV} {M : zM} {r : Option Int32 × zM} (hd : decode Y.2.1 pc = .ok (.getfield index, 3)) (hlink : Cond.fieldLink Y.1.cls index RX6 "rowsTo" "[I" ∈ zU) (k : zS Y (pc + 3) ls (zA 34 10 :: st) M r) : zS Y pc ls (zO 3 :: st) M r := zS_getR (T := TX6) (N := 8) hd lay_3 (j := 5) rfl rfl (by decide) rfl uin_6 hlink k
theorem gf_3_6 {Y : zY} {pc index : Nat} {ls : List (Option zAV)} {st : List zAV} {M : zM} {r : Option Int32 × zM} (hd : decode Y.2.1 pc = .ok (.getfield index, 3)) (hlink : Cond.fieldLink Y.1.cls index RX6 "rowsOn" "[I" ∈ zU) (k : zS Y (pc + 3) ls (zA 35 10 :: st) M r) : zS Y pc ls (zO 3 :: st) M r := zS_getR (T := TX6) (N := 8) hd lay_3 (j := 6) rfl rfl (by decide) rfl uin_6 hlink k
theorem gf_3_7 {Y : zY} {pc index : Nat} {ls : List (Option zAV)} {st : List zAV} {M : zM} {r : Option Int32 × zM} (hd : decode Y.2.1 pc = .ok (.getfield index, 3)) (hlink : Cond.fieldLink Y.1.cls index RX6 "open" "[I" ∈ zU) (k : zS Y (pc + 3) ls (zA 36 12 :: st) M r) : zS Y pc ls (zO 3 :: st) M r := zS_getR (T := TX6) (N := 8) hd lay_3 (j := 7) rfl rfl (by decide) rfl uin_6 hlink k
theorem gf_4_0 {Y : zY} {pc index : Nat} {ls : List (Option zAV)} {st : List zAV} {M : zM} {r : Option Int32 × zM} (hd : decode Y.2.1 pc = .ok (.getfield index, 3)) (hlink : Cond.fieldLink Y.1.cls index RX4 "size" "[I" ∈ zU) (k : zS Y (pc + 3) ls (zA 37 5 :: st) M r) : zS Y pc ls (zO 4 :: st) M r := zS_getR (T := TX4) (N := 2) hd lay_4 (j := 0) rfl rfl (by decide) rfl uin_4 hlink k
theorem gf_4_1 {Y : zY} {pc index : Nat} {ls : List (Option zAV)} {st : List zAV} {M : zM} {r : Option Int32 × zM} (hd : decode Y.2.1 pc = .ok (.getfield index, 3)) (hlink : Cond.fieldLink Y.1.cls index RX4 "part" "[[I" ∈ zU) (k : zS Y (pc + 3) ls (zO 38 :: st) M r) : zS Y pc ls (zO 4 :: st) M r := zS_getR (T := TX4) (N := 2) hd lay_4 (j := 1) rfl rfl (by decide) rfl uin_4 hlink k
theorem gf_5_0 {Y : zY} {pc index : Nat} {ls : List (Option zAV)} {st : List zAV} {M : zM} {r : Option Int32 × zM} (hd : decode Y.2.1 pc = .ok (.getfield index, 3)) (hlink : Cond.fieldLink Y.1.cls index RX1 "rules" "LPiperHouse$Rules;" ∈ zU) (k : zS Y (pc + 3) ls (zO 4 :: st) M r) : zS Y pc ls (zO 5 :: st) M r := zS_getR (T := TX1) (N := 3) hd lay_5 (j := 0) rfl rfl (by decide) rfl uin_1 hlink k
theorem gf_5_1 {Y : zY} {pc index : Nat} {ls : List (Option zAV)} {st : List zAV} {M : zM} {r : Option Int32 × zM} (hd : decode Y.2.1 pc = .ok (.getfield index, 3)) (hlink : Cond.fieldLink Y.1.cls index RX1 "note" "[I" ∈ zU) (k : zS Y (pc + 3) ls (zA 44 16 :: st) M r) : zS Y pc ls (zO 5 :: st) M r := zS_getR (T := TX1) (N := 3) hd lay_5 (j := 1) rfl rfl (by decide) rfl uin_1 hlink k
theorem gf_5_2 {Y : zY} {pc index : Nat} {ls : List (Option zAV)} {st : List zAV} {M : zM} {r : Option Int32 × zM} (hd : decode Y.2.1 pc = .ok (.getfield index, 3)) (hlink : Cond.fieldLink Y.1.cls index RX1 "size" "I" ∈ zU) (k : zS Y (pc + 3) ls (zI (M 5 2) :: st) M r) : zS Y pc ls (zO 5 :: st) M r := zS_getI (T := TX1) (N := 3) hd lay_5 (j := 2) rfl rfl (by decide) rfl uin_1 hlink k
theorem pf_5_2 {Y : zY} {pc index : Nat} {ls : List (Option zAV)} {st : List zAV} {M : zM} {r : Option Int32 × zM} {x : Int32} (hd : decode Y.2.1 pc = .ok (.putfield index, 3)) (hlink : Cond.fieldLink Y.1.cls index RX1 "size" "I" ∈ zU) (k : zS Y (pc + 3) ls st (zset M 5 2 x) r) : zS Y pc ls (zI x :: zO 5 :: st) M r := zS_putI (T := TX1) (N := 3) tyX1 tyX1_ok nmX1 hd lay_5 (j := 2) rfl rfl (by decide) rfl rfl (by decide +kernel) uin_1 hlink k
theorem gf_6_0 {Y : zY} {pc index : Nat} {ls : List (Option zAV)} {st : List zAV} {M : zM} {r : Option Int32 × zM} (hd : decode Y.2.1 pc = .ok (.getfield index, 3)) (hlink : Cond.fieldLink Y.1.cls index RX5 "rules" "LPiperHouse$Rules;" ∈ zU) (k : zS Y (pc + 3) ls (zO 4 :: st) M r) : zS Y pc ls (zO 6 :: st) M r := zS_getR (T := TX5) (N := 11) hd lay_6 (j := 0) rfl rfl (by decide) rfl uin_5 hlink k
theorem gf_6_1 {Y : zY} {pc index : Nat} {ls : List (Option zAV)} {st : List zAV} {M : zM} {r : Option Int32 × zM} (hd : decode Y.2.1 pc = .ok (.getfield index, 3)) (hlink : Cond.fieldLink Y.1.cls index RX5 "rule" "[I" ∈ zU) (k : zS Y (pc + 3) ls (zA 45 3 :: st) M r) : zS Y pc ls (zO 6 :: st) M r := zS_getR (T := TX5) (N := 11) hd lay_6 (j := 1) rfl rfl (by decide) rfl uin_5 hlink k
theorem gf_6_2 {Y : zY} {pc index : Nat} {ls : List (Option zAV)} {st : List zAV} {M : zM} {r : Option Int32 × zM} (hd : decode Y.2.1 pc = .ok (.getfield index, 3)) (hlink : Cond.fieldLink Y.1.cls index RX5 "cellCount" "[I" ∈ zU) (k : zS Y (pc + 3) ls (zA 46 3 :: st) M r) : zS Y pc ls (zO 6 :: st) M r := zS_getR (T := TX5) (N := 11) hd lay_6 (j := 2) rfl rfl (by decide) rfl uin_5 hlink k
theorem gf_6_3 {Y : zY} {pc index : Nat} {ls : List (Option zAV)} {st : List zAV} {M : zM} {r : Option Int32 × zM} (hd : decode Y.2.1 pc = .ok (.getfield index, 3)) (hlink : Cond.fieldLink Y.1.cls index RX5 "told" "[[I" ∈ zU) (k : zS Y (pc + 3) ls (zO 47 :: st) M r) : zS Y pc ls (zO 6 :: st) M r := zS_getR (T := TX5) (N := 11) hd lay_6 (j := 3) rfl rfl (by decide) rfl uin_5 hlink k
theorem gf_6_4 {Y : zY} {pc index : Nat} {ls : List (Option zAV)} {st : List zAV} {M : zM} {r : Option Int32 × zM} (hd : decode Y.2.1 pc = .ok (.getfield index, 3)) (hlink : Cond.fieldLink Y.1.cls index RX5 "size" "I" ∈ zU) (k : zS Y (pc + 3) ls (zI (M 6 4) :: st) M r) : zS Y pc ls (zO 6 :: st) M r := zS_getI (T := TX5) (N := 11) hd lay_6 (j := 4) rfl rfl (by decide) rfl uin_5 hlink k
theorem pf_6_4 {Y : zY} {pc index : Nat} {ls : List (Option zAV)} {st : List zAV} {M : zM} {r : Option Int32 × zM} {x : Int32} (hd : decode Y.2.1 pc = .ok (.putfield index, 3)) (hlink : Cond.fieldLink Y.1.cls index RX5 "size" "I" ∈ zU) (k : zS Y (pc + 3) ls st (zset M 6 4 x) r) : zS Y pc ls (zI x :: zO 6 :: st) M r := zS_putI (T := TX5) (N := 11) tyX5 tyX5_ok nmX5 hd lay_6 (j := 4) rfl rfl (by decide) rfl rfl (by decide +kernel) uin_5 hlink k
theorem gf_6_5 {Y : zY} {pc index : Nat} {ls : List (Option zAV)} {st : List zAV} {M : zM} {r : Option Int32 × zM} (hd : decode Y.2.1 pc = .ok (.getfield index, 3)) (hlink : Cond.fieldLink Y.1.cls index RX5 "notes" "I" ∈ zU) (k : zS Y (pc + 3) ls (zI (M 6 5) :: st) M r) : zS Y pc ls (zO 6 :: st) M r := zS_getI (T := TX5) (N := 11) hd lay_6 (j := 5) rfl rfl (by decide) rfl uin_5 hlink k
theorem pf_6_5 {Y : zY} {pc index : Nat} {ls : List (Option zAV)} {st : List zAV} {M : zM} {r : Option Int32 × zM} {x : Int32} (hd : decode Y.2.1 pc = .ok (.putfield index, 3)) (hlink : Cond.fieldLink Y.1.cls index RX5 "notes" "I" ∈ zU) (k : zS Y (pc + 3) ls st (zset M 6 5 x) r) : zS Y pc ls (zI x :: zO 6 :: st) M r := zS_putI (T := TX5) (N := 11) tyX5 tyX5_ok nmX5 hd lay_6 (j := 5) rfl rfl (by decide) rfl rfl (by decide +kernel) uin_5 hlink k
theorem gf_6_6 {Y : zY} {pc index : Nat} {ls : List (Option zAV)} {st : List zAV} {M : zM} {r : Option Int32 × zM} (hd : decode Y.2.1 pc = .ok (.getfield index, 3)) (hlink : Cond.fieldLink Y.1.cls index RX5 "cadences" "I" ∈ zU) (k : zS Y (pc + 3) ls (zI (M 6 6) :: st) M r) : zS Y pc ls (zO 6 :: st) M r := zS_getI (T := TX5) (N := 11) hd lay_6 (j := 6) rfl rfl (by decide) rfl uin_5 hlink k
theorem pf_6_6 {Y : zY} {pc index : Nat} {ls : List (Option zAV)} {st : List zAV} {M : zM} {r : Option Int32 × zM} {x : Int32} (hd : decode Y.2.1 pc = .ok (.putfield index, 3)) (hlink : Cond.fieldLink Y.1.cls index RX5 "cadences" "I" ∈ zU) (k : zS Y (pc + 3) ls st (zset M 6 6 x) r) : zS Y pc ls (zI x :: zO 6 :: st) M r := zS_putI (T := TX5) (N := 11) tyX5 tyX5_ok nmX5 hd lay_6 (j := 6) rfl rfl (by decide) rfl rfl (by decide +kernel) uin_5 hlink k
theorem gf_6_7 {Y : zY} {pc index : Nat} {ls : List (Option zAV)} {st : List zAV} {M : zM} {r : Option Int32 × zM} (hd : decode Y.2.1 pc = .ok (.getfield index, 3)) (hlink : Cond.fieldLink Y.1.cls index RX5 "votes" "[[I" ∈ zU) (k : zS Y (pc + 3) ls (zO 51 :: st) M r) : zS Y pc ls (zO 6 :: st) M r := zS_getR (T := TX5) (N := 11) hd lay_6 (j := 7) rfl rfl (by decide) rfl uin_5 hlink k
theorem gf_6_8 {Y : zY} {pc index : Nat} {ls : List (Option zAV)} {st : List zAV} {M : zM} {r : Option Int32 × zM} (hd : decode Y.2.1 pc = .ok (.getfield index, 3)) (hlink : Cond.fieldLink Y.1.cls index RX5 "voters" "[I" ∈ zU) (k : zS Y (pc + 3) ls (zA 68 16 :: st) M r) : zS Y pc ls (zO 6 :: st) M r := zS_getR (T := TX5) (N := 11) hd lay_6 (j := 8) rfl rfl (by decide) rfl uin_5 hlink k
theorem gf_6_9 {Y : zY} {pc index : Nat} {ls : List (Option zAV)} {st : List zAV} {M : zM} {r : Option Int32 × zM} (hd : decode Y.2.1 pc = .ok (.getfield index, 3)) (hlink : Cond.fieldLink Y.1.cls index RX5 "lostCauses" "I" ∈ zU) (k : zS Y (pc + 3) ls (zI (M 6 9) :: st) M r) : zS Y pc ls (zO 6 :: st) M r := zS_getI (T := TX5) (N := 11) hd lay_6 (j := 9) rfl rfl (by decide) rfl uin_5 hlink k
theorem pf_6_9 {Y : zY} {pc index : Nat} {ls : List (Option zAV)} {st : List zAV} {M : zM} {r : Option Int32 × zM} {x : Int32} (hd : decode Y.2.1 pc = .ok (.putfield index, 3)) (hlink : Cond.fieldLink Y.1.cls index RX5 "lostCauses" "I" ∈ zU) (k : zS Y (pc + 3) ls st (zset M 6 9 x) r) : zS Y pc ls (zI x :: zO 6 :: st) M r := zS_putI (T := TX5) (N := 11) tyX5 tyX5_ok nmX5 hd lay_6 (j := 9) rfl rfl (by decide) rfl rfl (by decide +kernel) uin_5 hlink k
theorem gf_6_10 {Y : zY} {pc index : Nat} {ls : List (Option zAV)} {st : List zAV} {M : zM} {r : Option Int32 × zM} (hd : decode Y.2.1 pc = .ok (.getfield index, 3)) (hlink : Cond.fieldLink Y.1.cls index RX5 "chosen" "[I" ∈ zU) (k : zS Y (pc + 3) ls (zA 69 16 :: st) M r) : zS Y pc ls (zO 6 :: st) M r := zS_getR (T := TX5) (N := 11) hd lay_6 (j := 10) rfl rfl (by decide) rfl uin_5 hlink k
theorem gf_7_0 {Y : zY} {pc index : Nat} {ls : List (Option zAV)} {st : List zAV} {M : zM} {r : Option Int32 × zM} (hd : decode Y.2.1 pc = .ok (.getfield index, 3)) (hlink : Cond.fieldLink Y.1.cls index RX3 "reed" "[I" ∈ zU) (k : zS Y (pc + 3) ls (zA 70 6 :: st) M r) : zS Y pc ls (zO 7 :: st) M r := zS_getR (T := TX3) (N := 7) hd lay_7 (j := 0) rfl rfl (by decide) rfl uin_3 hlink k
theorem gf_7_1 {Y : zY} {pc index : Nat} {ls : List (Option zAV)} {st : List zAV} {M : zM} {r : Option Int32 × zM} (hd : decode Y.2.1 pc = .ok (.getfield index, 3)) (hlink : Cond.fieldLink Y.1.cls index RX3 "rise" "[I" ∈ zU) (k : zS Y (pc + 3) ls (zA 71 6 :: st) M r) : zS Y pc ls (zO 7 :: st) M r := zS_getR (T := TX3) (N := 7) hd lay_7 (j := 1) rfl rfl (by decide) rfl uin_3 hlink k
theorem gf_7_2 {Y : zY} {pc index : Nat} {ls : List (Option zAV)} {st : List zAV} {M : zM} {r : Option Int32 × zM} (hd : decode Y.2.1 pc = .ok (.getfield index, 3)) (hlink : Cond.fieldLink Y.1.cls index RX3 "warm" "[I" ∈ zU) (k : zS Y (pc + 3) ls (zA 72 6 :: st) M r) : zS Y pc ls (zO 7 :: st) M r := zS_getR (T := TX3) (N := 7) hd lay_7 (j := 2) rfl rfl (by decide) rfl uin_3 hlink k
theorem gf_7_3 {Y : zY} {pc index : Nat} {ls : List (Option zAV)} {st : List zAV} {M : zM} {r : Option Int32 × zM} (hd : decode Y.2.1 pc = .ok (.getfield index, 3)) (hlink : Cond.fieldLink Y.1.cls index RX3 "comes" "[I" ∈ zU) (k : zS Y (pc + 3) ls (zA 73 6 :: st) M r) : zS Y pc ls (zO 7 :: st) M r := zS_getR (T := TX3) (N := 7) hd lay_7 (j := 3) rfl rfl (by decide) rfl uin_3 hlink k
theorem gf_7_4 {Y : zY} {pc index : Nat} {ls : List (Option zAV)} {st : List zAV} {M : zM} {r : Option Int32 × zM} (hd : decode Y.2.1 pc = .ok (.getfield index, 3)) (hlink : Cond.fieldLink Y.1.cls index RX3 "damp" "I" ∈ zU) (k : zS Y (pc + 3) ls (zI (M 7 4) :: st) M r) : zS Y pc ls (zO 7 :: st) M r := zS_getI (T := TX3) (N := 7) hd lay_7 (j := 4) rfl rfl (by decide) rfl uin_3 hlink k
theorem pf_7_4 {Y : zY} {pc index : Nat} {ls : List (Option zAV)} {st : List zAV} {M : zM} {r : Option Int32 × zM} {x : Int32} (hd : decode Y.2.1 pc = .ok (.putfield index, 3)) (hlink : Cond.fieldLink Y.1.cls index RX3 "damp" "I" ∈ zU) (k : zS Y (pc + 3) ls st (zset M 7 4 x) r) : zS Y pc ls (zI x :: zO 7 :: st) M r := zS_putI (T := TX3) (N := 7) tyX3 tyX3_ok nmX3 hd lay_7 (j := 4) rfl rfl (by decide) rfl rfl (by decide +kernel) uin_3 hlink k
theorem gf_7_5 {Y : zY} {pc index : Nat} {ls : List (Option zAV)} {st : List zAV} {M : zM} {r : Option Int32 × zM} (hd : decode Y.2.1 pc = .ok (.getfield index, 3)) (hlink : Cond.fieldLink Y.1.cls index RX3 "bestSpread" "I" ∈ zU) (k : zS Y (pc + 3) ls (zI (M 7 5) :: st) M r) : zS Y pc ls (zO 7 :: st) M r := zS_getI (T := TX3) (N := 7) hd lay_7 (j := 5) rfl rfl (by decide) rfl uin_3 hlink k
theorem pf_7_5 {Y : zY} {pc index : Nat} {ls : List (Option zAV)} {st : List zAV} {M : zM} {r : Option Int32 × zM} {x : Int32} (hd : decode Y.2.1 pc = .ok (.putfield index, 3)) (hlink : Cond.fieldLink Y.1.cls index RX3 "bestSpread" "I" ∈ zU) (k : zS Y (pc + 3) ls st (zset M 7 5 x) r) : zS Y pc ls (zI x :: zO 7 :: st) M r := zS_putI (T := TX3) (N := 7) tyX3 tyX3_ok nmX3 hd lay_7 (j := 5) rfl rfl (by decide) rfl rfl (by decide +kernel) uin_3 hlink k
theorem gf_7_6 {Y : zY} {pc index : Nat} {ls : List (Option zAV)} {st : List zAV} {M : zM} {r : Option Int32 × zM} (hd : decode Y.2.1 pc = .ok (.getfield index, 3)) (hlink : Cond.fieldLink Y.1.cls index RX3 "bestLow" "I" ∈ zU) (k : zS Y (pc + 3) ls (zI (M 7 6) :: st) M r) : zS Y pc ls (zO 7 :: st) M r := zS_getI (T := TX3) (N := 7) hd lay_7 (j := 6) rfl rfl (by decide) rfl uin_3 hlink k
theorem pf_7_6 {Y : zY} {pc index : Nat} {ls : List (Option zAV)} {st : List zAV} {M : zM} {r : Option Int32 × zM} {x : Int32} (hd : decode Y.2.1 pc = .ok (.putfield index, 3)) (hlink : Cond.fieldLink Y.1.cls index RX3 "bestLow" "I" ∈ zU) (k : zS Y (pc + 3) ls st (zset M 7 6 x) r) : zS Y pc ls (zI x :: zO 7 :: st) M r := zS_putI (T := TX3) (N := 7) tyX3 tyX3_ok nmX3 hd lay_7 (j := 6) rfl rfl (by decide) rfl rfl (by decide +kernel) uin_3 hlink k
theorem gf_8_0 {Y : zY} {pc index : Nat} {ls : List (Option zAV)} {st : List zAV} {M : zM} {r : Option Int32 × zM} (hd : decode Y.2.1 pc = .ok (.getfield index, 3)) (hlink : Cond.fieldLink Y.1.cls index RX0 "tone" "[I" ∈ zU) (k : zS Y (pc + 3) ls (zA 74 9 :: st) M r) : zS Y pc ls (zO 8 :: st) M r := zS_getR (T := TX0) (N := 1) hd lay_8 (j := 0) rfl rfl (by decide) rfl uin_0 hlink k
theorem gf_9_0 {Y : zY} {pc index : Nat} {ls : List (Option zAV)} {st : List zAV} {M : zM} {r : Option Int32 × zM} (hd : decode Y.2.1 pc = .ok (.getfield index, 3)) (hlink : Cond.fieldLink Y.1.cls index RX9 "gracesOf" "[I" ∈ zU) (k : zS Y (pc + 3) ls (zA 75 8 :: st) M r) : zS Y pc ls (zO 9 :: st) M r := zS_getR (T := TX9) (N := 34) hd lay_9 (j := 0) rfl rfl (by decide) rfl uin_9 hlink k
theorem gf_9_1 {Y : zY} {pc index : Nat} {ls : List (Option zAV)} {st : List zAV} {M : zM} {r : Option Int32 × zM} (hd : decode Y.2.1 pc = .ok (.getfield index, 3)) (hlink : Cond.fieldLink Y.1.cls index RX9 "grace" "[I" ∈ zU) (k : zS Y (pc + 3) ls (zA 76 32 :: st) M r) : zS Y pc ls (zO 9 :: st) M r := zS_getR (T := TX9) (N := 34) hd lay_9 (j := 1) rfl rfl (by decide) rfl uin_9 hlink k
theorem gf_9_2 {Y : zY} {pc index : Nat} {ls : List (Option zAV)} {st : List zAV} {M : zM} {r : Option Int32 × zM} (hd : decode Y.2.1 pc = .ok (.getfield index, 3)) (hlink : Cond.fieldLink Y.1.cls index RX9 "from" "[I" ∈ zU) (k : zS Y (pc + 3) ls (zA 77 8 :: st) M r) : zS Y pc ls (zO 9 :: st) M r := zS_getR (T := TX9) (N := 34) hd lay_9 (j := 2) rfl rfl (by decide) rfl uin_9 hlink k
theorem gf_9_3 {Y : zY} {pc index : Nat} {ls : List (Option zAV)} {st : List zAV} {M : zM} {r : Option Int32 × zM} (hd : decode Y.2.1 pc = .ok (.getfield index, 3)) (hlink : Cond.fieldLink Y.1.cls index RX9 "to" "[I" ∈ zU) (k : zS Y (pc + 3) ls (zA 78 8 :: st) M r) : zS Y pc ls (zO 9 :: st) M r := zS_getR (T := TX9) (N := 34) hd lay_9 (j := 3) rfl rfl (by decide) rfl uin_9 hlink k
theorem gf_9_4 {Y : zY} {pc index : Nat} {ls : List (Option zAV)} {st : List zAV} {M : zM} {r : Option Int32 × zM} (hd : decode Y.2.1 pc = .ok (.getfield index, 3)) (hlink : Cond.fieldLink Y.1.cls index RX9 "beat" "I" ∈ zU) (k : zS Y (pc + 3) ls (zI (M 9 4) :: st) M r) : zS Y pc ls (zO 9 :: st) M r := zS_getI (T := TX9) (N := 34) hd lay_9 (j := 4) rfl rfl (by decide) rfl uin_9 hlink k
theorem pf_9_4 {Y : zY} {pc index : Nat} {ls : List (Option zAV)} {st : List zAV} {M : zM} {r : Option Int32 × zM} {x : Int32} (hd : decode Y.2.1 pc = .ok (.putfield index, 3)) (hlink : Cond.fieldLink Y.1.cls index RX9 "beat" "I" ∈ zU) (k : zS Y (pc + 3) ls st (zset M 9 4 x) r) : zS Y pc ls (zI x :: zO 9 :: st) M r := zS_putI (T := TX9) (N := 34) tyX9 tyX9_ok nmX9 hd lay_9 (j := 4) rfl rfl (by decide) rfl rfl (by decide +kernel) uin_9 hlink k
theorem gf_9_5 {Y : zY} {pc index : Nat} {ls : List (Option zAV)} {st : List zAV} {M : zM} {r : Option Int32 × zM} (hd : decode Y.2.1 pc = .ok (.getfield index, 3)) (hlink : Cond.fieldLink Y.1.cls index RX9 "steps" "I" ∈ zU) (k : zS Y (pc + 3) ls (zI (M 9 5) :: st) M r) : zS Y pc ls (zO 9 :: st) M r := zS_getI (T := TX9) (N := 34) hd lay_9 (j := 5) rfl rfl (by decide) rfl uin_9 hlink k
theorem pf_9_5 {Y : zY} {pc index : Nat} {ls : List (Option zAV)} {st : List zAV} {M : zM} {r : Option Int32 × zM} {x : Int32} (hd : decode Y.2.1 pc = .ok (.putfield index, 3)) (hlink : Cond.fieldLink Y.1.cls index RX9 "steps" "I" ∈ zU) (k : zS Y (pc + 3) ls st (zset M 9 5 x) r) : zS Y pc ls (zI x :: zO 9 :: st) M r := zS_putI (T := TX9) (N := 34) tyX9 tyX9_ok nmX9 hd lay_9 (j := 5) rfl rfl (by decide) rfl rfl (by decide +kernel) uin_9 hlink k
theorem gf_9_6 {Y : zY} {pc index : Nat} {ls : List (Option zAV)} {st : List zAV} {M : zM} {r : Option Int32 × zM} (hd : decode Y.2.1 pc = .ok (.getfield index, 3)) (hlink : Cond.fieldLink Y.1.cls index RX9 "note" "[I" ∈ zU) (k : zS Y (pc + 3) ls (zA 79 24 :: st) M r) : zS Y pc ls (zO 9 :: st) M r := zS_getR (T := TX9) (N := 34) hd lay_9 (j := 6) rfl rfl (by decide) rfl uin_9 hlink k
theorem gf_9_7 {Y : zY} {pc index : Nat} {ls : List (Option zAV)} {st : List zAV} {M : zM} {r : Option Int32 × zM} (hd : decode Y.2.1 pc = .ok (.getfield index, 3)) (hlink : Cond.fieldLink Y.1.cls index RX9 "length" "[I" ∈ zU) (k : zS Y (pc + 3) ls (zA 80 24 :: st) M r) : zS Y pc ls (zO 9 :: st) M r := zS_getR (T := TX9) (N := 34) hd lay_9 (j := 7) rfl rfl (by decide) rfl uin_9 hlink k
theorem gf_9_8 {Y : zY} {pc index : Nat} {ls : List (Option zAV)} {st : List zAV} {M : zM} {r : Option Int32 × zM} (hd : decode Y.2.1 pc = .ok (.getfield index, 3)) (hlink : Cond.fieldLink Y.1.cls index RX9 "movement" "[I" ∈ zU) (k : zS Y (pc + 3) ls (zA 81 24 :: st) M r) : zS Y pc ls (zO 9 :: st) M r := zS_getR (T := TX9) (N := 34) hd lay_9 (j := 8) rfl rfl (by decide) rfl uin_9 hlink k
theorem gf_9_9 {Y : zY} {pc index : Nat} {ls : List (Option zAV)} {st : List zAV} {M : zM} {r : Option Int32 × zM} (hd : decode Y.2.1 pc = .ok (.getfield index, 3)) (hlink : Cond.fieldLink Y.1.cls index RX9 "heads" "[I" ∈ zU) (k : zS Y (pc + 3) ls (zA 82 24 :: st) M r) : zS Y pc ls (zO 9 :: st) M r := zS_getR (T := TX9) (N := 34) hd lay_9 (j := 9) rfl rfl (by decide) rfl uin_9 hlink k
theorem gf_9_10 {Y : zY} {pc index : Nat} {ls : List (Option zAV)} {st : List zAV} {M : zM} {r : Option Int32 × zM} (hd : decode Y.2.1 pc = .ok (.getfield index, 3)) (hlink : Cond.fieldLink Y.1.cls index RX9 "tails" "[I" ∈ zU) (k : zS Y (pc + 3) ls (zA 83 27 :: st) M r) : zS Y pc ls (zO 9 :: st) M r := zS_getR (T := TX9) (N := 34) hd lay_9 (j := 10) rfl rfl (by decide) rfl uin_9 hlink k
theorem gf_9_11 {Y : zY} {pc index : Nat} {ls : List (Option zAV)} {st : List zAV} {M : zM} {r : Option Int32 × zM} (hd : decode Y.2.1 pc = .ok (.getfield index, 3)) (hlink : Cond.fieldLink Y.1.cls index RX9 "song" "I" ∈ zU) (k : zS Y (pc + 3) ls (zI (M 9 11) :: st) M r) : zS Y pc ls (zO 9 :: st) M r := zS_getI (T := TX9) (N := 34) hd lay_9 (j := 11) rfl rfl (by decide) rfl uin_9 hlink k
theorem pf_9_11 {Y : zY} {pc index : Nat} {ls : List (Option zAV)} {st : List zAV} {M : zM} {r : Option Int32 × zM} {x : Int32} (hd : decode Y.2.1 pc = .ok (.putfield index, 3)) (hlink : Cond.fieldLink Y.1.cls index RX9 "song" "I" ∈ zU) (k : zS Y (pc + 3) ls st (zset M 9 11 x) r) : zS Y pc ls (zI x :: zO 9 :: st) M r := zS_putI (T := TX9) (N := 34) tyX9 tyX9_ok nmX9 hd lay_9 (j := 11) rfl rfl (by decide) rfl rfl (by decide +kernel) uin_9 hlink k
theorem gf_9_12 {Y : zY} {pc index : Nat} {ls : List (Option zAV)} {st : List zAV} {M : zM} {r : Option Int32 × zM} (hd : decode Y.2.1 pc = .ok (.getfield index, 3)) (hlink : Cond.fieldLink Y.1.cls index RX9 "syllable" "[I" ∈ zU) (k : zS Y (pc + 3) ls (zA 84 12 :: st) M r) : zS Y pc ls (zO 9 :: st) M r := zS_getR (T := TX9) (N := 34) hd lay_9 (j := 12) rfl rfl (by decide) rfl uin_9 hlink k
theorem gf_9_13 {Y : zY} {pc index : Nat} {ls : List (Option zAV)} {st : List zAV} {M : zM} {r : Option Int32 × zM} (hd : decode Y.2.1 pc = .ok (.getfield index, 3)) (hlink : Cond.fieldLink Y.1.cls index RX9 "goesOn" "[I" ∈ zU) (k : zS Y (pc + 3) ls (zA 85 130 :: st) M r) : zS Y pc ls (zO 9 :: st) M r := zS_getR (T := TX9) (N := 34) hd lay_9 (j := 13) rfl rfl (by decide) rfl uin_9 hlink k
theorem gf_9_14 {Y : zY} {pc index : Nat} {ls : List (Option zAV)} {st : List zAV} {M : zM} {r : Option Int32 × zM} (hd : decode Y.2.1 pc = .ok (.getfield index, 3)) (hlink : Cond.fieldLink Y.1.cls index RX9 "parts" "[I" ∈ zU) (k : zS Y (pc + 3) ls (zA 86 5 :: st) M r) : zS Y pc ls (zO 9 :: st) M r := zS_getR (T := TX9) (N := 34) hd lay_9 (j := 14) rfl rfl (by decide) rfl uin_9 hlink k
theorem gf_9_15 {Y : zY} {pc index : Nat} {ls : List (Option zAV)} {st : List zAV} {M : zM} {r : Option Int32 × zM} (hd : decode Y.2.1 pc = .ok (.getfield index, 3)) (hlink : Cond.fieldLink Y.1.cls index RX9 "part" "[I" ∈ zU) (k : zS Y (pc + 3) ls (zA 87 20 :: st) M r) : zS Y pc ls (zO 9 :: st) M r := zS_getR (T := TX9) (N := 34) hd lay_9 (j := 15) rfl rfl (by decide) rfl uin_9 hlink k
theorem gf_9_16 {Y : zY} {pc index : Nat} {ls : List (Option zAV)} {st : List zAV} {M : zM} {r : Option Int32 × zM} (hd : decode Y.2.1 pc = .ok (.getfield index, 3)) (hlink : Cond.fieldLink Y.1.cls index RX9 "grounds" "I" ∈ zU) (k : zS Y (pc + 3) ls (zI (M 9 16) :: st) M r) : zS Y pc ls (zO 9 :: st) M r := zS_getI (T := TX9) (N := 34) hd lay_9 (j := 16) rfl rfl (by decide) rfl uin_9 hlink k
theorem pf_9_16 {Y : zY} {pc index : Nat} {ls : List (Option zAV)} {st : List zAV} {M : zM} {r : Option Int32 × zM} {x : Int32} (hd : decode Y.2.1 pc = .ok (.putfield index, 3)) (hlink : Cond.fieldLink Y.1.cls index RX9 "grounds" "I" ∈ zU) (k : zS Y (pc + 3) ls st (zset M 9 16 x) r) : zS Y pc ls (zI x :: zO 9 :: st) M r := zS_putI (T := TX9) (N := 34) tyX9 tyX9_ok nmX9 hd lay_9 (j := 16) rfl rfl (by decide) rfl rfl (by decide +kernel) uin_9 hlink k
theorem gf_9_17 {Y : zY} {pc index : Nat} {ls : List (Option zAV)} {st : List zAV} {M : zM} {r : Option Int32 × zM} (hd : decode Y.2.1 pc = .ok (.getfield index, 3)) (hlink : Cond.fieldLink Y.1.cls index RX9 "ground" "[I" ∈ zU) (k : zS Y (pc + 3) ls (zA 88 16 :: st) M r) : zS Y pc ls (zO 9 :: st) M r := zS_getR (T := TX9) (N := 34) hd lay_9 (j := 17) rfl rfl (by decide) rfl uin_9 hlink k
theorem gf_9_18 {Y : zY} {pc index : Nat} {ls : List (Option zAV)} {st : List zAV} {M : zM} {r : Option Int32 × zM} (hd : decode Y.2.1 pc = .ok (.getfield index, 3)) (hlink : Cond.fieldLink Y.1.cls index RX9 "sheets" "I" ∈ zU) (k : zS Y (pc + 3) ls (zI (M 9 18) :: st) M r) : zS Y pc ls (zO 9 :: st) M r := zS_getI (T := TX9) (N := 34) hd lay_9 (j := 18) rfl rfl (by decide) rfl uin_9 hlink k
theorem pf_9_18 {Y : zY} {pc index : Nat} {ls : List (Option zAV)} {st : List zAV} {M : zM} {r : Option Int32 × zM} {x : Int32} (hd : decode Y.2.1 pc = .ok (.putfield index, 3)) (hlink : Cond.fieldLink Y.1.cls index RX9 "sheets" "I" ∈ zU) (k : zS Y (pc + 3) ls st (zset M 9 18 x) r) : zS Y pc ls (zI x :: zO 9 :: st) M r := zS_putI (T := TX9) (N := 34) tyX9 tyX9_ok nmX9 hd lay_9 (j := 18) rfl rfl (by decide) rfl rfl (by decide +kernel) uin_9 hlink k
theorem gf_9_19 {Y : zY} {pc index : Nat} {ls : List (Option zAV)} {st : List zAV} {M : zM} {r : Option Int32 × zM} (hd : decode Y.2.1 pc = .ok (.getfield index, 3)) (hlink : Cond.fieldLink Y.1.cls index RX9 "sheetNotes" "I" ∈ zU) (k : zS Y (pc + 3) ls (zI (M 9 19) :: st) M r) : zS Y pc ls (zO 9 :: st) M r := zS_getI (T := TX9) (N := 34) hd lay_9 (j := 19) rfl rfl (by decide) rfl uin_9 hlink k
theorem pf_9_19 {Y : zY} {pc index : Nat} {ls : List (Option zAV)} {st : List zAV} {M : zM} {r : Option Int32 × zM} {x : Int32} (hd : decode Y.2.1 pc = .ok (.putfield index, 3)) (hlink : Cond.fieldLink Y.1.cls index RX9 "sheetNotes" "I" ∈ zU) (k : zS Y (pc + 3) ls st (zset M 9 19 x) r) : zS Y pc ls (zI x :: zO 9 :: st) M r := zS_putI (T := TX9) (N := 34) tyX9 tyX9_ok nmX9 hd lay_9 (j := 19) rfl rfl (by decide) rfl rfl (by decide +kernel) uin_9 hlink k
theorem gf_9_20 {Y : zY} {pc index : Nat} {ls : List (Option zAV)} {st : List zAV} {M : zM} {r : Option Int32 × zM} (hd : decode Y.2.1 pc = .ok (.getfield index, 3)) (hlink : Cond.fieldLink Y.1.cls index RX9 "cadences" "I" ∈ zU) (k : zS Y (pc + 3) ls (zI (M 9 20) :: st) M r) : zS Y pc ls (zO 9 :: st) M r := zS_getI (T := TX9) (N := 34) hd lay_9 (j := 20) rfl rfl (by decide) rfl uin_9 hlink k
theorem pf_9_20 {Y : zY} {pc index : Nat} {ls : List (Option zAV)} {st : List zAV} {M : zM} {r : Option Int32 × zM} {x : Int32} (hd : decode Y.2.1 pc = .ok (.putfield index, 3)) (hlink : Cond.fieldLink Y.1.cls index RX9 "cadences" "I" ∈ zU) (k : zS Y (pc + 3) ls st (zset M 9 20 x) r) : zS Y pc ls (zI x :: zO 9 :: st) M r := zS_putI (T := TX9) (N := 34) tyX9 tyX9_ok nmX9 hd lay_9 (j := 20) rfl rfl (by decide) rfl rfl (by decide +kernel) uin_9 hlink k
theorem gf_9_21 {Y : zY} {pc index : Nat} {ls : List (Option zAV)} {st : List zAV} {M : zM} {r : Option Int32 × zM} (hd : decode Y.2.1 pc = .ok (.getfield index, 3)) (hlink : Cond.fieldLink Y.1.cls index RX9 "sheetRule" "[I" ∈ zU) (k : zS Y (pc + 3) ls (zA 89 3 :: st) M r) : zS Y pc ls (zO 9 :: st) M r := zS_getR (T := TX9) (N := 34) hd lay_9 (j := 21) rfl rfl (by decide) rfl uin_9 hlink k
theorem gf_9_22 {Y : zY} {pc index : Nat} {ls : List (Option zAV)} {st : List zAV} {M : zM} {r : Option Int32 × zM} (hd : decode Y.2.1 pc = .ok (.getfield index, 3)) (hlink : Cond.fieldLink Y.1.cls index RX9 "told" "[I" ∈ zU) (k : zS Y (pc + 3) ls (zA 90 192 :: st) M r) : zS Y pc ls (zO 9 :: st) M r := zS_getR (T := TX9) (N := 34) hd lay_9 (j := 22) rfl rfl (by decide) rfl uin_9 hlink k
theorem gf_9_23 {Y : zY} {pc index : Nat} {ls : List (Option zAV)} {st : List zAV} {M : zM} {r : Option Int32 × zM} (hd : decode Y.2.1 pc = .ok (.getfield index, 3)) (hlink : Cond.fieldLink Y.1.cls index RX9 "off" "[I" ∈ zU) (k : zS Y (pc + 3) ls (zA 91 1296 :: st) M r) : zS Y pc ls (zO 9 :: st) M r := zS_getR (T := TX9) (N := 34) hd lay_9 (j := 23) rfl rfl (by decide) rfl uin_9 hlink k
theorem gf_9_24 {Y : zY} {pc index : Nat} {ls : List (Option zAV)} {st : List zAV} {M : zM} {r : Option Int32 × zM} (hd : decode Y.2.1 pc = .ok (.getfield index, 3)) (hlink : Cond.fieldLink Y.1.cls index RX9 "table" "[I" ∈ zU) (k : zS Y (pc + 3) ls (zA 92 153 :: st) M r) : zS Y pc ls (zO 9 :: st) M r := zS_getR (T := TX9) (N := 34) hd lay_9 (j := 24) rfl rfl (by decide) rfl uin_9 hlink k
theorem gf_9_25 {Y : zY} {pc index : Nat} {ls : List (Option zAV)} {st : List zAV} {M : zM} {r : Option Int32 × zM} (hd : decode Y.2.1 pc = .ok (.getfield index, 3)) (hlink : Cond.fieldLink Y.1.cls index RX9 "best" "[I" ∈ zU) (k : zS Y (pc + 3) ls (zA 93 16 :: st) M r) : zS Y pc ls (zO 9 :: st) M r := zS_getR (T := TX9) (N := 34) hd lay_9 (j := 25) rfl rfl (by decide) rfl uin_9 hlink k
theorem gf_9_26 {Y : zY} {pc index : Nat} {ls : List (Option zAV)} {st : List zAV} {M : zM} {r : Option Int32 × zM} (hd : decode Y.2.1 pc = .ok (.getfield index, 3)) (hlink : Cond.fieldLink Y.1.cls index RX9 "reed" "[I" ∈ zU) (k : zS Y (pc + 3) ls (zA 94 6 :: st) M r) : zS Y pc ls (zO 9 :: st) M r := zS_getR (T := TX9) (N := 34) hd lay_9 (j := 26) rfl rfl (by decide) rfl uin_9 hlink k
theorem gf_9_27 {Y : zY} {pc index : Nat} {ls : List (Option zAV)} {st : List zAV} {M : zM} {r : Option Int32 × zM} (hd : decode Y.2.1 pc = .ok (.getfield index, 3)) (hlink : Cond.fieldLink Y.1.cls index RX9 "rise" "[I" ∈ zU) (k : zS Y (pc + 3) ls (zA 95 6 :: st) M r) : zS Y pc ls (zO 9 :: st) M r := zS_getR (T := TX9) (N := 34) hd lay_9 (j := 27) rfl rfl (by decide) rfl uin_9 hlink k
theorem gf_9_28 {Y : zY} {pc index : Nat} {ls : List (Option zAV)} {st : List zAV} {M : zM} {r : Option Int32 × zM} (hd : decode Y.2.1 pc = .ok (.getfield index, 3)) (hlink : Cond.fieldLink Y.1.cls index RX9 "warm" "[I" ∈ zU) (k : zS Y (pc + 3) ls (zA 96 6 :: st) M r) : zS Y pc ls (zO 9 :: st) M r := zS_getR (T := TX9) (N := 34) hd lay_9 (j := 28) rfl rfl (by decide) rfl uin_9 hlink k
theorem gf_9_29 {Y : zY} {pc index : Nat} {ls : List (Option zAV)} {st : List zAV} {M : zM} {r : Option Int32 × zM} (hd : decode Y.2.1 pc = .ok (.getfield index, 3)) (hlink : Cond.fieldLink Y.1.cls index RX9 "comes" "[I" ∈ zU) (k : zS Y (pc + 3) ls (zA 97 6 :: st) M r) : zS Y pc ls (zO 9 :: st) M r := zS_getR (T := TX9) (N := 34) hd lay_9 (j := 29) rfl rfl (by decide) rfl uin_9 hlink k
theorem gf_9_30 {Y : zY} {pc index : Nat} {ls : List (Option zAV)} {st : List zAV} {M : zM} {r : Option Int32 × zM} (hd : decode Y.2.1 pc = .ok (.getfield index, 3)) (hlink : Cond.fieldLink Y.1.cls index RX9 "damp" "I" ∈ zU) (k : zS Y (pc + 3) ls (zI (M 9 30) :: st) M r) : zS Y pc ls (zO 9 :: st) M r := zS_getI (T := TX9) (N := 34) hd lay_9 (j := 30) rfl rfl (by decide) rfl uin_9 hlink k
theorem pf_9_30 {Y : zY} {pc index : Nat} {ls : List (Option zAV)} {st : List zAV} {M : zM} {r : Option Int32 × zM} {x : Int32} (hd : decode Y.2.1 pc = .ok (.putfield index, 3)) (hlink : Cond.fieldLink Y.1.cls index RX9 "damp" "I" ∈ zU) (k : zS Y (pc + 3) ls st (zset M 9 30 x) r) : zS Y pc ls (zI x :: zO 9 :: st) M r := zS_putI (T := TX9) (N := 34) tyX9 tyX9_ok nmX9 hd lay_9 (j := 30) rfl rfl (by decide) rfl rfl (by decide +kernel) uin_9 hlink k
theorem gf_9_31 {Y : zY} {pc index : Nat} {ls : List (Option zAV)} {st : List zAV} {M : zM} {r : Option Int32 × zM} (hd : decode Y.2.1 pc = .ok (.getfield index, 3)) (hlink : Cond.fieldLink Y.1.cls index RX9 "bestLeast" "I" ∈ zU) (k : zS Y (pc + 3) ls (zI (M 9 31) :: st) M r) : zS Y pc ls (zO 9 :: st) M r := zS_getI (T := TX9) (N := 34) hd lay_9 (j := 31) rfl rfl (by decide) rfl uin_9 hlink k
theorem pf_9_31 {Y : zY} {pc index : Nat} {ls : List (Option zAV)} {st : List zAV} {M : zM} {r : Option Int32 × zM} {x : Int32} (hd : decode Y.2.1 pc = .ok (.putfield index, 3)) (hlink : Cond.fieldLink Y.1.cls index RX9 "bestLeast" "I" ∈ zU) (k : zS Y (pc + 3) ls st (zset M 9 31 x) r) : zS Y pc ls (zI x :: zO 9 :: st) M r := zS_putI (T := TX9) (N := 34) tyX9 tyX9_ok nmX9 hd lay_9 (j := 31) rfl rfl (by decide) rfl rfl (by decide +kernel) uin_9 hlink k
theorem gf_9_32 {Y : zY} {pc index : Nat} {ls : List (Option zAV)} {st : List zAV} {M : zM} {r : Option Int32 × zM} (hd : decode Y.2.1 pc = .ok (.getfield index, 3)) (hlink : Cond.fieldLink Y.1.cls index RX9 "bestSpread" "I" ∈ zU) (k : zS Y (pc + 3) ls (zI (M 9 32) :: st) M r) : zS Y pc ls (zO 9 :: st) M r := zS_getI (T := TX9) (N := 34) hd lay_9 (j := 32) rfl rfl (by decide) rfl uin_9 hlink k
theorem pf_9_32 {Y : zY} {pc index : Nat} {ls : List (Option zAV)} {st : List zAV} {M : zM} {r : Option Int32 × zM} {x : Int32} (hd : decode Y.2.1 pc = .ok (.putfield index, 3)) (hlink : Cond.fieldLink Y.1.cls index RX9 "bestSpread" "I" ∈ zU) (k : zS Y (pc + 3) ls st (zset M 9 32 x) r) : zS Y pc ls (zI x :: zO 9 :: st) M r := zS_putI (T := TX9) (N := 34) tyX9 tyX9_ok nmX9 hd lay_9 (j := 32) rfl rfl (by decide) rfl rfl (by decide +kernel) uin_9 hlink k
theorem gf_9_33 {Y : zY} {pc index : Nat} {ls : List (Option zAV)} {st : List zAV} {M : zM} {r : Option Int32 × zM} (hd : decode Y.2.1 pc = .ok (.getfield index, 3)) (hlink : Cond.fieldLink Y.1.cls index RX9 "tones" "[I" ∈ zU) (k : zS Y (pc + 3) ls (zA 98 9 :: st) M r) : zS Y pc ls (zO 9 :: st) M r := zS_getR (T := TX9) (N := 34) hd lay_9 (j := 33) rfl rfl (by decide) rfl uin_9 hlink k
theorem zw_0 : Cond.static yX8_within ∈ zU := zU_in (by decide +kernel) (by decide +kernel)
theorem zw_1 : Cond.methodLink RX8 73 yX8_within ∈ zU := zU_in (by decide +kernel) (by decide +kernel)
theorem zw_2 : Cond.static yX8_nibble ∈ zU := zU_in (by decide +kernel) (by decide +kernel)
theorem zw_3 : Cond.methodLink RX8 269 yX8_nibble ∈ zU := zU_in (by decide +kernel) (by decide +kernel)
theorem zw_4 : Cond.fieldLink RX2 17 RX2 "grace" "[[I" ∈ zU := zU_in (by decide +kernel) (by decide +kernel)
theorem zw_5 : Cond.fieldLink RX2 9 RX2 "size" "[I" ∈ zU := zU_in (by decide +kernel) (by decide +kernel)
theorem zw_6 : Cond.static yX8_isMovement ∈ zU := zU_in (by decide +kernel) (by decide +kernel)
theorem zw_7 : Cond.methodLink RX8 69 yX8_isMovement ∈ zU := zU_in (by decide +kernel) (by decide +kernel)
theorem zw_8 : Cond.static yX8_nibblesWithin ∈ zU := zU_in (by decide +kernel) (by decide +kernel)
theorem zw_9 : Cond.methodLink RX8 77 yX8_nibblesWithin ∈ zU := zU_in (by decide +kernel) (by decide +kernel)
theorem zw_10 : Cond.fieldLink RX8 12 RX8 "movements" "LPiperHouse$Movements;" ∈ zU := zU_in (by decide +kernel) (by decide +kernel)
theorem zw_11 : Cond.instanceMethod yX2_become ∈ zU := zU_in (by decide +kernel) (by decide +kernel)
theorem zw_12 : Cond.selects RX2 yX2_become yX2_become ∈ zU := zU_in (by decide +kernel) (by decide +kernel)
theorem zw_13 : Cond.methodLink RX8 80 yX2_become ∈ zU := zU_in (by decide +kernel) (by decide +kernel)
theorem zw_14 : Cond.fieldLink RX8 88 RX2 "to" "[I" ∈ zU := zU_in (by decide +kernel) (by decide +kernel)
theorem zw_15 : Cond.static yX8_replace ∈ zU := zU_in (by decide +kernel) (by decide +kernel)
theorem zw_16 : Cond.methodLink RX8 91 yX8_replace ∈ zU := zU_in (by decide +kernel) (by decide +kernel)
theorem zw_17 : Cond.fieldLink RX8 84 RX2 "from" "[I" ∈ zU := zU_in (by decide +kernel) (by decide +kernel)
theorem zw_18 : Cond.fieldLink RX8 95 RX2 "beat" "I" ∈ zU := zU_in (by decide +kernel) (by decide +kernel)
theorem zw_19 : Cond.instanceMethod yX2_repeatsGrace ∈ zU := zU_in (by decide +kernel) (by decide +kernel)
theorem zw_20 : Cond.selects RX2 yX2_repeatsGrace yX2_repeatsGrace ∈ zU := zU_in (by decide +kernel) (by decide +kernel)
theorem zw_21 : Cond.methodLink RX2 38 yX2_repeatsGrace ∈ zU := zU_in (by decide +kernel) (by decide +kernel)
theorem zw_22 : Cond.fieldLink RX2 23 RX2 "to" "[I" ∈ zU := zU_in (by decide +kernel) (by decide +kernel)
theorem zw_23 : Cond.fieldLink RX2 20 RX2 "from" "[I" ∈ zU := zU_in (by decide +kernel) (by decide +kernel)
theorem zw_24 : Cond.static yX8_hasBit ∈ zU := zU_in (by decide +kernel) (by decide +kernel)
theorem zw_25 : Cond.instanceMethod yX2_leadsTo ∈ zU := zU_in (by decide +kernel) (by decide +kernel)
theorem zw_26 : Cond.selects RX2 yX2_leadsTo yX2_leadsTo ∈ zU := zU_in (by decide +kernel) (by decide +kernel)
theorem zw_27 : Cond.methodLink RX2 42 yX2_leadsTo ∈ zU := zU_in (by decide +kernel) (by decide +kernel)
theorem zw_28 : Cond.instanceMethod yX2_joins ∈ zU := zU_in (by decide +kernel) (by decide +kernel)
theorem zw_29 : Cond.selects RX2 yX2_joins yX2_joins ∈ zU := zU_in (by decide +kernel) (by decide +kernel)
theorem zw_30 : Cond.methodLink RX8 102 yX2_joins ∈ zU := zU_in (by decide +kernel) (by decide +kernel)
theorem zw_31 : Cond.static yX8_isNote ∈ zU := zU_in (by decide +kernel) (by decide +kernel)
theorem zw_32 : Cond.methodLink RX8 99 yX8_isNote ∈ zU := zU_in (by decide +kernel) (by decide +kernel)
theorem zw_33 : Cond.fieldLink RX7 9 RX7 "note" "[I" ∈ zU := zU_in (by decide +kernel) (by decide +kernel)
theorem zw_34 : Cond.fieldLink RX7 25 RX7 "size" "I" ∈ zU := zU_in (by decide +kernel) (by decide +kernel)
theorem zw_35 : Cond.fieldLink RX7 15 RX7 "length" "[I" ∈ zU := zU_in (by decide +kernel) (by decide +kernel)
theorem zw_36 : Cond.fieldLink RX7 18 RX7 "movement" "[I" ∈ zU := zU_in (by decide +kernel) (by decide +kernel)
theorem zw_37 : Cond.static yX8_isMovementOrLost ∈ zU := zU_in (by decide +kernel) (by decide +kernel)
theorem zw_38 : Cond.methodLink RX8 105 yX8_isMovementOrLost ∈ zU := zU_in (by decide +kernel) (by decide +kernel)
theorem zw_39 : Cond.fieldLink RX8 21 RX8 "tune" "LPiperHouse$Tune;" ∈ zU := zU_in (by decide +kernel) (by decide +kernel)
theorem zw_40 : Cond.fieldLink RX8 108 RX7 "size" "I" ∈ zU := zU_in (by decide +kernel) (by decide +kernel)
theorem zw_41 : Cond.instanceMethod yX7_append ∈ zU := zU_in (by decide +kernel) (by decide +kernel)
theorem zw_42 : Cond.selects RX7 yX7_append yX7_append ∈ zU := zU_in (by decide +kernel) (by decide +kernel)
theorem zw_43 : Cond.methodLink RX8 111 yX7_append ∈ zU := zU_in (by decide +kernel) (by decide +kernel)
theorem zw_44 : Cond.instanceMethod yX8_isStep ∈ zU := zU_in (by decide +kernel) (by decide +kernel)
theorem zw_45 : Cond.selects RX8 yX8_isStep yX8_isStep ∈ zU := zU_in (by decide +kernel) (by decide +kernel)
theorem zw_46 : Cond.methodLink RX8 115 yX8_isStep ∈ zU := zU_in (by decide +kernel) (by decide +kernel)
theorem zw_47 : Cond.fieldLink RX8 118 RX7 "movement" "[I" ∈ zU := zU_in (by decide +kernel) (by decide +kernel)
theorem zw_48 : Cond.fieldLink RX2 26 RX2 "beat" "I" ∈ zU := zU_in (by decide +kernel) (by decide +kernel)
theorem zw_49 : Cond.fieldLink RX7 21 RX7 "movements" "LPiperHouse$Movements;" ∈ zU := zU_in (by decide +kernel) (by decide +kernel)
theorem zw_50 : Cond.methodLink RX7 51 yX2_joins ∈ zU := zU_in (by decide +kernel) (by decide +kernel)
theorem zw_51 : Cond.instanceMethod yX2_leavesTime ∈ zU := zU_in (by decide +kernel) (by decide +kernel)
theorem zw_52 : Cond.selects RX2 yX2_leavesTime yX2_leavesTime ∈ zU := zU_in (by decide +kernel) (by decide +kernel)
theorem zw_53 : Cond.methodLink RX7 55 yX2_leavesTime ∈ zU := zU_in (by decide +kernel) (by decide +kernel)
theorem zw_54 : Cond.instanceMethod yX7_holdsWith ∈ zU := zU_in (by decide +kernel) (by decide +kernel)
theorem zw_55 : Cond.selects RX7 yX7_holdsWith yX7_holdsWith ∈ zU := zU_in (by decide +kernel) (by decide +kernel)
theorem zw_56 : Cond.methodLink RX7 29 yX7_holdsWith ∈ zU := zU_in (by decide +kernel) (by decide +kernel)
theorem zw_57 : Cond.instanceMethod yX7_firstWrong ∈ zU := zU_in (by decide +kernel) (by decide +kernel)
theorem zw_58 : Cond.selects RX7 yX7_firstWrong yX7_firstWrong ∈ zU := zU_in (by decide +kernel) (by decide +kernel)
theorem zw_59 : Cond.methodLink RX8 121 yX7_firstWrong ∈ zU := zU_in (by decide +kernel) (by decide +kernel)
theorem zw_60 : Cond.constant RX7 33 (1000001) ∈ zU := zU_in (by decide +kernel) (by decide +kernel)
theorem zw_61 : Cond.instanceMethod yX7_waysAt ∈ zU := zU_in (by decide +kernel) (by decide +kernel)
theorem zw_62 : Cond.selects RX7 yX7_waysAt yX7_waysAt ∈ zU := zU_in (by decide +kernel) (by decide +kernel)
theorem zw_63 : Cond.methodLink RX7 34 yX7_waysAt ∈ zU := zU_in (by decide +kernel) (by decide +kernel)
theorem zw_64 : Cond.methodLink RX7 38 Lib.Math.min.name ∈ zU := zU_in (by decide +kernel) (by decide +kernel)
theorem zw_65 : Cond.static Lib.Math.min.name ∈ zU := zU_in (by decide +kernel) (by decide +kernel)
theorem zw_66 : Cond.initialized "java/lang/Math" ∈ zU := zU_in (by decide +kernel) (by decide +kernel)
theorem zw_67 : Cond.code Lib.Math.min.name Lib.Math.min.code 2 (some .int) ∈ zU := zU_in (by decide +kernel) (by decide +kernel)
theorem zw_68 : Cond.instanceMethod yX7_fillingCount ∈ zU := zU_in (by decide +kernel) (by decide +kernel)
theorem zw_69 : Cond.selects RX7 yX7_fillingCount yX7_fillingCount ∈ zU := zU_in (by decide +kernel) (by decide +kernel)
theorem zw_70 : Cond.methodLink RX8 125 yX7_fillingCount ∈ zU := zU_in (by decide +kernel) (by decide +kernel)
theorem zw_71 : Cond.fieldLink RX7 44 RX2 "size" "[I" ∈ zU := zU_in (by decide +kernel) (by decide +kernel)
theorem zw_72 : Cond.instanceMethod yX7_quickestAt ∈ zU := zU_in (by decide +kernel) (by decide +kernel)
theorem zw_73 : Cond.selects RX7 yX7_quickestAt yX7_quickestAt ∈ zU := zU_in (by decide +kernel) (by decide +kernel)
theorem zw_74 : Cond.methodLink RX8 128 yX7_quickestAt ∈ zU := zU_in (by decide +kernel) (by decide +kernel)
theorem zw_75 : Cond.methodLink RX7 48 yX7_quickestAt ∈ zU := zU_in (by decide +kernel) (by decide +kernel)
theorem zw_76 : Cond.instanceMethod yX7_quickestGraces ∈ zU := zU_in (by decide +kernel) (by decide +kernel)
theorem zw_77 : Cond.selects RX7 yX7_quickestGraces yX7_quickestGraces ∈ zU := zU_in (by decide +kernel) (by decide +kernel)
theorem zw_78 : Cond.methodLink RX8 132 yX7_quickestGraces ∈ zU := zU_in (by decide +kernel) (by decide +kernel)
theorem zw_79 : Cond.fieldLink RX8 28 RX8 "song" "LPiperHouse$Song;" ∈ zU := zU_in (by decide +kernel) (by decide +kernel)
theorem zw_80 : Cond.fieldLink RX8 142 RX6 "tail" "[[I" ∈ zU := zU_in (by decide +kernel) (by decide +kernel)
theorem zw_81 : Cond.fieldLink RX8 138 RX6 "head" "[[I" ∈ zU := zU_in (by decide +kernel) (by decide +kernel)
theorem zw_82 : Cond.static yX8_isRegion ∈ zU := zU_in (by decide +kernel) (by decide +kernel)
theorem zw_83 : Cond.methodLink RX8 135 yX8_isRegion ∈ zU := zU_in (by decide +kernel) (by decide +kernel)
theorem zw_84 : Cond.fieldLink RX6 11 RX6 "head" "[[I" ∈ zU := zU_in (by decide +kernel) (by decide +kernel)
theorem zw_85 : Cond.fieldLink RX6 16 RX6 "tail" "[[I" ∈ zU := zU_in (by decide +kernel) (by decide +kernel)
theorem zw_86 : Cond.fieldLink RX8 145 RX7 "note" "[I" ∈ zU := zU_in (by decide +kernel) (by decide +kernel)
theorem zw_87 : Cond.instanceMethod yX6_sound ∈ zU := zU_in (by decide +kernel) (by decide +kernel)
theorem zw_88 : Cond.selects RX6 yX6_sound yX6_sound ∈ zU := zU_in (by decide +kernel) (by decide +kernel)
theorem zw_89 : Cond.methodLink RX8 148 yX6_sound ∈ zU := zU_in (by decide +kernel) (by decide +kernel)
theorem zw_90 : Cond.fieldLink RX6 19 RX6 "heard" "[I" ∈ zU := zU_in (by decide +kernel) (by decide +kernel)
theorem zw_91 : Cond.fieldLink RX6 36 RX6 "size" "I" ∈ zU := zU_in (by decide +kernel) (by decide +kernel)
theorem zw_92 : Cond.fieldLink RX8 151 RX6 "size" "I" ∈ zU := zU_in (by decide +kernel) (by decide +kernel)
theorem zw_93 : Cond.instanceMethod yX6_append ∈ zU := zU_in (by decide +kernel) (by decide +kernel)
theorem zw_94 : Cond.selects RX6 yX6_append yX6_append ∈ zU := zU_in (by decide +kernel) (by decide +kernel)
theorem zw_95 : Cond.methodLink RX8 152 yX6_append ∈ zU := zU_in (by decide +kernel) (by decide +kernel)
theorem zw_96 : Cond.fieldLink RX6 26 RX6 "rowsOn" "[I" ∈ zU := zU_in (by decide +kernel) (by decide +kernel)
theorem zw_97 : Cond.constant RX6 50 (1000001) ∈ zU := zU_in (by decide +kernel) (by decide +kernel)
theorem zw_98 : Cond.methodLink RX6 51 Lib.Math.min.name ∈ zU := zU_in (by decide +kernel) (by decide +kernel)
theorem zw_99 : Cond.fieldLink RX6 23 RX6 "rowsTo" "[I" ∈ zU := zU_in (by decide +kernel) (by decide +kernel)
theorem zw_100 : Cond.instanceMethod yX6_hasHead ∈ zU := zU_in (by decide +kernel) (by decide +kernel)
theorem zw_101 : Cond.selects RX6 yX6_hasHead yX6_hasHead ∈ zU := zU_in (by decide +kernel) (by decide +kernel)
theorem zw_102 : Cond.methodLink RX6 72 yX6_hasHead ∈ zU := zU_in (by decide +kernel) (by decide +kernel)
theorem zw_103 : Cond.fieldLink RX6 32 RX6 "movements" "LPiperHouse$Movements;" ∈ zU := zU_in (by decide +kernel) (by decide +kernel)
theorem zw_104 : Cond.methodLink RX6 76 yX2_leadsTo ∈ zU := zU_in (by decide +kernel) (by decide +kernel)
theorem zw_105 : Cond.instanceMethod yX6_addRows ∈ zU := zU_in (by decide +kernel) (by decide +kernel)
theorem zw_106 : Cond.selects RX6 yX6_addRows yX6_addRows ∈ zU := zU_in (by decide +kernel) (by decide +kernel)
theorem zw_107 : Cond.methodLink RX6 81 yX6_addRows ∈ zU := zU_in (by decide +kernel) (by decide +kernel)
theorem zw_108 : Cond.methodLink RX6 84 arraycopyName ∈ zU := zU_in (by decide +kernel) (by decide +kernel)
theorem zw_109 : Cond.native arraycopyName ∈ zU := zU_in (by decide +kernel) (by decide +kernel)
theorem zw_110 : Cond.static arraycopyName ∈ zU := zU_in (by decide +kernel) (by decide +kernel)
theorem zw_111 : Cond.initialized "java/lang/System" ∈ zU := zU_in (by decide +kernel) (by decide +kernel)
theorem zw_112 : Cond.static yJ7_fill_53178 ∈ zU := zU_in (by decide +kernel) (by decide +kernel)
theorem zw_113 : Cond.methodLink RX6 40 yJ7_fill_53178 ∈ zU := zU_in (by decide +kernel) (by decide +kernel)
theorem zw_114 : Cond.instanceMethod yX6_notesFor ∈ zU := zU_in (by decide +kernel) (by decide +kernel)
theorem zw_115 : Cond.selects RX6 yX6_notesFor yX6_notesFor ∈ zU := zU_in (by decide +kernel) (by decide +kernel)
theorem zw_116 : Cond.methodLink RX6 69 yX6_notesFor ∈ zU := zU_in (by decide +kernel) (by decide +kernel)
theorem zw_117 : Cond.instanceMethod yX6_readOn ∈ zU := zU_in (by decide +kernel) (by decide +kernel)
theorem zw_118 : Cond.selects RX6 yX6_readOn yX6_readOn ∈ zU := zU_in (by decide +kernel) (by decide +kernel)
theorem zw_119 : Cond.methodLink RX6 46 yX6_readOn ∈ zU := zU_in (by decide +kernel) (by decide +kernel)
theorem zw_120 : Cond.instanceMethod yX6_rows ∈ zU := zU_in (by decide +kernel) (by decide +kernel)
theorem zw_121 : Cond.selects RX6 yX6_rows yX6_rows ∈ zU := zU_in (by decide +kernel) (by decide +kernel)
theorem zw_122 : Cond.methodLink RX8 154 yX6_rows ∈ zU := zU_in (by decide +kernel) (by decide +kernel)
theorem zw_123 : Cond.fieldLink RX6 29 RX6 "open" "[I" ∈ zU := zU_in (by decide +kernel) (by decide +kernel)
theorem zw_124 : Cond.instanceMethod yX6_goesOn ∈ zU := zU_in (by decide +kernel) (by decide +kernel)
theorem zw_125 : Cond.selects RX6 yX6_goesOn yX6_goesOn ∈ zU := zU_in (by decide +kernel) (by decide +kernel)
theorem zw_126 : Cond.methodLink RX6 97 yX6_goesOn ∈ zU := zU_in (by decide +kernel) (by decide +kernel)
theorem zw_127 : Cond.instanceMethod yX6_openAmong ∈ zU := zU_in (by decide +kernel) (by decide +kernel)
theorem zw_128 : Cond.selects RX6 yX6_openAmong yX6_openAmong ∈ zU := zU_in (by decide +kernel) (by decide +kernel)
theorem zw_129 : Cond.methodLink RX6 94 yX6_openAmong ∈ zU := zU_in (by decide +kernel) (by decide +kernel)
theorem zw_130 : Cond.methodLink RX6 100 yX2_joins ∈ zU := zU_in (by decide +kernel) (by decide +kernel)
theorem zw_131 : Cond.instanceMethod yX6_firstStep ∈ zU := zU_in (by decide +kernel) (by decide +kernel)
theorem zw_132 : Cond.selects RX6 yX6_firstStep yX6_firstStep ∈ zU := zU_in (by decide +kernel) (by decide +kernel)
theorem zw_133 : Cond.methodLink RX6 61 yX6_firstStep ∈ zU := zU_in (by decide +kernel) (by decide +kernel)
theorem zw_134 : Cond.instanceMethod yX6_markOpen ∈ zU := zU_in (by decide +kernel) (by decide +kernel)
theorem zw_135 : Cond.selects RX6 yX6_markOpen yX6_markOpen ∈ zU := zU_in (by decide +kernel) (by decide +kernel)
theorem zw_136 : Cond.methodLink RX6 57 yX6_markOpen ∈ zU := zU_in (by decide +kernel) (by decide +kernel)
theorem zw_137 : Cond.instanceMethod yX6_firstRowAt ∈ zU := zU_in (by decide +kernel) (by decide +kernel)
theorem zw_138 : Cond.selects RX6 yX6_firstRowAt yX6_firstRowAt ∈ zU := zU_in (by decide +kernel) (by decide +kernel)
theorem zw_139 : Cond.methodLink RX8 157 yX6_firstRowAt ∈ zU := zU_in (by decide +kernel) (by decide +kernel)
theorem zw_140 : Cond.methodLink RX6 65 yX6_rows ∈ zU := zU_in (by decide +kernel) (by decide +kernel)
theorem zw_141 : Cond.instanceMethod yX6_homeRegion ∈ zU := zU_in (by decide +kernel) (by decide +kernel)
theorem zw_142 : Cond.selects RX6 yX6_homeRegion yX6_homeRegion ∈ zU := zU_in (by decide +kernel) (by decide +kernel)
theorem zw_143 : Cond.methodLink RX8 161 yX6_homeRegion ∈ zU := zU_in (by decide +kernel) (by decide +kernel)
theorem zw_144 : Cond.fieldLink RX5 36 RX5 "size" "I" ∈ zU := zU_in (by decide +kernel) (by decide +kernel)
theorem zw_145 : Cond.fieldLink RX5 9 RX5 "rule" "[I" ∈ zU := zU_in (by decide +kernel) (by decide +kernel)
theorem zw_146 : Cond.fieldLink RX4 17 RX4 "part" "[[I" ∈ zU := zU_in (by decide +kernel) (by decide +kernel)
theorem zw_147 : Cond.fieldLink RX4 9 RX4 "size" "[I" ∈ zU := zU_in (by decide +kernel) (by decide +kernel)
theorem zw_148 : Cond.static yX8_isRule ∈ zU := zU_in (by decide +kernel) (by decide +kernel)
theorem zw_149 : Cond.methodLink RX8 164 yX8_isRule ∈ zU := zU_in (by decide +kernel) (by decide +kernel)
theorem zw_150 : Cond.fieldLink RX8 51 RX8 "sheets" "LPiperHouse$Sheets;" ∈ zU := zU_in (by decide +kernel) (by decide +kernel)
theorem zw_151 : Cond.instanceMethod yX5_useRule ∈ zU := zU_in (by decide +kernel) (by decide +kernel)
theorem zw_152 : Cond.selects RX5 yX5_useRule yX5_useRule ∈ zU := zU_in (by decide +kernel) (by decide +kernel)
theorem zw_153 : Cond.methodLink RX8 167 yX5_useRule ∈ zU := zU_in (by decide +kernel) (by decide +kernel)
theorem zw_154 : Cond.fieldLink RX8 35 RX8 "rules" "LPiperHouse$Rules;" ∈ zU := zU_in (by decide +kernel) (by decide +kernel)
theorem zw_155 : Cond.instanceMethod yX4_become ∈ zU := zU_in (by decide +kernel) (by decide +kernel)
theorem zw_156 : Cond.selects RX4 yX4_become yX4_become ∈ zU := zU_in (by decide +kernel) (by decide +kernel)
theorem zw_157 : Cond.methodLink RX8 170 yX4_become ∈ zU := zU_in (by decide +kernel) (by decide +kernel)
theorem zw_158 : Cond.fieldLink RX1 9 RX1 "note" "[I" ∈ zU := zU_in (by decide +kernel) (by decide +kernel)
theorem zw_159 : Cond.fieldLink RX1 19 RX1 "size" "I" ∈ zU := zU_in (by decide +kernel) (by decide +kernel)
theorem zw_160 : Cond.fieldLink RX8 44 RX8 "ground" "LPiperHouse$Ground;" ∈ zU := zU_in (by decide +kernel) (by decide +kernel)
theorem zw_161 : Cond.fieldLink RX8 171 RX1 "size" "I" ∈ zU := zU_in (by decide +kernel) (by decide +kernel)
theorem zw_162 : Cond.instanceMethod yX1_append ∈ zU := zU_in (by decide +kernel) (by decide +kernel)
theorem zw_163 : Cond.selects RX1 yX1_append yX1_append ∈ zU := zU_in (by decide +kernel) (by decide +kernel)
theorem zw_164 : Cond.methodLink RX8 172 yX1_append ∈ zU := zU_in (by decide +kernel) (by decide +kernel)
theorem zw_165 : Cond.static yX4_sourceOf ∈ zU := zU_in (by decide +kernel) (by decide +kernel)
theorem zw_166 : Cond.methodLink RX4 34 yX4_sourceOf ∈ zU := zU_in (by decide +kernel) (by decide +kernel)
theorem zw_167 : Cond.fieldLink RX1 15 RX1 "rules" "LPiperHouse$Rules;" ∈ zU := zU_in (by decide +kernel) (by decide +kernel)
theorem zw_168 : Cond.instanceMethod yX4_source ∈ zU := zU_in (by decide +kernel) (by decide +kernel)
theorem zw_169 : Cond.selects RX4 yX4_source yX4_source ∈ zU := zU_in (by decide +kernel) (by decide +kernel)
theorem zw_170 : Cond.methodLink RX1 23 yX4_source ∈ zU := zU_in (by decide +kernel) (by decide +kernel)
theorem zw_171 : Cond.constant RX8 173 (65535) ∈ zU := zU_in (by decide +kernel) (by decide +kernel)
theorem zw_172 : Cond.instanceMethod yX1_variationAt ∈ zU := zU_in (by decide +kernel) (by decide +kernel)
theorem zw_173 : Cond.selects RX1 yX1_variationAt yX1_variationAt ∈ zU := zU_in (by decide +kernel) (by decide +kernel)
theorem zw_174 : Cond.methodLink RX8 174 yX1_variationAt ∈ zU := zU_in (by decide +kernel) (by decide +kernel)
theorem zw_175 : Cond.fieldLink RX5 40 RX5 "notes" "I" ∈ zU := zU_in (by decide +kernel) (by decide +kernel)
theorem zw_176 : Cond.fieldLink RX5 43 RX5 "cadences" "I" ∈ zU := zU_in (by decide +kernel) (by decide +kernel)
theorem zw_177 : Cond.constant RJ6 265 (1431655765) ∈ zU := zU_in (by decide +kernel) (by decide +kernel)
theorem zw_178 : Cond.constant RJ6 266 (858993459) ∈ zU := zU_in (by decide +kernel) (by decide +kernel)
theorem zw_179 : Cond.constant RJ6 267 (252645135) ∈ zU := zU_in (by decide +kernel) (by decide +kernel)
theorem zw_180 : Cond.static yJ6_bitCount_0f7a4 ∈ zU := zU_in (by decide +kernel) (by decide +kernel)
theorem zw_181 : Cond.methodLink RX4 24 yJ6_bitCount_0f7a4 ∈ zU := zU_in (by decide +kernel) (by decide +kernel)
theorem zw_182 : Cond.fieldLink RX5 15 RX5 "cellCount" "[I" ∈ zU := zU_in (by decide +kernel) (by decide +kernel)
theorem zw_183 : Cond.fieldLink RX5 32 RX5 "rules" "LPiperHouse$Rules;" ∈ zU := zU_in (by decide +kernel) (by decide +kernel)
theorem zw_184 : Cond.instanceMethod yX4_variationSize ∈ zU := zU_in (by decide +kernel) (by decide +kernel)
theorem zw_185 : Cond.selects RX4 yX4_variationSize yX4_variationSize ∈ zU := zU_in (by decide +kernel) (by decide +kernel)
theorem zw_186 : Cond.methodLink RX5 46 yX4_variationSize ∈ zU := zU_in (by decide +kernel) (by decide +kernel)
theorem zw_187 : Cond.fieldLink RX5 20 RX5 "told" "[[I" ∈ zU := zU_in (by decide +kernel) (by decide +kernel)
theorem zw_188 : Cond.methodLink RX5 52 yJ7_fill_53178 ∈ zU := zU_in (by decide +kernel) (by decide +kernel)
theorem zw_189 : Cond.instanceMethod yX5_accept ∈ zU := zU_in (by decide +kernel) (by decide +kernel)
theorem zw_190 : Cond.selects RX5 yX5_accept yX5_accept ∈ zU := zU_in (by decide +kernel) (by decide +kernel)
theorem zw_191 : Cond.methodLink RX8 177 yX5_accept ∈ zU := zU_in (by decide +kernel) (by decide +kernel)
theorem zw_192 : Cond.fieldLink RX8 181 RX5 "size" "I" ∈ zU := zU_in (by decide +kernel) (by decide +kernel)
theorem zw_193 : Cond.instanceMethod yX5_append ∈ zU := zU_in (by decide +kernel) (by decide +kernel)
theorem zw_194 : Cond.selects RX5 yX5_append yX5_append ∈ zU := zU_in (by decide +kernel) (by decide +kernel)
theorem zw_195 : Cond.methodLink RX8 182 yX5_append ∈ zU := zU_in (by decide +kernel) (by decide +kernel)
theorem zw_196 : Cond.instanceMethod yX8_isSheet ∈ zU := zU_in (by decide +kernel) (by decide +kernel)
theorem zw_197 : Cond.selects RX8 yX8_isSheet yX8_isSheet ∈ zU := zU_in (by decide +kernel) (by decide +kernel)
theorem zw_198 : Cond.methodLink RX8 189 yX8_isSheet ∈ zU := zU_in (by decide +kernel) (by decide +kernel)
theorem zw_199 : Cond.fieldLink RX8 192 RX5 "cellCount" "[I" ∈ zU := zU_in (by decide +kernel) (by decide +kernel)
theorem zw_200 : Cond.fieldLink RX8 186 RX5 "told" "[[I" ∈ zU := zU_in (by decide +kernel) (by decide +kernel)
theorem zw_201 : Cond.instanceMethod yX8_isCell ∈ zU := zU_in (by decide +kernel) (by decide +kernel)
theorem zw_202 : Cond.selects RX8 yX8_isCell yX8_isCell ∈ zU := zU_in (by decide +kernel) (by decide +kernel)
theorem zw_203 : Cond.methodLink RX8 183 yX8_isCell ∈ zU := zU_in (by decide +kernel) (by decide +kernel)
theorem zw_204 : Cond.fieldLink RX5 61 RX5 "lostCauses" "I" ∈ zU := zU_in (by decide +kernel) (by decide +kernel)
theorem zw_205 : Cond.fieldLink RX5 26 RX5 "voters" "[I" ∈ zU := zU_in (by decide +kernel) (by decide +kernel)
theorem zw_206 : Cond.fieldLink RX5 23 RX5 "votes" "[[I" ∈ zU := zU_in (by decide +kernel) (by decide +kernel)
theorem zw_207 : Cond.methodLink RX5 83 yX4_source ∈ zU := zU_in (by decide +kernel) (by decide +kernel)
theorem zw_208 : Cond.instanceMethod yX5_vote ∈ zU := zU_in (by decide +kernel) (by decide +kernel)
theorem zw_209 : Cond.selects RX5 yX5_vote yX5_vote ∈ zU := zU_in (by decide +kernel) (by decide +kernel)
theorem zw_210 : Cond.methodLink RX5 87 yX5_vote ∈ zU := zU_in (by decide +kernel) (by decide +kernel)
theorem zw_211 : Cond.constant RX5 64 (1000001) ∈ zU := zU_in (by decide +kernel) (by decide +kernel)
theorem zw_212 : Cond.instanceMethod yX5_blamelessNotes ∈ zU := zU_in (by decide +kernel) (by decide +kernel)
theorem zw_213 : Cond.selects RX5 yX5_blamelessNotes yX5_blamelessNotes ∈ zU := zU_in (by decide +kernel) (by decide +kernel)
theorem zw_214 : Cond.methodLink RX5 65 yX5_blamelessNotes ∈ zU := zU_in (by decide +kernel) (by decide +kernel)
theorem zw_215 : Cond.methodLink RX5 69 Lib.Math.min.name ∈ zU := zU_in (by decide +kernel) (by decide +kernel)
theorem zw_216 : Cond.instanceMethod yX5_poll ∈ zU := zU_in (by decide +kernel) (by decide +kernel)
theorem zw_217 : Cond.selects RX5 yX5_poll yX5_poll ∈ zU := zU_in (by decide +kernel) (by decide +kernel)
theorem zw_218 : Cond.methodLink RX5 58 yX5_poll ∈ zU := zU_in (by decide +kernel) (by decide +kernel)
theorem zw_219 : Cond.instanceMethod yX5_agreeingGrounds ∈ zU := zU_in (by decide +kernel) (by decide +kernel)
theorem zw_220 : Cond.selects RX5 yX5_agreeingGrounds yX5_agreeingGrounds ∈ zU := zU_in (by decide +kernel) (by decide +kernel)
theorem zw_221 : Cond.methodLink RX8 195 yX5_agreeingGrounds ∈ zU := zU_in (by decide +kernel) (by decide +kernel)
theorem zw_222 : Cond.fieldLink RX5 29 RX5 "chosen" "[I" ∈ zU := zU_in (by decide +kernel) (by decide +kernel)
theorem zw_223 : Cond.static yX5_mostVoted ∈ zU := zU_in (by decide +kernel) (by decide +kernel)
theorem zw_224 : Cond.methodLink RX5 75 yX5_mostVoted ∈ zU := zU_in (by decide +kernel) (by decide +kernel)
theorem zw_225 : Cond.fieldLink RX8 198 RX5 "notes" "I" ∈ zU := zU_in (by decide +kernel) (by decide +kernel)
theorem zw_226 : Cond.instanceMethod yX5_chooseGround ∈ zU := zU_in (by decide +kernel) (by decide +kernel)
theorem zw_227 : Cond.selects RX5 yX5_chooseGround yX5_chooseGround ∈ zU := zU_in (by decide +kernel) (by decide +kernel)
theorem zw_228 : Cond.methodLink RX8 201 yX5_chooseGround ∈ zU := zU_in (by decide +kernel) (by decide +kernel)
theorem zw_229 : Cond.fieldLink RX8 204 RX5 "chosen" "[I" ∈ zU := zU_in (by decide +kernel) (by decide +kernel)
theorem zw_230 : Cond.instanceMethod yX5_isWrong ∈ zU := zU_in (by decide +kernel) (by decide +kernel)
theorem zw_231 : Cond.selects RX5 yX5_isWrong yX5_isWrong ∈ zU := zU_in (by decide +kernel) (by decide +kernel)
theorem zw_232 : Cond.methodLink RX5 79 yX5_isWrong ∈ zU := zU_in (by decide +kernel) (by decide +kernel)
theorem zw_233 : Cond.methodLink RX8 210 yX5_isWrong ∈ zU := zU_in (by decide +kernel) (by decide +kernel)
theorem zw_234 : Cond.instanceMethod yX5_wrongCells ∈ zU := zU_in (by decide +kernel) (by decide +kernel)
theorem zw_235 : Cond.selects RX5 yX5_wrongCells yX5_wrongCells ∈ zU := zU_in (by decide +kernel) (by decide +kernel)
theorem zw_236 : Cond.methodLink RX8 207 yX5_wrongCells ∈ zU := zU_in (by decide +kernel) (by decide +kernel)
theorem zw_237 : Cond.fieldLink RX3 9 RX3 "reed" "[I" ∈ zU := zU_in (by decide +kernel) (by decide +kernel)
theorem zw_238 : Cond.fieldLink RX3 15 RX3 "rise" "[I" ∈ zU := zU_in (by decide +kernel) (by decide +kernel)
theorem zw_239 : Cond.fieldLink RX3 18 RX3 "warm" "[I" ∈ zU := zU_in (by decide +kernel) (by decide +kernel)
theorem zw_240 : Cond.fieldLink RX3 21 RX3 "comes" "[I" ∈ zU := zU_in (by decide +kernel) (by decide +kernel)
theorem zw_241 : Cond.static yX8_isPiper ∈ zU := zU_in (by decide +kernel) (by decide +kernel)
theorem zw_242 : Cond.methodLink RX8 213 yX8_isPiper ∈ zU := zU_in (by decide +kernel) (by decide +kernel)
theorem zw_243 : Cond.fieldLink RX8 58 RX8 "pipers" "LPiperHouse$Pipers;" ∈ zU := zU_in (by decide +kernel) (by decide +kernel)
theorem zw_244 : Cond.instanceMethod yX3_become ∈ zU := zU_in (by decide +kernel) (by decide +kernel)
theorem zw_245 : Cond.selects RX3 yX3_become yX3_become ∈ zU := zU_in (by decide +kernel) (by decide +kernel)
theorem zw_246 : Cond.methodLink RX8 216 yX3_become ∈ zU := zU_in (by decide +kernel) (by decide +kernel)
theorem zw_247 : Cond.fieldLink RX8 219 RX3 "damp" "I" ∈ zU := zU_in (by decide +kernel) (by decide +kernel)
theorem zw_248 : Cond.fieldLink RX3 69 RX3 "damp" "I" ∈ zU := zU_in (by decide +kernel) (by decide +kernel)
theorem zw_249 : Cond.methodLink RX3 66 Lib.Math.max.name ∈ zU := zU_in (by decide +kernel) (by decide +kernel)
theorem zw_250 : Cond.static Lib.Math.max.name ∈ zU := zU_in (by decide +kernel) (by decide +kernel)
theorem zw_251 : Cond.code Lib.Math.max.name Lib.Math.max.code 2 (some .int) ∈ zU := zU_in (by decide +kernel) (by decide +kernel)
theorem zw_252 : Cond.instanceMethod yX3_dampRise ∈ zU := zU_in (by decide +kernel) (by decide +kernel)
theorem zw_253 : Cond.selects RX3 yX3_dampRise yX3_dampRise ∈ zU := zU_in (by decide +kernel) (by decide +kernel)
theorem zw_254 : Cond.methodLink RX3 30 yX3_dampRise ∈ zU := zU_in (by decide +kernel) (by decide +kernel)
theorem zw_255 : Cond.methodLink RX3 34 Lib.Math.min.name ∈ zU := zU_in (by decide +kernel) (by decide +kernel)
theorem zw_256 : Cond.constant RX8 225 (-2147483648) ∈ zU := zU_in (by decide +kernel) (by decide +kernel)
theorem zw_257 : Cond.static yX8_isMinute ∈ zU := zU_in (by decide +kernel) (by decide +kernel)
theorem zw_258 : Cond.methodLink RX8 222 yX8_isMinute ∈ zU := zU_in (by decide +kernel) (by decide +kernel)
theorem zw_259 : Cond.fieldLink RX8 226 RX3 "comes" "[I" ∈ zU := zU_in (by decide +kernel) (by decide +kernel)
theorem zw_260 : Cond.instanceMethod yX3_pitchAfter ∈ zU := zU_in (by decide +kernel) (by decide +kernel)
theorem zw_261 : Cond.selects RX3 yX3_pitchAfter yX3_pitchAfter ∈ zU := zU_in (by decide +kernel) (by decide +kernel)
theorem zw_262 : Cond.methodLink RX8 229 yX3_pitchAfter ∈ zU := zU_in (by decide +kernel) (by decide +kernel)
theorem zw_263 : Cond.instanceMethod yX3_longestBlown ∈ zU := zU_in (by decide +kernel) (by decide +kernel)
theorem zw_264 : Cond.selects RX3 yX3_longestBlown yX3_longestBlown ∈ zU := zU_in (by decide +kernel) (by decide +kernel)
theorem zw_265 : Cond.methodLink RX3 52 yX3_longestBlown ∈ zU := zU_in (by decide +kernel) (by decide +kernel)
theorem zw_266 : Cond.fieldLink RX3 45 RX3 "bestSpread" "I" ∈ zU := zU_in (by decide +kernel) (by decide +kernel)
theorem zw_267 : Cond.fieldLink RX3 49 RX3 "bestLow" "I" ∈ zU := zU_in (by decide +kernel) (by decide +kernel)
theorem zw_268 : Cond.instanceMethod yX3_minutesToReach ∈ zU := zU_in (by decide +kernel) (by decide +kernel)
theorem zw_269 : Cond.selects RX3 yX3_minutesToReach yX3_minutesToReach ∈ zU := zU_in (by decide +kernel) (by decide +kernel)
theorem zw_270 : Cond.methodLink RX3 62 yX3_minutesToReach ∈ zU := zU_in (by decide +kernel) (by decide +kernel)
theorem zw_271 : Cond.methodLink RX3 55 yX3_pitchAfter ∈ zU := zU_in (by decide +kernel) (by decide +kernel)
theorem zw_272 : Cond.instanceMethod yX3_tryLow ∈ zU := zU_in (by decide +kernel) (by decide +kernel)
theorem zw_273 : Cond.selects RX3 yX3_tryLow yX3_tryLow ∈ zU := zU_in (by decide +kernel) (by decide +kernel)
theorem zw_274 : Cond.methodLink RX3 58 yX3_tryLow ∈ zU := zU_in (by decide +kernel) (by decide +kernel)
theorem zw_275 : Cond.constant RX3 44 (1000000) ∈ zU := zU_in (by decide +kernel) (by decide +kernel)
theorem zw_276 : Cond.static yX8_isBand ∈ zU := zU_in (by decide +kernel) (by decide +kernel)
theorem zw_277 : Cond.methodLink RX8 232 yX8_isBand ∈ zU := zU_in (by decide +kernel) (by decide +kernel)
theorem zw_278 : Cond.instanceMethod yX3_allCome ∈ zU := zU_in (by decide +kernel) (by decide +kernel)
theorem zw_279 : Cond.selects RX3 yX3_allCome yX3_allCome ∈ zU := zU_in (by decide +kernel) (by decide +kernel)
theorem zw_280 : Cond.methodLink RX8 235 yX3_allCome ∈ zU := zU_in (by decide +kernel) (by decide +kernel)
theorem zw_281 : Cond.instanceMethod yX3_tuneBand ∈ zU := zU_in (by decide +kernel) (by decide +kernel)
theorem zw_282 : Cond.selects RX3 yX3_tuneBand yX3_tuneBand ∈ zU := zU_in (by decide +kernel) (by decide +kernel)
theorem zw_283 : Cond.methodLink RX8 238 yX3_tuneBand ∈ zU := zU_in (by decide +kernel) (by decide +kernel)
theorem zw_284 : Cond.fieldLink RX8 245 RX3 "bestLow" "I" ∈ zU := zU_in (by decide +kernel) (by decide +kernel)
theorem zw_285 : Cond.fieldLink RX8 242 RX3 "bestSpread" "I" ∈ zU := zU_in (by decide +kernel) (by decide +kernel)
theorem zw_286 : Cond.methodLink RX8 248 yX8_hasBit ∈ zU := zU_in (by decide +kernel) (by decide +kernel)
theorem zw_287 : Cond.methodLink RX8 251 yX3_minutesToReach ∈ zU := zU_in (by decide +kernel) (by decide +kernel)
theorem zw_288 : Cond.fieldLink RX8 65 RX8 "drone" "LPiperHouse$Drone;" ∈ zU := zU_in (by decide +kernel) (by decide +kernel)
theorem zw_289 : Cond.fieldLink RX8 254 RX0 "tone" "[I" ∈ zU := zU_in (by decide +kernel) (by decide +kernel)
theorem zw_290 : Cond.fieldLink RX0 9 RX0 "tone" "[I" ∈ zU := zU_in (by decide +kernel) (by decide +kernel)
theorem zw_291 : Cond.methodLink RX0 15 Lib.Math.abs.name ∈ zU := zU_in (by decide +kernel) (by decide +kernel)
theorem zw_292 : Cond.static Lib.Math.abs.name ∈ zU := zU_in (by decide +kernel) (by decide +kernel)
theorem zw_293 : Cond.code Lib.Math.abs.name Lib.Math.abs.code 1 (some .int) ∈ zU := zU_in (by decide +kernel) (by decide +kernel)
theorem zw_294 : Cond.static yX8_isPitch ∈ zU := zU_in (by decide +kernel) (by decide +kernel)
theorem zw_295 : Cond.methodLink RX8 257 yX8_isPitch ∈ zU := zU_in (by decide +kernel) (by decide +kernel)
theorem zw_296 : Cond.instanceMethod yX0_harshness ∈ zU := zU_in (by decide +kernel) (by decide +kernel)
theorem zw_297 : Cond.selects RX0 yX0_harshness yX0_harshness ∈ zU := zU_in (by decide +kernel) (by decide +kernel)
theorem zw_298 : Cond.methodLink RX8 260 yX0_harshness ∈ zU := zU_in (by decide +kernel) (by decide +kernel)
theorem zw_299 : Cond.instanceMethod yX0_middleTone ∈ zU := zU_in (by decide +kernel) (by decide +kernel)
theorem zw_300 : Cond.selects RX0 yX0_middleTone yX0_middleTone ∈ zU := zU_in (by decide +kernel) (by decide +kernel)
theorem zw_301 : Cond.methodLink RX0 21 yX0_middleTone ∈ zU := zU_in (by decide +kernel) (by decide +kernel)
theorem zw_302 : Cond.methodLink RX0 25 Lib.Math.min.name ∈ zU := zU_in (by decide +kernel) (by decide +kernel)
theorem zw_303 : Cond.methodLink RX0 29 Lib.Math.max.name ∈ zU := zU_in (by decide +kernel) (by decide +kernel)
theorem zw_304 : Cond.instanceMethod yX0_mildest ∈ zU := zU_in (by decide +kernel) (by decide +kernel)
theorem zw_305 : Cond.selects RX0 yX0_mildest yX0_mildest ∈ zU := zU_in (by decide +kernel) (by decide +kernel)
theorem zw_306 : Cond.methodLink RX8 263 yX0_mildest ∈ zU := zU_in (by decide +kernel) (by decide +kernel)
theorem zw_307 : Cond.instanceMethod yX7_lostOnes ∈ zU := zU_in (by decide +kernel) (by decide +kernel)
theorem zw_308 : Cond.selects RX7 yX7_lostOnes yX7_lostOnes ∈ zU := zU_in (by decide +kernel) (by decide +kernel)
theorem zw_309 : Cond.methodLink RX8 266 yX7_lostOnes ∈ zU := zU_in (by decide +kernel) (by decide +kernel)
theorem zw_310 : Cond.static yX9_in ∈ zU := zU_in (by decide +kernel) (by decide +kernel)
theorem zw_311 : Cond.methodLink RX9 86 yX9_in ∈ zU := zU_in (by decide +kernel) (by decide +kernel)
theorem zw_312 : Cond.constant RX9 90 (1000001) ∈ zU := zU_in (by decide +kernel) (by decide +kernel)
theorem zw_313 : Cond.fieldLink RX9 13 RX9 "grace" "[I" ∈ zU := zU_in (by decide +kernel) (by decide +kernel)
theorem zw_314 : Cond.fieldLink RX9 7 RX9 "gracesOf" "[I" ∈ zU := zU_in (by decide +kernel) (by decide +kernel)
theorem zw_315 : Cond.static yX9_isNote ∈ zU := zU_in (by decide +kernel) (by decide +kernel)
theorem zw_316 : Cond.methodLink RX9 95 yX9_isNote ∈ zU := zU_in (by decide +kernel) (by decide +kernel)
theorem zw_317 : Cond.static yX9_isMovement ∈ zU := zU_in (by decide +kernel) (by decide +kernel)
theorem zw_318 : Cond.methodLink RX9 91 yX9_isMovement ∈ zU := zU_in (by decide +kernel) (by decide +kernel)
theorem zw_319 : Cond.fieldLink RX9 19 RX9 "to" "[I" ∈ zU := zU_in (by decide +kernel) (by decide +kernel)
theorem zw_320 : Cond.fieldLink RX9 16 RX9 "from" "[I" ∈ zU := zU_in (by decide +kernel) (by decide +kernel)
theorem zw_321 : Cond.fieldLink RX9 22 RX9 "beat" "I" ∈ zU := zU_in (by decide +kernel) (by decide +kernel)
theorem zw_322 : Cond.instanceMethod yX9_fitsSo ∈ zU := zU_in (by decide +kernel) (by decide +kernel)
theorem zw_323 : Cond.selects RX9 yX9_fitsSo yX9_fitsSo ∈ zU := zU_in (by decide +kernel) (by decide +kernel)
theorem zw_324 : Cond.methodLink RX9 98 yX9_fitsSo ∈ zU := zU_in (by decide +kernel) (by decide +kernel)
theorem zw_325 : Cond.fieldLink RX9 101 RX9 "steps" "I" ∈ zU := zU_in (by decide +kernel) (by decide +kernel)
theorem zw_326 : Cond.fieldLink RX9 26 RX9 "note" "[I" ∈ zU := zU_in (by decide +kernel) (by decide +kernel)
theorem zw_327 : Cond.fieldLink RX9 29 RX9 "length" "[I" ∈ zU := zU_in (by decide +kernel) (by decide +kernel)
theorem zw_328 : Cond.fieldLink RX9 32 RX9 "movement" "[I" ∈ zU := zU_in (by decide +kernel) (by decide +kernel)
theorem zw_329 : Cond.instanceMethod yX9_holds ∈ zU := zU_in (by decide +kernel) (by decide +kernel)
theorem zw_330 : Cond.selects RX9 yX9_holds yX9_holds ∈ zU := zU_in (by decide +kernel) (by decide +kernel)
theorem zw_331 : Cond.methodLink RX9 104 yX9_holds ∈ zU := zU_in (by decide +kernel) (by decide +kernel)
theorem zw_332 : Cond.constantLong RX9 112 (1000001) ∈ zU := zU_in (by decide +kernel) (by decide +kernel)
theorem zw_333 : Cond.instanceMethod yX9_wrong ∈ zU := zU_in (by decide +kernel) (by decide +kernel)
theorem zw_334 : Cond.selects RX9 yX9_wrong yX9_wrong ∈ zU := zU_in (by decide +kernel) (by decide +kernel)
theorem zw_335 : Cond.methodLink RX9 108 yX9_wrong ∈ zU := zU_in (by decide +kernel) (by decide +kernel)
theorem zw_336 : Cond.instanceMethod yX9_fillings ∈ zU := zU_in (by decide +kernel) (by decide +kernel)
theorem zw_337 : Cond.selects RX9 yX9_fillings yX9_fillings ∈ zU := zU_in (by decide +kernel) (by decide +kernel)
theorem zw_338 : Cond.methodLink RX9 114 yX9_fillings ∈ zU := zU_in (by decide +kernel) (by decide +kernel)
theorem zw_339 : Cond.instanceMethod yX9_quickestOf ∈ zU := zU_in (by decide +kernel) (by decide +kernel)
theorem zw_340 : Cond.selects RX9 yX9_quickestOf yX9_quickestOf ∈ zU := zU_in (by decide +kernel) (by decide +kernel)
theorem zw_341 : Cond.methodLink RX9 117 yX9_quickestOf ∈ zU := zU_in (by decide +kernel) (by decide +kernel)
theorem zw_342 : Cond.fieldLink RX9 38 RX9 "tails" "[I" ∈ zU := zU_in (by decide +kernel) (by decide +kernel)
theorem zw_343 : Cond.fieldLink RX9 35 RX9 "heads" "[I" ∈ zU := zU_in (by decide +kernel) (by decide +kernel)
theorem zw_344 : Cond.static yX9_isRegion ∈ zU := zU_in (by decide +kernel) (by decide +kernel)
theorem zw_345 : Cond.methodLink RX9 121 yX9_isRegion ∈ zU := zU_in (by decide +kernel) (by decide +kernel)
theorem zw_346 : Cond.fieldLink RX9 124 RX9 "song" "I" ∈ zU := zU_in (by decide +kernel) (by decide +kernel)
theorem zw_347 : Cond.fieldLink RX9 41 RX9 "syllable" "[I" ∈ zU := zU_in (by decide +kernel) (by decide +kernel)
theorem zw_348 : Cond.fieldLink RX9 44 RX9 "goesOn" "[I" ∈ zU := zU_in (by decide +kernel) (by decide +kernel)
theorem zw_349 : Cond.static yX9_plus ∈ zU := zU_in (by decide +kernel) (by decide +kernel)
theorem zw_350 : Cond.methodLink RX9 131 yX9_plus ∈ zU := zU_in (by decide +kernel) (by decide +kernel)
theorem zw_351 : Cond.instanceMethod yX9_isSung ∈ zU := zU_in (by decide +kernel) (by decide +kernel)
theorem zw_352 : Cond.selects RX9 yX9_isSung yX9_isSung ∈ zU := zU_in (by decide +kernel) (by decide +kernel)
theorem zw_353 : Cond.methodLink RX9 127 yX9_isSung ∈ zU := zU_in (by decide +kernel) (by decide +kernel)
theorem zw_354 : Cond.instanceMethod yX9_readBy ∈ zU := zU_in (by decide +kernel) (by decide +kernel)
theorem zw_355 : Cond.selects RX9 yX9_readBy yX9_readBy ∈ zU := zU_in (by decide +kernel) (by decide +kernel)
theorem zw_356 : Cond.methodLink RX9 135 yX9_readBy ∈ zU := zU_in (by decide +kernel) (by decide +kernel)
theorem zw_357 : Cond.fieldLink RX9 50 RX9 "part" "[I" ∈ zU := zU_in (by decide +kernel) (by decide +kernel)
theorem zw_358 : Cond.fieldLink RX9 141 RX9 "sheets" "I" ∈ zU := zU_in (by decide +kernel) (by decide +kernel)
theorem zw_359 : Cond.fieldLink RX9 47 RX9 "parts" "[I" ∈ zU := zU_in (by decide +kernel) (by decide +kernel)
theorem zw_360 : Cond.fieldLink RX9 56 RX9 "sheetRule" "[I" ∈ zU := zU_in (by decide +kernel) (by decide +kernel)
theorem zw_361 : Cond.static yX9_isRule ∈ zU := zU_in (by decide +kernel) (by decide +kernel)
theorem zw_362 : Cond.methodLink RX9 138 yX9_isRule ∈ zU := zU_in (by decide +kernel) (by decide +kernel)
theorem zw_363 : Cond.fieldLink RX9 144 RX9 "grounds" "I" ∈ zU := zU_in (by decide +kernel) (by decide +kernel)
theorem zw_364 : Cond.fieldLink RX9 53 RX9 "ground" "[I" ∈ zU := zU_in (by decide +kernel) (by decide +kernel)
theorem zw_365 : Cond.instanceMethod yX9_cellsOf ∈ zU := zU_in (by decide +kernel) (by decide +kernel)
theorem zw_366 : Cond.selects RX9 yX9_cellsOf yX9_cellsOf ∈ zU := zU_in (by decide +kernel) (by decide +kernel)
theorem zw_367 : Cond.methodLink RX9 148 yX9_cellsOf ∈ zU := zU_in (by decide +kernel) (by decide +kernel)
theorem zw_368 : Cond.instanceMethod yX9_cellOf ∈ zU := zU_in (by decide +kernel) (by decide +kernel)
theorem zw_369 : Cond.selects RX9 yX9_cellOf yX9_cellOf ∈ zU := zU_in (by decide +kernel) (by decide +kernel)
theorem zw_370 : Cond.methodLink RX9 152 yX9_cellOf ∈ zU := zU_in (by decide +kernel) (by decide +kernel)
theorem zw_371 : Cond.constant RX9 147 (65535) ∈ zU := zU_in (by decide +kernel) (by decide +kernel)
theorem zw_372 : Cond.fieldLink RX9 59 RX9 "told" "[I" ∈ zU := zU_in (by decide +kernel) (by decide +kernel)
theorem zw_373 : Cond.fieldLink RX9 156 RX9 "sheetNotes" "I" ∈ zU := zU_in (by decide +kernel) (by decide +kernel)
theorem zw_374 : Cond.fieldLink RX9 159 RX9 "cadences" "I" ∈ zU := zU_in (by decide +kernel) (by decide +kernel)
theorem zw_375 : Cond.instanceMethod yX9_isSheet ∈ zU := zU_in (by decide +kernel) (by decide +kernel)
theorem zw_376 : Cond.selects RX9 yX9_isSheet yX9_isSheet ∈ zU := zU_in (by decide +kernel) (by decide +kernel)
theorem zw_377 : Cond.methodLink RX9 162 yX9_isSheet ∈ zU := zU_in (by decide +kernel) (by decide +kernel)
theorem zw_378 : Cond.instanceMethod yX9_sizeOf ∈ zU := zU_in (by decide +kernel) (by decide +kernel)
theorem zw_379 : Cond.selects RX9 yX9_sizeOf yX9_sizeOf ∈ zU := zU_in (by decide +kernel) (by decide +kernel)
theorem zw_380 : Cond.methodLink RX9 165 yX9_sizeOf ∈ zU := zU_in (by decide +kernel) (by decide +kernel)
theorem zw_381 : Cond.fieldLink RX9 62 RX9 "off" "[I" ∈ zU := zU_in (by decide +kernel) (by decide +kernel)
theorem zw_382 : Cond.fieldLink RX9 65 RX9 "table" "[I" ∈ zU := zU_in (by decide +kernel) (by decide +kernel)
theorem zw_383 : Cond.instanceMethod yX9_findOff ∈ zU := zU_in (by decide +kernel) (by decide +kernel)
theorem zw_384 : Cond.selects RX9 yX9_findOff yX9_findOff ∈ zU := zU_in (by decide +kernel) (by decide +kernel)
theorem zw_385 : Cond.methodLink RX9 168 yX9_findOff ∈ zU := zU_in (by decide +kernel) (by decide +kernel)
theorem zw_386 : Cond.constant RX9 171 (100000) ∈ zU := zU_in (by decide +kernel) (by decide +kernel)
theorem zw_387 : Cond.fieldLink RX9 68 RX9 "best" "[I" ∈ zU := zU_in (by decide +kernel) (by decide +kernel)
theorem zw_388 : Cond.instanceMethod yX9_findTable ∈ zU := zU_in (by decide +kernel) (by decide +kernel)
theorem zw_389 : Cond.selects RX9 yX9_findTable yX9_findTable ∈ zU := zU_in (by decide +kernel) (by decide +kernel)
theorem zw_390 : Cond.methodLink RX9 172 yX9_findTable ∈ zU := zU_in (by decide +kernel) (by decide +kernel)
theorem zw_391 : Cond.instanceMethod yX9_findBest ∈ zU := zU_in (by decide +kernel) (by decide +kernel)
theorem zw_392 : Cond.selects RX9 yX9_findBest yX9_findBest ∈ zU := zU_in (by decide +kernel) (by decide +kernel)
theorem zw_393 : Cond.methodLink RX9 175 yX9_findBest ∈ zU := zU_in (by decide +kernel) (by decide +kernel)
theorem zw_394 : Cond.static yX9_isPiper ∈ zU := zU_in (by decide +kernel) (by decide +kernel)
theorem zw_395 : Cond.methodLink RX9 178 yX9_isPiper ∈ zU := zU_in (by decide +kernel) (by decide +kernel)
theorem zw_396 : Cond.fieldLink RX9 71 RX9 "reed" "[I" ∈ zU := zU_in (by decide +kernel) (by decide +kernel)
theorem zw_397 : Cond.fieldLink RX9 74 RX9 "rise" "[I" ∈ zU := zU_in (by decide +kernel) (by decide +kernel)
theorem zw_398 : Cond.fieldLink RX9 77 RX9 "warm" "[I" ∈ zU := zU_in (by decide +kernel) (by decide +kernel)
theorem zw_399 : Cond.fieldLink RX9 80 RX9 "comes" "[I" ∈ zU := zU_in (by decide +kernel) (by decide +kernel)
theorem zw_400 : Cond.fieldLink RX9 181 RX9 "damp" "I" ∈ zU := zU_in (by decide +kernel) (by decide +kernel)
theorem zw_401 : Cond.constant RX9 184 (-2147483648) ∈ zU := zU_in (by decide +kernel) (by decide +kernel)
theorem zw_402 : Cond.instanceMethod yX9_pitchFor ∈ zU := zU_in (by decide +kernel) (by decide +kernel)
theorem zw_403 : Cond.selects RX9 yX9_pitchFor yX9_pitchFor ∈ zU := zU_in (by decide +kernel) (by decide +kernel)
theorem zw_404 : Cond.methodLink RX9 185 yX9_pitchFor ∈ zU := zU_in (by decide +kernel) (by decide +kernel)
theorem zw_405 : Cond.instanceMethod yX9_longFor ∈ zU := zU_in (by decide +kernel) (by decide +kernel)
theorem zw_406 : Cond.selects RX9 yX9_longFor yX9_longFor ∈ zU := zU_in (by decide +kernel) (by decide +kernel)
theorem zw_407 : Cond.methodLink RX9 188 yX9_longFor ∈ zU := zU_in (by decide +kernel) (by decide +kernel)
theorem zw_408 : Cond.fieldLink RX9 191 RX9 "bestSpread" "I" ∈ zU := zU_in (by decide +kernel) (by decide +kernel)
theorem zw_409 : Cond.fieldLink RX9 197 RX9 "bestLeast" "I" ∈ zU := zU_in (by decide +kernel) (by decide +kernel)
theorem zw_410 : Cond.instanceMethod yX9_spreadFor ∈ zU := zU_in (by decide +kernel) (by decide +kernel)
theorem zw_411 : Cond.selects RX9 yX9_spreadFor yX9_spreadFor ∈ zU := zU_in (by decide +kernel) (by decide +kernel)
theorem zw_412 : Cond.methodLink RX9 194 yX9_spreadFor ∈ zU := zU_in (by decide +kernel) (by decide +kernel)
theorem zw_413 : Cond.instanceMethod yX9_wrongBand ∈ zU := zU_in (by decide +kernel) (by decide +kernel)
theorem zw_414 : Cond.selects RX9 yX9_wrongBand yX9_wrongBand ∈ zU := zU_in (by decide +kernel) (by decide +kernel)
theorem zw_415 : Cond.methodLink RX9 200 yX9_wrongBand ∈ zU := zU_in (by decide +kernel) (by decide +kernel)
theorem zw_416 : Cond.instanceMethod yX9_findBand ∈ zU := zU_in (by decide +kernel) (by decide +kernel)
theorem zw_417 : Cond.selects RX9 yX9_findBand yX9_findBand ∈ zU := zU_in (by decide +kernel) (by decide +kernel)
theorem zw_418 : Cond.methodLink RX9 203 yX9_findBand ∈ zU := zU_in (by decide +kernel) (by decide +kernel)
theorem zw_419 : Cond.fieldLink RX9 83 RX9 "tones" "[I" ∈ zU := zU_in (by decide +kernel) (by decide +kernel)
theorem zw_420 : Cond.instanceMethod yX9_harshOf ∈ zU := zU_in (by decide +kernel) (by decide +kernel)
theorem zw_421 : Cond.selects RX9 yX9_harshOf yX9_harshOf ∈ zU := zU_in (by decide +kernel) (by decide +kernel)
theorem zw_422 : Cond.methodLink RX9 207 yX9_harshOf ∈ zU := zU_in (by decide +kernel) (by decide +kernel)
theorem nw_X2_30 : Cond.methodLinkNest RX2 30 yX8_nibble "PiperHouse" ∈ zNW := by simp [zNW]
theorem nw_X2_34 : Cond.methodLinkNest RX2 34 yX8_hasBit "PiperHouse" ∈ zNW := by simp [zNW]
theorem nw_X6_90 : Cond.methodLinkNest RX6 90 yX8_hasBit "PiperHouse" ∈ zNW := by simp [zNW]
theorem nw_X4_20 : Cond.methodLinkNest RX4 20 yX8_nibble "PiperHouse" ∈ zNW := by simp [zNW]
theorem nw_X4_30 : Cond.methodLinkNest RX4 30 yX8_hasBit "PiperHouse" ∈ zNW := by simp [zNW]
theorem nw_X3_40 : Cond.methodLinkNest RX3 40 yX8_hasBit "PiperHouse" ∈ zNW := by simp [zNW]
def Y_X8_within : zY := (yX8_within, cX8_within, 3, (some .boolean), 0)
theorem okY_X8_within : zYok Y_X8_within := ⟨by decide +kernel, zU_in (by decide +kernel) (by decide +kernel), zU_in (by decide +kernel) (by decide +kernel), ⟨by decide +kernel, by decide +kernel⟩, by decide⟩
theorem np_X8_within : (parseMethodDescriptor Y_X8_within.1.desc).map (fun d => d.parameters.length) = some 3 := by decide +kernel
def Y_X8_isMovement : zY := (yX8_isMovement, cX8_isMovement, 1, (some .boolean), 1)
theorem okY_X8_isMovement : zYok Y_X8_isMovement := ⟨by decide +kernel, zU_in (by decide +kernel) (by decide +kernel), zU_in (by decide +kernel) (by decide +kernel), ⟨by decide +kernel, by decide +kernel⟩, by decide⟩
theorem np_X8_isMovement : (parseMethodDescriptor Y_X8_isMovement.1.desc).map (fun d => d.parameters.length) = some 1 := by decide +kernel
def Y_X8_nibble : zY := (yX8_nibble, cX8_nibble, 2, (some .int), 0)
theorem okY_X8_nibble : zYok Y_X8_nibble := ⟨by decide +kernel, zU_in (by decide +kernel) (by decide +kernel), zU_in (by decide +kernel) (by decide +kernel), ⟨by decide +kernel, by decide +kernel⟩, by decide⟩
theorem np_X8_nibble : (parseMethodDescriptor Y_X8_nibble.1.desc).map (fun d => d.parameters.length) = some 2 := by decide +kernel
def Y_X8_nibblesWithin : zY := (yX8_nibblesWithin, cX8_nibblesWithin, 4, (some .boolean), 1)
theorem okY_X8_nibblesWithin : zYok Y_X8_nibblesWithin := ⟨by decide +kernel, zU_in (by decide +kernel) (by decide +kernel), zU_in (by decide +kernel) (by decide +kernel), ⟨by decide +kernel, by decide +kernel⟩, by decide⟩
theorem np_X8_nibblesWithin : (parseMethodDescriptor Y_X8_nibblesWithin.1.desc).map (fun d => d.parameters.length) = some 3 := by decide +kernel
def Y_X2_become : zY := (yX2_become, cX2_become, 5, none, 1)
theorem okY_X2_become : zYok Y_X2_become := ⟨by decide +kernel, zU_in (by decide +kernel) (by decide +kernel), zU_in (by decide +kernel) (by decide +kernel), ⟨by decide +kernel, by decide +kernel⟩, by decide⟩
theorem np_X2_become : (parseMethodDescriptor Y_X2_become.1.desc).map (fun d => d.parameters.length) = some 3 := by decide +kernel
def Y_X8_movement : zY := (yX8_movement, cX8_movement, 4, (some .int), 2)
theorem okY_X8_movement : zYok Y_X8_movement := ⟨by decide +kernel, zU_in (by decide +kernel) (by decide +kernel), zU_in (by decide +kernel) (by decide +kernel), ⟨by decide +kernel, by decide +kernel⟩, by decide⟩
theorem np_X8_movement : (parseMethodDescriptor Y_X8_movement.1.desc).map (fun d => d.parameters.length) = some 3 := by decide +kernel
def Y_X8_replace : zY := (yX8_replace, cX8_replace, 4, (some .int), 0)
theorem okY_X8_replace : zYok Y_X8_replace := ⟨by decide +kernel, zU_in (by decide +kernel) (by decide +kernel), zU_in (by decide +kernel) (by decide +kernel), ⟨by decide +kernel, by decide +kernel⟩, by decide⟩
theorem np_X8_replace : (parseMethodDescriptor Y_X8_replace.1.desc).map (fun d => d.parameters.length) = some 3 := by decide +kernel
def Y_X8_may : zY := (yX8_may, cX8_may, 4, (some .int), 2)
theorem okY_X8_may : zYok Y_X8_may := ⟨by decide +kernel, zU_in (by decide +kernel) (by decide +kernel), zU_in (by decide +kernel) (by decide +kernel), ⟨by decide +kernel, by decide +kernel⟩, by decide⟩
theorem np_X8_may : (parseMethodDescriptor Y_X8_may.1.desc).map (fun d => d.parameters.length) = some 3 := by decide +kernel
def Y_X8_beat : zY := (yX8_beat, cX8_beat, 3, (some .int), 1)
theorem okY_X8_beat : zYok Y_X8_beat := ⟨by decide +kernel, zU_in (by decide +kernel) (by decide +kernel), zU_in (by decide +kernel) (by decide +kernel), ⟨by decide +kernel, by decide +kernel⟩, by decide⟩
theorem np_X8_beat : (parseMethodDescriptor Y_X8_beat.1.desc).map (fun d => d.parameters.length) = some 1 := by decide +kernel
def Y_X8_isNote : zY := (yX8_isNote, cX8_isNote, 1, (some .boolean), 1)
theorem okY_X8_isNote : zYok Y_X8_isNote := ⟨by decide +kernel, zU_in (by decide +kernel) (by decide +kernel), zU_in (by decide +kernel) (by decide +kernel), ⟨by decide +kernel, by decide +kernel⟩, by decide⟩
theorem np_X8_isNote : (parseMethodDescriptor Y_X8_isNote.1.desc).map (fun d => d.parameters.length) = some 1 := by decide +kernel
def Y_X8_hasBit : zY := (yX8_hasBit, cX8_hasBit, 2, (some .boolean), 0)
theorem okY_X8_hasBit : zYok Y_X8_hasBit := ⟨by decide +kernel, zU_in (by decide +kernel) (by decide +kernel), zU_in (by decide +kernel) (by decide +kernel), ⟨by decide +kernel, by decide +kernel⟩, by decide⟩
theorem np_X8_hasBit : (parseMethodDescriptor Y_X8_hasBit.1.desc).map (fun d => d.parameters.length) = some 2 := by decide +kernel
def Y_X2_repeatsGrace : zY := (yX2_repeatsGrace, cX2_repeatsGrace, 3, (some .boolean), 0)
theorem okY_X2_repeatsGrace : zYok Y_X2_repeatsGrace := ⟨by decide +kernel, zU_in (by decide +kernel) (by decide +kernel), zU_in (by decide +kernel) (by decide +kernel), ⟨by decide +kernel, by decide +kernel⟩, by decide⟩
theorem np_X2_repeatsGrace : (parseMethodDescriptor Y_X2_repeatsGrace.1.desc).map (fun d => d.parameters.length) = some 1 := by decide +kernel
def Y_X2_leadsTo : zY := (yX2_leadsTo, cX2_leadsTo, 4, (some .int), 1)
theorem okY_X2_leadsTo : zYok Y_X2_leadsTo := ⟨by decide +kernel, zU_in (by decide +kernel) (by decide +kernel), zU_in (by decide +kernel) (by decide +kernel), ⟨by decide +kernel, by decide +kernel⟩, by decide⟩
theorem np_X2_leadsTo : (parseMethodDescriptor Y_X2_leadsTo.1.desc).map (fun d => d.parameters.length) = some 2 := by decide +kernel
def Y_X2_joins : zY := (yX2_joins, cX2_joins, 4, (some .boolean), 2)
theorem okY_X2_joins : zYok Y_X2_joins := ⟨by decide +kernel, zU_in (by decide +kernel) (by decide +kernel), zU_in (by decide +kernel) (by decide +kernel), ⟨by decide +kernel, by decide +kernel⟩, by decide⟩
theorem np_X2_joins : (parseMethodDescriptor Y_X2_joins.1.desc).map (fun d => d.parameters.length) = some 3 := by decide +kernel
def Y_X8_fits : zY := (yX8_fits, cX8_fits, 4, (some .int), 3)
theorem okY_X8_fits : zYok Y_X8_fits := ⟨by decide +kernel, zU_in (by decide +kernel) (by decide +kernel), zU_in (by decide +kernel) (by decide +kernel), ⟨by decide +kernel, by decide +kernel⟩, by decide⟩
theorem np_X8_fits : (parseMethodDescriptor Y_X8_fits.1.desc).map (fun d => d.parameters.length) = some 3 := by decide +kernel
def Y_X8_isMovementOrLost : zY := (yX8_isMovementOrLost, cX8_isMovementOrLost, 1, (some .boolean), 2)
theorem okY_X8_isMovementOrLost : zYok Y_X8_isMovementOrLost := ⟨by decide +kernel, zU_in (by decide +kernel) (by decide +kernel), zU_in (by decide +kernel) (by decide +kernel), ⟨by decide +kernel, by decide +kernel⟩, by decide⟩
theorem np_X8_isMovementOrLost : (parseMethodDescriptor Y_X8_isMovementOrLost.1.desc).map (fun d => d.parameters.length) = some 1 := by decide +kernel
def Y_X7_append : zY := (yX7_append, cX7_append, 4, (some .int), 0)
theorem okY_X7_append : zYok Y_X7_append := ⟨by decide +kernel, zU_in (by decide +kernel) (by decide +kernel), zU_in (by decide +kernel) (by decide +kernel), ⟨by decide +kernel, by decide +kernel⟩, by decide⟩
theorem np_X7_append : (parseMethodDescriptor Y_X7_append.1.desc).map (fun d => d.parameters.length) = some 3 := by decide +kernel
def Y_X8_step : zY := (yX8_step, cX8_step, 4, (some .int), 3)
theorem okY_X8_step : zYok Y_X8_step := ⟨by decide +kernel, zU_in (by decide +kernel) (by decide +kernel), zU_in (by decide +kernel) (by decide +kernel), ⟨by decide +kernel, by decide +kernel⟩, by decide⟩
theorem np_X8_step : (parseMethodDescriptor Y_X8_step.1.desc).map (fun d => d.parameters.length) = some 3 := by decide +kernel
def Y_X8_isStep : zY := (yX8_isStep, cX8_isStep, 2, (some .boolean), 1)
theorem okY_X8_isStep : zYok Y_X8_isStep := ⟨by decide +kernel, zU_in (by decide +kernel) (by decide +kernel), zU_in (by decide +kernel) (by decide +kernel), ⟨by decide +kernel, by decide +kernel⟩, by decide⟩
theorem np_X8_isStep : (parseMethodDescriptor Y_X8_isStep.1.desc).map (fun d => d.parameters.length) = some 1 := by decide +kernel
def Y_X8_put : zY := (yX8_put, cX8_put, 3, (some .int), 3)
theorem okY_X8_put : zYok Y_X8_put := ⟨by decide +kernel, zU_in (by decide +kernel) (by decide +kernel), zU_in (by decide +kernel) (by decide +kernel), ⟨by decide +kernel, by decide +kernel⟩, by decide⟩
theorem np_X8_put : (parseMethodDescriptor Y_X8_put.1.desc).map (fun d => d.parameters.length) = some 2 := by decide +kernel
def Y_X8_back : zY := (yX8_back, cX8_back, 1, (some .int), 0)
theorem okY_X8_back : zYok Y_X8_back := ⟨by decide +kernel, zU_in (by decide +kernel) (by decide +kernel), zU_in (by decide +kernel) (by decide +kernel), ⟨by decide +kernel, by decide +kernel⟩, by decide⟩
theorem np_X8_back : (parseMethodDescriptor Y_X8_back.1.desc).map (fun d => d.parameters.length) = some 0 := by decide +kernel
def Y_X2_leavesTime : zY := (yX2_leavesTime, cX2_leavesTime, 3, (some .boolean), 0)
theorem okY_X2_leavesTime : zYok Y_X2_leavesTime := ⟨by decide +kernel, zU_in (by decide +kernel) (by decide +kernel), zU_in (by decide +kernel) (by decide +kernel), ⟨by decide +kernel, by decide +kernel⟩, by decide⟩
theorem np_X2_leavesTime : (parseMethodDescriptor Y_X2_leavesTime.1.desc).map (fun d => d.parameters.length) = some 2 := by decide +kernel
def Y_X7_holdsWith : zY := (yX7_holdsWith, cX7_holdsWith, 4, (some .boolean), 3)
theorem okY_X7_holdsWith : zYok Y_X7_holdsWith := ⟨by decide +kernel, zU_in (by decide +kernel) (by decide +kernel), zU_in (by decide +kernel) (by decide +kernel), ⟨by decide +kernel, by decide +kernel⟩, by decide⟩
theorem np_X7_holdsWith : (parseMethodDescriptor Y_X7_holdsWith.1.desc).map (fun d => d.parameters.length) = some 2 := by decide +kernel
def Y_X7_firstWrong : zY := (yX7_firstWrong, cX7_firstWrong, 2, (some .int), 4)
theorem okY_X7_firstWrong : zYok Y_X7_firstWrong := ⟨by decide +kernel, zU_in (by decide +kernel) (by decide +kernel), zU_in (by decide +kernel) (by decide +kernel), ⟨by decide +kernel, by decide +kernel⟩, by decide⟩
theorem np_X7_firstWrong : (parseMethodDescriptor Y_X7_firstWrong.1.desc).map (fun d => d.parameters.length) = some 0 := by decide +kernel
def Y_X8_wrong : zY := (yX8_wrong, cX8_wrong, 1, (some .int), 5)
theorem okY_X8_wrong : zYok Y_X8_wrong := ⟨by decide +kernel, zU_in (by decide +kernel) (by decide +kernel), zU_in (by decide +kernel) (by decide +kernel), ⟨by decide +kernel, by decide +kernel⟩, by decide⟩
theorem np_X8_wrong : (parseMethodDescriptor Y_X8_wrong.1.desc).map (fun d => d.parameters.length) = some 0 := by decide +kernel
def Y_X7_waysAt : zY := (yX7_waysAt, cX7_waysAt, 4, (some .int), 4)
theorem okY_X7_waysAt : zYok Y_X7_waysAt := ⟨by decide +kernel, zU_in (by decide +kernel) (by decide +kernel), zU_in (by decide +kernel) (by decide +kernel), ⟨by decide +kernel, by decide +kernel⟩, by decide⟩
theorem np_X7_waysAt : (parseMethodDescriptor Y_X7_waysAt.1.desc).map (fun d => d.parameters.length) = some 1 := by decide +kernel
def Y_X7_fillingCount : zY := (yX7_fillingCount, cX7_fillingCount, 3, (some .int), 5)
theorem okY_X7_fillingCount : zYok Y_X7_fillingCount := ⟨by decide +kernel, zU_in (by decide +kernel) (by decide +kernel), zU_in (by decide +kernel) (by decide +kernel), ⟨by decide +kernel, by decide +kernel⟩, by decide⟩
theorem np_X7_fillingCount : (parseMethodDescriptor Y_X7_fillingCount.1.desc).map (fun d => d.parameters.length) = some 0 := by decide +kernel
def Y_X8_fillings : zY := (yX8_fillings, cX8_fillings, 1, (some .int), 6)
theorem okY_X8_fillings : zYok Y_X8_fillings := ⟨by decide +kernel, zU_in (by decide +kernel) (by decide +kernel), zU_in (by decide +kernel) (by decide +kernel), ⟨by decide +kernel, by decide +kernel⟩, by decide⟩
theorem np_X8_fillings : (parseMethodDescriptor Y_X8_fillings.1.desc).map (fun d => d.parameters.length) = some 0 := by decide +kernel
def Y_X7_quickestAt : zY := (yX7_quickestAt, cX7_quickestAt, 4, (some .int), 4)
theorem okY_X7_quickestAt : zYok Y_X7_quickestAt := ⟨by decide +kernel, zU_in (by decide +kernel) (by decide +kernel), zU_in (by decide +kernel) (by decide +kernel), ⟨by decide +kernel, by decide +kernel⟩, by decide⟩
theorem np_X7_quickestAt : (parseMethodDescriptor Y_X7_quickestAt.1.desc).map (fun d => d.parameters.length) = some 1 := by decide +kernel
def Y_X8_quickest : zY := (yX8_quickest, cX8_quickest, 2, (some .int), 6)
theorem okY_X8_quickest : zYok Y_X8_quickest := ⟨by decide +kernel, zU_in (by decide +kernel) (by decide +kernel), zU_in (by decide +kernel) (by decide +kernel), ⟨by decide +kernel, by decide +kernel⟩, by decide⟩
theorem np_X8_quickest : (parseMethodDescriptor Y_X8_quickest.1.desc).map (fun d => d.parameters.length) = some 1 := by decide +kernel
def Y_X7_quickestGraces : zY := (yX7_quickestGraces, cX7_quickestGraces, 4, (some .int), 5)
theorem okY_X7_quickestGraces : zYok Y_X7_quickestGraces := ⟨by decide +kernel, zU_in (by decide +kernel) (by decide +kernel), zU_in (by decide +kernel) (by decide +kernel), ⟨by decide +kernel, by decide +kernel⟩, by decide⟩
theorem np_X7_quickestGraces : (parseMethodDescriptor Y_X7_quickestGraces.1.desc).map (fun d => d.parameters.length) = some 0 := by decide +kernel
def Y_X8_graces : zY := (yX8_graces, cX8_graces, 1, (some .int), 6)
theorem okY_X8_graces : zYok Y_X8_graces := ⟨by decide +kernel, zU_in (by decide +kernel) (by decide +kernel), zU_in (by decide +kernel) (by decide +kernel), ⟨by decide +kernel, by decide +kernel⟩, by decide⟩
theorem np_X8_graces : (parseMethodDescriptor Y_X8_graces.1.desc).map (fun d => d.parameters.length) = some 0 := by decide +kernel
def Y_X8_isRegion : zY := (yX8_isRegion, cX8_isRegion, 1, (some .boolean), 1)
theorem okY_X8_isRegion : zYok Y_X8_isRegion := ⟨by decide +kernel, zU_in (by decide +kernel) (by decide +kernel), zU_in (by decide +kernel) (by decide +kernel), ⟨by decide +kernel, by decide +kernel⟩, by decide⟩
theorem np_X8_isRegion : (parseMethodDescriptor Y_X8_isRegion.1.desc).map (fun d => d.parameters.length) = some 1 := by decide +kernel
def Y_X8_region : zY := (yX8_region, cX8_region, 6, (some .int), 2)
theorem okY_X8_region : zYok Y_X8_region := ⟨by decide +kernel, zU_in (by decide +kernel) (by decide +kernel), zU_in (by decide +kernel) (by decide +kernel), ⟨by decide +kernel, by decide +kernel⟩, by decide⟩
theorem np_X8_region : (parseMethodDescriptor Y_X8_region.1.desc).map (fun d => d.parameters.length) = some 4 := by decide +kernel
def Y_X6_sound : zY := (yX6_sound, cX6_sound, 4, (some .int), 0)
theorem okY_X6_sound : zYok Y_X6_sound := ⟨by decide +kernel, zU_in (by decide +kernel) (by decide +kernel), zU_in (by decide +kernel) (by decide +kernel), ⟨by decide +kernel, by decide +kernel⟩, by decide⟩
theorem np_X6_sound : (parseMethodDescriptor Y_X6_sound.1.desc).map (fun d => d.parameters.length) = some 3 := by decide +kernel
def Y_X8_sung : zY := (yX8_sung, cX8_sung, 4, (some .int), 2)
theorem okY_X8_sung : zYok Y_X8_sung := ⟨by decide +kernel, zU_in (by decide +kernel) (by decide +kernel), zU_in (by decide +kernel) (by decide +kernel), ⟨by decide +kernel, by decide +kernel⟩, by decide⟩
theorem np_X8_sung : (parseMethodDescriptor Y_X8_sung.1.desc).map (fun d => d.parameters.length) = some 2 := by decide +kernel
def Y_X6_append : zY := (yX6_append, cX6_append, 2, (some .int), 0)
theorem okY_X6_append : zYok Y_X6_append := ⟨by decide +kernel, zU_in (by decide +kernel) (by decide +kernel), zU_in (by decide +kernel) (by decide +kernel), ⟨by decide +kernel, by decide +kernel⟩, by decide⟩
theorem np_X6_append : (parseMethodDescriptor Y_X6_append.1.desc).map (fun d => d.parameters.length) = some 1 := by decide +kernel
def Y_X8_syllable : zY := (yX8_syllable, cX8_syllable, 2, (some .int), 1)
theorem okY_X8_syllable : zYok Y_X8_syllable := ⟨by decide +kernel, zU_in (by decide +kernel) (by decide +kernel), zU_in (by decide +kernel) (by decide +kernel), ⟨by decide +kernel, by decide +kernel⟩, by decide⟩
theorem np_X8_syllable : (parseMethodDescriptor Y_X8_syllable.1.desc).map (fun d => d.parameters.length) = some 1 := by decide +kernel
def Y_X8_hush : zY := (yX8_hush, cX8_hush, 2, (some .int), 0)
theorem okY_X8_hush : zYok Y_X8_hush := ⟨by decide +kernel, zU_in (by decide +kernel) (by decide +kernel), zU_in (by decide +kernel) (by decide +kernel), ⟨by decide +kernel, by decide +kernel⟩, by decide⟩
theorem np_X8_hush : (parseMethodDescriptor Y_X8_hush.1.desc).map (fun d => d.parameters.length) = some 0 := by decide +kernel
def Y_J7_fill_53178 : zY := (yJ7_fill_53178, cJ7_fill_53178, 4, none, 0)
theorem okY_J7_fill_53178 : zYok Y_J7_fill_53178 := ⟨by decide +kernel, zU_in (by decide +kernel) (by decide +kernel), zU_in (by decide +kernel) (by decide +kernel), ⟨by decide +kernel, by decide +kernel⟩, by decide⟩
theorem np_J7_fill_53178 : (parseMethodDescriptor Y_J7_fill_53178.1.desc).map (fun d => d.parameters.length) = some 2 := by decide +kernel
def Y_X6_notesFor : zY := (yX6_notesFor, cX6_notesFor, 5, (some .int), 0)
theorem okY_X6_notesFor : zYok Y_X6_notesFor := ⟨by decide +kernel, zU_in (by decide +kernel) (by decide +kernel), zU_in (by decide +kernel) (by decide +kernel), ⟨by decide +kernel, by decide +kernel⟩, by decide⟩
theorem np_X6_notesFor : (parseMethodDescriptor Y_X6_notesFor.1.desc).map (fun d => d.parameters.length) = some 2 := by decide +kernel
def Y_X6_hasHead : zY := (yX6_hasHead, cX6_hasHead, 4, (some .boolean), 0)
theorem okY_X6_hasHead : zYok Y_X6_hasHead := ⟨by decide +kernel, zU_in (by decide +kernel) (by decide +kernel), zU_in (by decide +kernel) (by decide +kernel), ⟨by decide +kernel, by decide +kernel⟩, by decide⟩
theorem np_X6_hasHead : (parseMethodDescriptor Y_X6_hasHead.1.desc).map (fun d => d.parameters.length) = some 3 := by decide +kernel
def Y_X6_addRows : zY := (yX6_addRows, cX6_addRows, 4, none, 1)
theorem okY_X6_addRows : zYok Y_X6_addRows := ⟨by decide +kernel, zU_in (by decide +kernel) (by decide +kernel), zU_in (by decide +kernel) (by decide +kernel), ⟨by decide +kernel, by decide +kernel⟩, by decide⟩
theorem np_X6_addRows : (parseMethodDescriptor Y_X6_addRows.1.desc).map (fun d => d.parameters.length) = some 2 := by decide +kernel
def Y_X6_readOn : zY := (yX6_readOn, cX6_readOn, 6, none, 2)
theorem okY_X6_readOn : zYok Y_X6_readOn := ⟨by decide +kernel, zU_in (by decide +kernel) (by decide +kernel), zU_in (by decide +kernel) (by decide +kernel), ⟨by decide +kernel, by decide +kernel⟩, by decide⟩
theorem np_X6_readOn : (parseMethodDescriptor Y_X6_readOn.1.desc).map (fun d => d.parameters.length) = some 2 := by decide +kernel
def Y_X6_rows : zY := (yX6_rows, cX6_rows, 4, (some .int), 3)
theorem okY_X6_rows : zYok Y_X6_rows := ⟨by decide +kernel, zU_in (by decide +kernel) (by decide +kernel), zU_in (by decide +kernel) (by decide +kernel), ⟨by decide +kernel, by decide +kernel⟩, by decide⟩
theorem np_X6_rows : (parseMethodDescriptor Y_X6_rows.1.desc).map (fun d => d.parameters.length) = some 1 := by decide +kernel
def Y_X8_read : zY := (yX8_read, cX8_read, 2, (some .int), 4)
theorem okY_X8_read : zYok Y_X8_read := ⟨by decide +kernel, zU_in (by decide +kernel) (by decide +kernel), zU_in (by decide +kernel) (by decide +kernel), ⟨by decide +kernel, by decide +kernel⟩, by decide⟩
theorem np_X8_read : (parseMethodDescriptor Y_X8_read.1.desc).map (fun d => d.parameters.length) = some 1 := by decide +kernel
def Y_X6_goesOn : zY := (yX6_goesOn, cX6_goesOn, 5, (some .boolean), 2)
theorem okY_X6_goesOn : zYok Y_X6_goesOn := ⟨by decide +kernel, zU_in (by decide +kernel) (by decide +kernel), zU_in (by decide +kernel) (by decide +kernel), ⟨by decide +kernel, by decide +kernel⟩, by decide⟩
theorem np_X6_goesOn : (parseMethodDescriptor Y_X6_goesOn.1.desc).map (fun d => d.parameters.length) = some 3 := by decide +kernel
def Y_X6_openAmong : zY := (yX6_openAmong, cX6_openAmong, 6, (some .int), 3)
theorem okY_X6_openAmong : zYok Y_X6_openAmong := ⟨by decide +kernel, zU_in (by decide +kernel) (by decide +kernel), zU_in (by decide +kernel) (by decide +kernel), ⟨by decide +kernel, by decide +kernel⟩, by decide⟩
theorem np_X6_openAmong : (parseMethodDescriptor Y_X6_openAmong.1.desc).map (fun d => d.parameters.length) = some 3 := by decide +kernel
def Y_X6_markOpen : zY := (yX6_markOpen, cX6_markOpen, 4, none, 4)
theorem okY_X6_markOpen : zYok Y_X6_markOpen := ⟨by decide +kernel, zU_in (by decide +kernel) (by decide +kernel), zU_in (by decide +kernel) (by decide +kernel), ⟨by decide +kernel, by decide +kernel⟩, by decide⟩
theorem np_X6_markOpen : (parseMethodDescriptor Y_X6_markOpen.1.desc).map (fun d => d.parameters.length) = some 1 := by decide +kernel
def Y_X6_firstStep : zY := (yX6_firstStep, cX6_firstStep, 6, (some .int), 3)
theorem okY_X6_firstStep : zYok Y_X6_firstStep := ⟨by decide +kernel, zU_in (by decide +kernel) (by decide +kernel), zU_in (by decide +kernel) (by decide +kernel), ⟨by decide +kernel, by decide +kernel⟩, by decide⟩
theorem np_X6_firstStep : (parseMethodDescriptor Y_X6_firstStep.1.desc).map (fun d => d.parameters.length) = some 3 := by decide +kernel
def Y_X6_firstRowAt : zY := (yX6_firstRowAt, cX6_firstRowAt, 6, (some .int), 5)
theorem okY_X6_firstRowAt : zYok Y_X6_firstRowAt := ⟨by decide +kernel, zU_in (by decide +kernel) (by decide +kernel), zU_in (by decide +kernel) (by decide +kernel), ⟨by decide +kernel, by decide +kernel⟩, by decide⟩
theorem np_X6_firstRowAt : (parseMethodDescriptor Y_X6_firstRowAt.1.desc).map (fun d => d.parameters.length) = some 2 := by decide +kernel
def Y_X8_first : zY := (yX8_first, cX8_first, 3, (some .int), 6)
theorem okY_X8_first : zYok Y_X8_first := ⟨by decide +kernel, zU_in (by decide +kernel) (by decide +kernel), zU_in (by decide +kernel) (by decide +kernel), ⟨by decide +kernel, by decide +kernel⟩, by decide⟩
theorem np_X8_first : (parseMethodDescriptor Y_X8_first.1.desc).map (fun d => d.parameters.length) = some 2 := by decide +kernel
def Y_X6_homeRegion : zY := (yX6_homeRegion, cX6_homeRegion, 5, (some .int), 4)
theorem okY_X6_homeRegion : zYok Y_X6_homeRegion := ⟨by decide +kernel, zU_in (by decide +kernel) (by decide +kernel), zU_in (by decide +kernel) (by decide +kernel), ⟨by decide +kernel, by decide +kernel⟩, by decide⟩
theorem np_X6_homeRegion : (parseMethodDescriptor Y_X6_homeRegion.1.desc).map (fun d => d.parameters.length) = some 0 := by decide +kernel
def Y_X8_home : zY := (yX8_home, cX8_home, 1, (some .int), 5)
theorem okY_X8_home : zYok Y_X8_home := ⟨by decide +kernel, zU_in (by decide +kernel) (by decide +kernel), zU_in (by decide +kernel) (by decide +kernel), ⟨by decide +kernel, by decide +kernel⟩, by decide⟩
theorem np_X8_home : (parseMethodDescriptor Y_X8_home.1.desc).map (fun d => d.parameters.length) = some 0 := by decide +kernel
def Y_X8_isRule : zY := (yX8_isRule, cX8_isRule, 1, (some .boolean), 1)
theorem okY_X8_isRule : zYok Y_X8_isRule := ⟨by decide +kernel, zU_in (by decide +kernel) (by decide +kernel), zU_in (by decide +kernel) (by decide +kernel), ⟨by decide +kernel, by decide +kernel⟩, by decide⟩
theorem np_X8_isRule : (parseMethodDescriptor Y_X8_isRule.1.desc).map (fun d => d.parameters.length) = some 1 := by decide +kernel
def Y_X5_useRule : zY := (yX5_useRule, cX5_useRule, 3, (some .boolean), 0)
theorem okY_X5_useRule : zYok Y_X5_useRule := ⟨by decide +kernel, zU_in (by decide +kernel) (by decide +kernel), zU_in (by decide +kernel) (by decide +kernel), ⟨by decide +kernel, by decide +kernel⟩, by decide⟩
theorem np_X5_useRule : (parseMethodDescriptor Y_X5_useRule.1.desc).map (fun d => d.parameters.length) = some 1 := by decide +kernel
def Y_X4_become : zY := (yX4_become, cX4_become, 5, none, 1)
theorem okY_X4_become : zYok Y_X4_become := ⟨by decide +kernel, zU_in (by decide +kernel) (by decide +kernel), zU_in (by decide +kernel) (by decide +kernel), ⟨by decide +kernel, by decide +kernel⟩, by decide⟩
theorem np_X4_become : (parseMethodDescriptor Y_X4_become.1.desc).map (fun d => d.parameters.length) = some 3 := by decide +kernel
def Y_X8_rule : zY := (yX8_rule, cX8_rule, 4, (some .int), 2)
theorem okY_X8_rule : zYok Y_X8_rule := ⟨by decide +kernel, zU_in (by decide +kernel) (by decide +kernel), zU_in (by decide +kernel) (by decide +kernel), ⟨by decide +kernel, by decide +kernel⟩, by decide⟩
theorem np_X8_rule : (parseMethodDescriptor Y_X8_rule.1.desc).map (fun d => d.parameters.length) = some 3 := by decide +kernel
def Y_X1_append : zY := (yX1_append, cX1_append, 2, (some .int), 0)
theorem okY_X1_append : zYok Y_X1_append := ⟨by decide +kernel, zU_in (by decide +kernel) (by decide +kernel), zU_in (by decide +kernel) (by decide +kernel), ⟨by decide +kernel, by decide +kernel⟩, by decide⟩
theorem np_X1_append : (parseMethodDescriptor Y_X1_append.1.desc).map (fun d => d.parameters.length) = some 1 := by decide +kernel
def Y_X8_note : zY := (yX8_note, cX8_note, 2, (some .int), 2)
theorem okY_X8_note : zYok Y_X8_note := ⟨by decide +kernel, zU_in (by decide +kernel) (by decide +kernel), zU_in (by decide +kernel) (by decide +kernel), ⟨by decide +kernel, by decide +kernel⟩, by decide⟩
theorem np_X8_note : (parseMethodDescriptor Y_X8_note.1.desc).map (fun d => d.parameters.length) = some 1 := by decide +kernel
def Y_X8_silence : zY := (yX8_silence, cX8_silence, 2, (some .int), 0)
theorem okY_X8_silence : zYok Y_X8_silence := ⟨by decide +kernel, zU_in (by decide +kernel) (by decide +kernel), zU_in (by decide +kernel) (by decide +kernel), ⟨by decide +kernel, by decide +kernel⟩, by decide⟩
theorem np_X8_silence : (parseMethodDescriptor Y_X8_silence.1.desc).map (fun d => d.parameters.length) = some 0 := by decide +kernel
def Y_X4_sourceOf : zY := (yX4_sourceOf, cX4_sourceOf, 3, (some .int), 0)
theorem okY_X4_sourceOf : zYok Y_X4_sourceOf := ⟨by decide +kernel, zU_in (by decide +kernel) (by decide +kernel), zU_in (by decide +kernel) (by decide +kernel), ⟨by decide +kernel, by decide +kernel⟩, by decide⟩
theorem np_X4_sourceOf : (parseMethodDescriptor Y_X4_sourceOf.1.desc).map (fun d => d.parameters.length) = some 3 := by decide +kernel
def Y_X4_source : zY := (yX4_source, cX4_source, 9, (some .int), 1)
theorem okY_X4_source : zYok Y_X4_source := ⟨by decide +kernel, zU_in (by decide +kernel) (by decide +kernel), zU_in (by decide +kernel) (by decide +kernel), ⟨by decide +kernel, by decide +kernel⟩, by decide⟩
theorem np_X4_source : (parseMethodDescriptor Y_X4_source.1.desc).map (fun d => d.parameters.length) = some 4 := by decide +kernel
def Y_X1_variationAt : zY := (yX1_variationAt, cX1_variationAt, 5, (some .int), 2)
theorem okY_X1_variationAt : zYok Y_X1_variationAt := ⟨by decide +kernel, zU_in (by decide +kernel) (by decide +kernel), zU_in (by decide +kernel) (by decide +kernel), ⟨by decide +kernel, by decide +kernel⟩, by decide⟩
theorem np_X1_variationAt : (parseMethodDescriptor Y_X1_variationAt.1.desc).map (fun d => d.parameters.length) = some 3 := by decide +kernel
def Y_X8_varied : zY := (yX8_varied, cX8_varied, 4, (some .int), 3)
theorem okY_X8_varied : zYok Y_X8_varied := ⟨by decide +kernel, zU_in (by decide +kernel) (by decide +kernel), zU_in (by decide +kernel) (by decide +kernel), ⟨by decide +kernel, by decide +kernel⟩, by decide⟩
theorem np_X8_varied : (parseMethodDescriptor Y_X8_varied.1.desc).map (fun d => d.parameters.length) = some 3 := by decide +kernel
def Y_X5_accept : zY := (yX5_accept, cX5_accept, 3, (some .boolean), 0)
theorem okY_X5_accept : zYok Y_X5_accept := ⟨by decide +kernel, zU_in (by decide +kernel) (by decide +kernel), zU_in (by decide +kernel) (by decide +kernel), ⟨by decide +kernel, by decide +kernel⟩, by decide⟩
theorem np_X5_accept : (parseMethodDescriptor Y_X5_accept.1.desc).map (fun d => d.parameters.length) = some 2 := by decide +kernel
def Y_J6_bitCount_0f7a4 : zY := (yJ6_bitCount_0f7a4, cJ6_bitCount_0f7a4, 1, (some .int), 0)
theorem okY_J6_bitCount_0f7a4 : zYok Y_J6_bitCount_0f7a4 := ⟨by decide +kernel, zU_in (by decide +kernel) (by decide +kernel), zU_in (by decide +kernel) (by decide +kernel), ⟨by decide +kernel, by decide +kernel⟩, by decide⟩
theorem np_J6_bitCount_0f7a4 : (parseMethodDescriptor Y_J6_bitCount_0f7a4.1.desc).map (fun d => d.parameters.length) = some 1 := by decide +kernel
def Y_X4_variationSize : zY := (yX4_variationSize, cX4_variationSize, 5, (some .int), 1)
theorem okY_X4_variationSize : zYok Y_X4_variationSize := ⟨by decide +kernel, zU_in (by decide +kernel) (by decide +kernel), zU_in (by decide +kernel) (by decide +kernel), ⟨by decide +kernel, by decide +kernel⟩, by decide⟩
theorem np_X4_variationSize : (parseMethodDescriptor Y_X4_variationSize.1.desc).map (fun d => d.parameters.length) = some 3 := by decide +kernel
def Y_X5_append : zY := (yX5_append, cX5_append, 4, (some .int), 2)
theorem okY_X5_append : zYok Y_X5_append := ⟨by decide +kernel, zU_in (by decide +kernel) (by decide +kernel), zU_in (by decide +kernel) (by decide +kernel), ⟨by decide +kernel, by decide +kernel⟩, by decide⟩
theorem np_X5_append : (parseMethodDescriptor Y_X5_append.1.desc).map (fun d => d.parameters.length) = some 3 := by decide +kernel
def Y_X8_sheet : zY := (yX8_sheet, cX8_sheet, 4, (some .int), 3)
theorem okY_X8_sheet : zYok Y_X8_sheet := ⟨by decide +kernel, zU_in (by decide +kernel) (by decide +kernel), zU_in (by decide +kernel) (by decide +kernel), ⟨by decide +kernel, by decide +kernel⟩, by decide⟩
theorem np_X8_sheet : (parseMethodDescriptor Y_X8_sheet.1.desc).map (fun d => d.parameters.length) = some 3 := by decide +kernel
def Y_X8_isSheet : zY := (yX8_isSheet, cX8_isSheet, 2, (some .boolean), 1)
theorem okY_X8_isSheet : zYok Y_X8_isSheet := ⟨by decide +kernel, zU_in (by decide +kernel) (by decide +kernel), zU_in (by decide +kernel) (by decide +kernel), ⟨by decide +kernel, by decide +kernel⟩, by decide⟩
theorem np_X8_isSheet : (parseMethodDescriptor Y_X8_isSheet.1.desc).map (fun d => d.parameters.length) = some 1 := by decide +kernel
def Y_X8_isCell : zY := (yX8_isCell, cX8_isCell, 3, (some .boolean), 2)
theorem okY_X8_isCell : zYok Y_X8_isCell := ⟨by decide +kernel, zU_in (by decide +kernel) (by decide +kernel), zU_in (by decide +kernel) (by decide +kernel), ⟨by decide +kernel, by decide +kernel⟩, by decide⟩
theorem np_X8_isCell : (parseMethodDescriptor Y_X8_isCell.1.desc).map (fun d => d.parameters.length) = some 2 := by decide +kernel
def Y_X8_tell : zY := (yX8_tell, cX8_tell, 4, (some .int), 3)
theorem okY_X8_tell : zYok Y_X8_tell := ⟨by decide +kernel, zU_in (by decide +kernel) (by decide +kernel), zU_in (by decide +kernel) (by decide +kernel), ⟨by decide +kernel, by decide +kernel⟩, by decide⟩
theorem np_X8_tell : (parseMethodDescriptor Y_X8_tell.1.desc).map (fun d => d.parameters.length) = some 3 := by decide +kernel
def Y_X8_cells : zY := (yX8_cells, cX8_cells, 2, (some .int), 2)
theorem okY_X8_cells : zYok Y_X8_cells := ⟨by decide +kernel, zU_in (by decide +kernel) (by decide +kernel), zU_in (by decide +kernel) (by decide +kernel), ⟨by decide +kernel, by decide +kernel⟩, by decide⟩
theorem np_X8_cells : (parseMethodDescriptor Y_X8_cells.1.desc).map (fun d => d.parameters.length) = some 1 := by decide +kernel
def Y_X8_clear : zY := (yX8_clear, cX8_clear, 2, (some .int), 0)
theorem okY_X8_clear : zYok Y_X8_clear := ⟨by decide +kernel, zU_in (by decide +kernel) (by decide +kernel), zU_in (by decide +kernel) (by decide +kernel), ⟨by decide +kernel, by decide +kernel⟩, by decide⟩
theorem np_X8_clear : (parseMethodDescriptor Y_X8_clear.1.desc).map (fun d => d.parameters.length) = some 0 := by decide +kernel
def Y_X5_vote : zY := (yX5_vote, cX5_vote, 3, none, 0)
theorem okY_X5_vote : zYok Y_X5_vote := ⟨by decide +kernel, zU_in (by decide +kernel) (by decide +kernel), zU_in (by decide +kernel) (by decide +kernel), ⟨by decide +kernel, by decide +kernel⟩, by decide⟩
theorem np_X5_vote : (parseMethodDescriptor Y_X5_vote.1.desc).map (fun d => d.parameters.length) = some 2 := by decide +kernel
def Y_X5_poll : zY := (yX5_poll, cX5_poll, 3, none, 2)
theorem okY_X5_poll : zYok Y_X5_poll := ⟨by decide +kernel, zU_in (by decide +kernel) (by decide +kernel), zU_in (by decide +kernel) (by decide +kernel), ⟨by decide +kernel, by decide +kernel⟩, by decide⟩
theorem np_X5_poll : (parseMethodDescriptor Y_X5_poll.1.desc).map (fun d => d.parameters.length) = some 0 := by decide +kernel
def Y_X5_blamelessNotes : zY := (yX5_blamelessNotes, cX5_blamelessNotes, 4, (some .int), 0)
theorem okY_X5_blamelessNotes : zYok Y_X5_blamelessNotes := ⟨by decide +kernel, zU_in (by decide +kernel) (by decide +kernel), zU_in (by decide +kernel) (by decide +kernel), ⟨by decide +kernel, by decide +kernel⟩, by decide⟩
theorem np_X5_blamelessNotes : (parseMethodDescriptor Y_X5_blamelessNotes.1.desc).map (fun d => d.parameters.length) = some 1 := by decide +kernel
def Y_X5_agreeingGrounds : zY := (yX5_agreeingGrounds, cX5_agreeingGrounds, 3, (some .int), 3)
theorem okY_X5_agreeingGrounds : zYok Y_X5_agreeingGrounds := ⟨by decide +kernel, zU_in (by decide +kernel) (by decide +kernel), zU_in (by decide +kernel) (by decide +kernel), ⟨by decide +kernel, by decide +kernel⟩, by decide⟩
theorem np_X5_agreeingGrounds : (parseMethodDescriptor Y_X5_agreeingGrounds.1.desc).map (fun d => d.parameters.length) = some 0 := by decide +kernel
def Y_X8_agreeing : zY := (yX8_agreeing, cX8_agreeing, 1, (some .int), 4)
theorem okY_X8_agreeing : zYok Y_X8_agreeing := ⟨by decide +kernel, zU_in (by decide +kernel) (by decide +kernel), zU_in (by decide +kernel) (by decide +kernel), ⟨by decide +kernel, by decide +kernel⟩, by decide⟩
theorem np_X8_agreeing : (parseMethodDescriptor Y_X8_agreeing.1.desc).map (fun d => d.parameters.length) = some 0 := by decide +kernel
def Y_X5_mostVoted : zY := (yX5_mostVoted, cX5_mostVoted, 3, (some .int), 0)
theorem okY_X5_mostVoted : zYok Y_X5_mostVoted := ⟨by decide +kernel, zU_in (by decide +kernel) (by decide +kernel), zU_in (by decide +kernel) (by decide +kernel), ⟨by decide +kernel, by decide +kernel⟩, by decide⟩
theorem np_X5_mostVoted : (parseMethodDescriptor Y_X5_mostVoted.1.desc).map (fun d => d.parameters.length) = some 1 := by decide +kernel
def Y_X5_chooseGround : zY := (yX5_chooseGround, cX5_chooseGround, 2, none, 3)
theorem okY_X5_chooseGround : zYok Y_X5_chooseGround := ⟨by decide +kernel, zU_in (by decide +kernel) (by decide +kernel), zU_in (by decide +kernel) (by decide +kernel), ⟨by decide +kernel, by decide +kernel⟩, by decide⟩
theorem np_X5_chooseGround : (parseMethodDescriptor Y_X5_chooseGround.1.desc).map (fun d => d.parameters.length) = some 0 := by decide +kernel
def Y_X8_least : zY := (yX8_least, cX8_least, 2, (some .int), 4)
theorem okY_X8_least : zYok Y_X8_least := ⟨by decide +kernel, zU_in (by decide +kernel) (by decide +kernel), zU_in (by decide +kernel) (by decide +kernel), ⟨by decide +kernel, by decide +kernel⟩, by decide⟩
theorem np_X8_least : (parseMethodDescriptor Y_X8_least.1.desc).map (fun d => d.parameters.length) = some 1 := by decide +kernel
def Y_X5_isWrong : zY := (yX5_isWrong, cX5_isWrong, 5, (some .boolean), 2)
theorem okY_X5_isWrong : zYok Y_X5_isWrong := ⟨by decide +kernel, zU_in (by decide +kernel) (by decide +kernel), zU_in (by decide +kernel) (by decide +kernel), ⟨by decide +kernel, by decide +kernel⟩, by decide⟩
theorem np_X5_isWrong : (parseMethodDescriptor Y_X5_isWrong.1.desc).map (fun d => d.parameters.length) = some 2 := by decide +kernel
def Y_X5_wrongCells : zY := (yX5_wrongCells, cX5_wrongCells, 4, (some .int), 3)
theorem okY_X5_wrongCells : zYok Y_X5_wrongCells := ⟨by decide +kernel, zU_in (by decide +kernel) (by decide +kernel), zU_in (by decide +kernel) (by decide +kernel), ⟨by decide +kernel, by decide +kernel⟩, by decide⟩
theorem np_X5_wrongCells : (parseMethodDescriptor Y_X5_wrongCells.1.desc).map (fun d => d.parameters.length) = some 1 := by decide +kernel
def Y_X8_blamed : zY := (yX8_blamed, cX8_blamed, 3, (some .int), 4)
theorem okY_X8_blamed : zYok Y_X8_blamed := ⟨by decide +kernel, zU_in (by decide +kernel) (by decide +kernel), zU_in (by decide +kernel) (by decide +kernel), ⟨by decide +kernel, by decide +kernel⟩, by decide⟩
theorem np_X8_blamed : (parseMethodDescriptor Y_X8_blamed.1.desc).map (fun d => d.parameters.length) = some 2 := by decide +kernel
def Y_X8_isPiper : zY := (yX8_isPiper, cX8_isPiper, 1, (some .boolean), 1)
theorem okY_X8_isPiper : zYok Y_X8_isPiper := ⟨by decide +kernel, zU_in (by decide +kernel) (by decide +kernel), zU_in (by decide +kernel) (by decide +kernel), ⟨by decide +kernel, by decide +kernel⟩, by decide⟩
theorem np_X8_isPiper : (parseMethodDescriptor Y_X8_isPiper.1.desc).map (fun d => d.parameters.length) = some 1 := by decide +kernel
def Y_X3_become : zY := (yX3_become, cX3_become, 6, none, 0)
theorem okY_X3_become : zYok Y_X3_become := ⟨by decide +kernel, zU_in (by decide +kernel) (by decide +kernel), zU_in (by decide +kernel) (by decide +kernel), ⟨by decide +kernel, by decide +kernel⟩, by decide⟩
theorem np_X3_become : (parseMethodDescriptor Y_X3_become.1.desc).map (fun d => d.parameters.length) = some 5 := by decide +kernel
def Y_X8_piper : zY := (yX8_piper, cX8_piper, 6, (some .int), 2)
theorem okY_X8_piper : zYok Y_X8_piper := ⟨by decide +kernel, zU_in (by decide +kernel) (by decide +kernel), zU_in (by decide +kernel) (by decide +kernel), ⟨by decide +kernel, by decide +kernel⟩, by decide⟩
theorem np_X8_piper : (parseMethodDescriptor Y_X8_piper.1.desc).map (fun d => d.parameters.length) = some 5 := by decide +kernel
def Y_X8_damp : zY := (yX8_damp, cX8_damp, 3, (some .int), 1)
theorem okY_X8_damp : zYok Y_X8_damp := ⟨by decide +kernel, zU_in (by decide +kernel) (by decide +kernel), zU_in (by decide +kernel) (by decide +kernel), ⟨by decide +kernel, by decide +kernel⟩, by decide⟩
theorem np_X8_damp : (parseMethodDescriptor Y_X8_damp.1.desc).map (fun d => d.parameters.length) = some 1 := by decide +kernel
def Y_X8_isMinute : zY := (yX8_isMinute, cX8_isMinute, 1, (some .boolean), 1)
theorem okY_X8_isMinute : zYok Y_X8_isMinute := ⟨by decide +kernel, zU_in (by decide +kernel) (by decide +kernel), zU_in (by decide +kernel) (by decide +kernel), ⟨by decide +kernel, by decide +kernel⟩, by decide⟩
theorem np_X8_isMinute : (parseMethodDescriptor Y_X8_isMinute.1.desc).map (fun d => d.parameters.length) = some 1 := by decide +kernel
def Y_X3_dampRise : zY := (yX3_dampRise, cX3_dampRise, 2, (some .int), 1)
theorem okY_X3_dampRise : zYok Y_X3_dampRise := ⟨by decide +kernel, zU_in (by decide +kernel) (by decide +kernel), zU_in (by decide +kernel) (by decide +kernel), ⟨by decide +kernel, by decide +kernel⟩, by decide⟩
theorem np_X3_dampRise : (parseMethodDescriptor Y_X3_dampRise.1.desc).map (fun d => d.parameters.length) = some 1 := by decide +kernel
def Y_X3_pitchAfter : zY := (yX3_pitchAfter, cX3_pitchAfter, 3, (some .int), 2)
theorem okY_X3_pitchAfter : zYok Y_X3_pitchAfter := ⟨by decide +kernel, zU_in (by decide +kernel) (by decide +kernel), zU_in (by decide +kernel) (by decide +kernel), ⟨by decide +kernel, by decide +kernel⟩, by decide⟩
theorem np_X3_pitchAfter : (parseMethodDescriptor Y_X3_pitchAfter.1.desc).map (fun d => d.parameters.length) = some 2 := by decide +kernel
def Y_X8_pitch : zY := (yX8_pitch, cX8_pitch, 4, (some .int), 3)
theorem okY_X8_pitch : zYok Y_X8_pitch := ⟨by decide +kernel, zU_in (by decide +kernel) (by decide +kernel), zU_in (by decide +kernel) (by decide +kernel), ⟨by decide +kernel, by decide +kernel⟩, by decide⟩
theorem np_X8_pitch : (parseMethodDescriptor Y_X8_pitch.1.desc).map (fun d => d.parameters.length) = some 3 := by decide +kernel
def Y_X8_isBand : zY := (yX8_isBand, cX8_isBand, 1, (some .boolean), 1)
theorem okY_X8_isBand : zYok Y_X8_isBand := ⟨by decide +kernel, zU_in (by decide +kernel) (by decide +kernel), zU_in (by decide +kernel) (by decide +kernel), ⟨by decide +kernel, by decide +kernel⟩, by decide⟩
theorem np_X8_isBand : (parseMethodDescriptor Y_X8_isBand.1.desc).map (fun d => d.parameters.length) = some 1 := by decide +kernel
def Y_X3_allCome : zY := (yX3_allCome, cX3_allCome, 4, (some .boolean), 1)
theorem okY_X3_allCome : zYok Y_X3_allCome := ⟨by decide +kernel, zU_in (by decide +kernel) (by decide +kernel), zU_in (by decide +kernel) (by decide +kernel), ⟨by decide +kernel, by decide +kernel⟩, by decide⟩
theorem np_X3_allCome : (parseMethodDescriptor Y_X3_allCome.1.desc).map (fun d => d.parameters.length) = some 2 := by decide +kernel
def Y_X3_longestBlown : zY := (yX3_longestBlown, cX3_longestBlown, 3, (some .int), 1)
theorem okY_X3_longestBlown : zYok Y_X3_longestBlown := ⟨by decide +kernel, zU_in (by decide +kernel) (by decide +kernel), zU_in (by decide +kernel) (by decide +kernel), ⟨by decide +kernel, by decide +kernel⟩, by decide⟩
theorem np_X3_longestBlown : (parseMethodDescriptor Y_X3_longestBlown.1.desc).map (fun d => d.parameters.length) = some 2 := by decide +kernel
def Y_X3_minutesToReach : zY := (yX3_minutesToReach, cX3_minutesToReach, 6, (some .int), 2)
theorem okY_X3_minutesToReach : zYok Y_X3_minutesToReach := ⟨by decide +kernel, zU_in (by decide +kernel) (by decide +kernel), zU_in (by decide +kernel) (by decide +kernel), ⟨by decide +kernel, by decide +kernel⟩, by decide⟩
theorem np_X3_minutesToReach : (parseMethodDescriptor Y_X3_minutesToReach.1.desc).map (fun d => d.parameters.length) = some 3 := by decide +kernel
def Y_X3_tryLow : zY := (yX3_tryLow, cX3_tryLow, 7, none, 3)
theorem okY_X3_tryLow : zYok Y_X3_tryLow := ⟨by decide +kernel, zU_in (by decide +kernel) (by decide +kernel), zU_in (by decide +kernel) (by decide +kernel), ⟨by decide +kernel, by decide +kernel⟩, by decide⟩
theorem np_X3_tryLow : (parseMethodDescriptor Y_X3_tryLow.1.desc).map (fun d => d.parameters.length) = some 3 := by decide +kernel
def Y_X3_tuneBand : zY := (yX3_tuneBand, cX3_tuneBand, 6, none, 4)
theorem okY_X3_tuneBand : zYok Y_X3_tuneBand := ⟨by decide +kernel, zU_in (by decide +kernel) (by decide +kernel), zU_in (by decide +kernel) (by decide +kernel), ⟨by decide +kernel, by decide +kernel⟩, by decide⟩
theorem np_X3_tuneBand : (parseMethodDescriptor Y_X3_tuneBand.1.desc).map (fun d => d.parameters.length) = some 2 := by decide +kernel
def Y_X8_band : zY := (yX8_band, cX8_band, 4, (some .int), 5)
theorem okY_X8_band : zYok Y_X8_band := ⟨by decide +kernel, zU_in (by decide +kernel) (by decide +kernel), zU_in (by decide +kernel) (by decide +kernel), ⟨by decide +kernel, by decide +kernel⟩, by decide⟩
theorem np_X8_band : (parseMethodDescriptor Y_X8_band.1.desc).map (fun d => d.parameters.length) = some 3 := by decide +kernel
def Y_X8_begins : zY := (yX8_begins, cX8_begins, 4, (some .int), 5)
theorem okY_X8_begins : zYok Y_X8_begins := ⟨by decide +kernel, zU_in (by decide +kernel) (by decide +kernel), zU_in (by decide +kernel) (by decide +kernel), ⟨by decide +kernel, by decide +kernel⟩, by decide⟩
theorem np_X8_begins : (parseMethodDescriptor Y_X8_begins.1.desc).map (fun d => d.parameters.length) = some 3 := by decide +kernel
def Y_X8_tone : zY := (yX8_tone, cX8_tone, 3, (some .int), 2)
theorem okY_X8_tone : zYok Y_X8_tone := ⟨by decide +kernel, zU_in (by decide +kernel) (by decide +kernel), zU_in (by decide +kernel) (by decide +kernel), ⟨by decide +kernel, by decide +kernel⟩, by decide⟩
theorem np_X8_tone : (parseMethodDescriptor Y_X8_tone.1.desc).map (fun d => d.parameters.length) = some 2 := by decide +kernel
def Y_X8_isPitch : zY := (yX8_isPitch, cX8_isPitch, 1, (some .boolean), 1)
theorem okY_X8_isPitch : zYok Y_X8_isPitch := ⟨by decide +kernel, zU_in (by decide +kernel) (by decide +kernel), zU_in (by decide +kernel) (by decide +kernel), ⟨by decide +kernel, by decide +kernel⟩, by decide⟩
theorem np_X8_isPitch : (parseMethodDescriptor Y_X8_isPitch.1.desc).map (fun d => d.parameters.length) = some 1 := by decide +kernel
def Y_X0_harshness : zY := (yX0_harshness, cX0_harshness, 5, (some .int), 1)
theorem okY_X0_harshness : zYok Y_X0_harshness := ⟨by decide +kernel, zU_in (by decide +kernel) (by decide +kernel), zU_in (by decide +kernel) (by decide +kernel), ⟨by decide +kernel, by decide +kernel⟩, by decide⟩
theorem np_X0_harshness : (parseMethodDescriptor Y_X0_harshness.1.desc).map (fun d => d.parameters.length) = some 2 := by decide +kernel
def Y_X8_harsh : zY := (yX8_harsh, cX8_harsh, 3, (some .int), 2)
theorem okY_X8_harsh : zYok Y_X8_harsh := ⟨by decide +kernel, zU_in (by decide +kernel) (by decide +kernel), zU_in (by decide +kernel) (by decide +kernel), ⟨by decide +kernel, by decide +kernel⟩, by decide⟩
theorem np_X8_harsh : (parseMethodDescriptor Y_X8_harsh.1.desc).map (fun d => d.parameters.length) = some 2 := by decide +kernel
def Y_X0_middleTone : zY := (yX0_middleTone, cX0_middleTone, 5, (some .int), 0)
theorem okY_X0_middleTone : zYok Y_X0_middleTone := ⟨by decide +kernel, zU_in (by decide +kernel) (by decide +kernel), zU_in (by decide +kernel) (by decide +kernel), ⟨by decide +kernel, by decide +kernel⟩, by decide⟩
theorem np_X0_middleTone : (parseMethodDescriptor Y_X0_middleTone.1.desc).map (fun d => d.parameters.length) = some 0 := by decide +kernel
def Y_X0_mildest : zY := (yX0_mildest, cX0_mildest, 2, (some .int), 1)
theorem okY_X0_mildest : zYok Y_X0_mildest := ⟨by decide +kernel, zU_in (by decide +kernel) (by decide +kernel), zU_in (by decide +kernel) (by decide +kernel), ⟨by decide +kernel, by decide +kernel⟩, by decide⟩
theorem np_X0_mildest : (parseMethodDescriptor Y_X0_mildest.1.desc).map (fun d => d.parameters.length) = some 1 := by decide +kernel
def Y_X8_set : zY := (yX8_set, cX8_set, 2, (some .int), 2)
theorem okY_X8_set : zYok Y_X8_set := ⟨by decide +kernel, zU_in (by decide +kernel) (by decide +kernel), zU_in (by decide +kernel) (by decide +kernel), ⟨by decide +kernel, by decide +kernel⟩, by decide⟩
theorem np_X8_set : (parseMethodDescriptor Y_X8_set.1.desc).map (fun d => d.parameters.length) = some 1 := by decide +kernel
def Y_X7_lostOnes : zY := (yX7_lostOnes, cX7_lostOnes, 3, (some .int), 0)
theorem okY_X7_lostOnes : zYok Y_X7_lostOnes := ⟨by decide +kernel, zU_in (by decide +kernel) (by decide +kernel), zU_in (by decide +kernel) (by decide +kernel), ⟨by decide +kernel, by decide +kernel⟩, by decide⟩
theorem np_X7_lostOnes : (parseMethodDescriptor Y_X7_lostOnes.1.desc).map (fun d => d.parameters.length) = some 0 := by decide +kernel
def Y_X8_count : zY := (yX8_count, cX8_count, 2, (some .int), 1)
theorem okY_X8_count : zYok Y_X8_count := ⟨by decide +kernel, zU_in (by decide +kernel) (by decide +kernel), zU_in (by decide +kernel) (by decide +kernel), ⟨by decide +kernel, by decide +kernel⟩, by decide⟩
theorem np_X8_count : (parseMethodDescriptor Y_X8_count.1.desc).map (fun d => d.parameters.length) = some 1 := by decide +kernel
def Y_X9_in : zY := (yX9_in, cX9_in, 3, (some .boolean), 0)
theorem okY_X9_in : zYok Y_X9_in := ⟨by decide +kernel, zU_in (by decide +kernel) (by decide +kernel), zU_in (by decide +kernel) (by decide +kernel), ⟨by decide +kernel, by decide +kernel⟩, by decide⟩
theorem np_X9_in : (parseMethodDescriptor Y_X9_in.1.desc).map (fun d => d.parameters.length) = some 3 := by decide +kernel
def Y_X9_isNote : zY := (yX9_isNote, cX9_isNote, 1, (some .boolean), 1)
theorem okY_X9_isNote : zYok Y_X9_isNote := ⟨by decide +kernel, zU_in (by decide +kernel) (by decide +kernel), zU_in (by decide +kernel) (by decide +kernel), ⟨by decide +kernel, by decide +kernel⟩, by decide⟩
theorem np_X9_isNote : (parseMethodDescriptor Y_X9_isNote.1.desc).map (fun d => d.parameters.length) = some 1 := by decide +kernel
def Y_X9_isMovement : zY := (yX9_isMovement, cX9_isMovement, 1, (some .boolean), 1)
theorem okY_X9_isMovement : zYok Y_X9_isMovement := ⟨by decide +kernel, zU_in (by decide +kernel) (by decide +kernel), zU_in (by decide +kernel) (by decide +kernel), ⟨by decide +kernel, by decide +kernel⟩, by decide⟩
theorem np_X9_isMovement : (parseMethodDescriptor Y_X9_isMovement.1.desc).map (fun d => d.parameters.length) = some 1 := by decide +kernel
def Y_X9_isRegion : zY := (yX9_isRegion, cX9_isRegion, 1, (some .boolean), 1)
theorem okY_X9_isRegion : zYok Y_X9_isRegion := ⟨by decide +kernel, zU_in (by decide +kernel) (by decide +kernel), zU_in (by decide +kernel) (by decide +kernel), ⟨by decide +kernel, by decide +kernel⟩, by decide⟩
theorem np_X9_isRegion : (parseMethodDescriptor Y_X9_isRegion.1.desc).map (fun d => d.parameters.length) = some 1 := by decide +kernel
def Y_X9_isRule : zY := (yX9_isRule, cX9_isRule, 1, (some .boolean), 1)
theorem okY_X9_isRule : zYok Y_X9_isRule := ⟨by decide +kernel, zU_in (by decide +kernel) (by decide +kernel), zU_in (by decide +kernel) (by decide +kernel), ⟨by decide +kernel, by decide +kernel⟩, by decide⟩
theorem np_X9_isRule : (parseMethodDescriptor Y_X9_isRule.1.desc).map (fun d => d.parameters.length) = some 1 := by decide +kernel
def Y_X9_isPiper : zY := (yX9_isPiper, cX9_isPiper, 1, (some .boolean), 1)
theorem okY_X9_isPiper : zYok Y_X9_isPiper := ⟨by decide +kernel, zU_in (by decide +kernel) (by decide +kernel), zU_in (by decide +kernel) (by decide +kernel), ⟨by decide +kernel, by decide +kernel⟩, by decide⟩
theorem np_X9_isPiper : (parseMethodDescriptor Y_X9_isPiper.1.desc).map (fun d => d.parameters.length) = some 1 := by decide +kernel
def Y_X9_plus : zY := (yX9_plus, cX9_plus, 2, (some .int), 0)
theorem okY_X9_plus : zYok Y_X9_plus := ⟨by decide +kernel, zU_in (by decide +kernel) (by decide +kernel), zU_in (by decide +kernel) (by decide +kernel), ⟨by decide +kernel, by decide +kernel⟩, by decide⟩
theorem np_X9_plus : (parseMethodDescriptor Y_X9_plus.1.desc).map (fun d => d.parameters.length) = some 2 := by decide +kernel
def Y_X9_movement : zY := (yX9_movement, cX9_movement, 5, (some .int), 2)
theorem okY_X9_movement : zYok Y_X9_movement := ⟨by decide +kernel, zU_in (by decide +kernel) (by decide +kernel), zU_in (by decide +kernel) (by decide +kernel), ⟨by decide +kernel, by decide +kernel⟩, by decide⟩
theorem np_X9_movement : (parseMethodDescriptor Y_X9_movement.1.desc).map (fun d => d.parameters.length) = some 3 := by decide +kernel
def Y_X9_may : zY := (yX9_may, cX9_may, 5, (some .int), 2)
theorem okY_X9_may : zYok Y_X9_may := ⟨by decide +kernel, zU_in (by decide +kernel) (by decide +kernel), zU_in (by decide +kernel) (by decide +kernel), ⟨by decide +kernel, by decide +kernel⟩, by decide⟩
theorem np_X9_may : (parseMethodDescriptor Y_X9_may.1.desc).map (fun d => d.parameters.length) = some 3 := by decide +kernel
def Y_X9_beat : zY := (yX9_beat, cX9_beat, 3, (some .int), 1)
theorem okY_X9_beat : zYok Y_X9_beat := ⟨by decide +kernel, zU_in (by decide +kernel) (by decide +kernel), zU_in (by decide +kernel) (by decide +kernel), ⟨by decide +kernel, by decide +kernel⟩, by decide⟩
theorem np_X9_beat : (parseMethodDescriptor Y_X9_beat.1.desc).map (fun d => d.parameters.length) = some 1 := by decide +kernel
def Y_X9_fitsSo : zY := (yX9_fitsSo, cX9_fitsSo, 6, (some .boolean), 0)
theorem okY_X9_fitsSo : zYok Y_X9_fitsSo := ⟨by decide +kernel, zU_in (by decide +kernel) (by decide +kernel), zU_in (by decide +kernel) (by decide +kernel), ⟨by decide +kernel, by decide +kernel⟩, by decide⟩
theorem np_X9_fitsSo : (parseMethodDescriptor Y_X9_fitsSo.1.desc).map (fun d => d.parameters.length) = some 3 := by decide +kernel
def Y_X9_fits : zY := (yX9_fits, cX9_fits, 4, (some .int), 2)
theorem okY_X9_fits : zYok Y_X9_fits := ⟨by decide +kernel, zU_in (by decide +kernel) (by decide +kernel), zU_in (by decide +kernel) (by decide +kernel), ⟨by decide +kernel, by decide +kernel⟩, by decide⟩
theorem np_X9_fits : (parseMethodDescriptor Y_X9_fits.1.desc).map (fun d => d.parameters.length) = some 3 := by decide +kernel
def Y_X9_step : zY := (yX9_step, cX9_step, 4, (some .int), 2)
theorem okY_X9_step : zYok Y_X9_step := ⟨by decide +kernel, zU_in (by decide +kernel) (by decide +kernel), zU_in (by decide +kernel) (by decide +kernel), ⟨by decide +kernel, by decide +kernel⟩, by decide⟩
theorem np_X9_step : (parseMethodDescriptor Y_X9_step.1.desc).map (fun d => d.parameters.length) = some 3 := by decide +kernel
def Y_X9_put : zY := (yX9_put, cX9_put, 4, (some .int), 1)
theorem okY_X9_put : zYok Y_X9_put := ⟨by decide +kernel, zU_in (by decide +kernel) (by decide +kernel), zU_in (by decide +kernel) (by decide +kernel), ⟨by decide +kernel, by decide +kernel⟩, by decide⟩
theorem np_X9_put : (parseMethodDescriptor Y_X9_put.1.desc).map (fun d => d.parameters.length) = some 2 := by decide +kernel
def Y_X9_back : zY := (yX9_back, cX9_back, 1, (some .int), 0)
theorem okY_X9_back : zYok Y_X9_back := ⟨by decide +kernel, zU_in (by decide +kernel) (by decide +kernel), zU_in (by decide +kernel) (by decide +kernel), ⟨by decide +kernel, by decide +kernel⟩, by decide⟩
theorem np_X9_back : (parseMethodDescriptor Y_X9_back.1.desc).map (fun d => d.parameters.length) = some 0 := by decide +kernel
def Y_X9_holds : zY := (yX9_holds, cX9_holds, 3, (some .boolean), 1)
theorem okY_X9_holds : zYok Y_X9_holds := ⟨by decide +kernel, zU_in (by decide +kernel) (by decide +kernel), zU_in (by decide +kernel) (by decide +kernel), ⟨by decide +kernel, by decide +kernel⟩, by decide⟩
theorem np_X9_holds : (parseMethodDescriptor Y_X9_holds.1.desc).map (fun d => d.parameters.length) = some 2 := by decide +kernel
def Y_X9_wrong : zY := (yX9_wrong, cX9_wrong, 2, (some .int), 2)
theorem okY_X9_wrong : zYok Y_X9_wrong := ⟨by decide +kernel, zU_in (by decide +kernel) (by decide +kernel), zU_in (by decide +kernel) (by decide +kernel), ⟨by decide +kernel, by decide +kernel⟩, by decide⟩
theorem np_X9_wrong : (parseMethodDescriptor Y_X9_wrong.1.desc).map (fun d => d.parameters.length) = some 0 := by decide +kernel
def Y_X9_fillings : zY := (yX9_fillings, cX9_fillings, 6, (some .int), 3)
theorem okY_X9_fillings : zYok Y_X9_fillings := ⟨by decide +kernel, zU_in (by decide +kernel) (by decide +kernel), zU_in (by decide +kernel) (by decide +kernel), ⟨by decide +kernel, by decide +kernel⟩, by decide⟩
theorem np_X9_fillings : (parseMethodDescriptor Y_X9_fillings.1.desc).map (fun d => d.parameters.length) = some 0 := by decide +kernel
def Y_X9_quickestOf : zY := (yX9_quickestOf, cX9_quickestOf, 4, (some .int), 2)
theorem okY_X9_quickestOf : zYok Y_X9_quickestOf := ⟨by decide +kernel, zU_in (by decide +kernel) (by decide +kernel), zU_in (by decide +kernel) (by decide +kernel), ⟨by decide +kernel, by decide +kernel⟩, by decide⟩
theorem np_X9_quickestOf : (parseMethodDescriptor Y_X9_quickestOf.1.desc).map (fun d => d.parameters.length) = some 1 := by decide +kernel
def Y_X9_quickest : zY := (yX9_quickest, cX9_quickest, 2, (some .int), 4)
theorem okY_X9_quickest : zYok Y_X9_quickest := ⟨by decide +kernel, zU_in (by decide +kernel) (by decide +kernel), zU_in (by decide +kernel) (by decide +kernel), ⟨by decide +kernel, by decide +kernel⟩, by decide⟩
theorem np_X9_quickest : (parseMethodDescriptor Y_X9_quickest.1.desc).map (fun d => d.parameters.length) = some 1 := by decide +kernel
def Y_X9_graces : zY := (yX9_graces, cX9_graces, 3, (some .int), 4)
theorem okY_X9_graces : zYok Y_X9_graces := ⟨by decide +kernel, zU_in (by decide +kernel) (by decide +kernel), zU_in (by decide +kernel) (by decide +kernel), ⟨by decide +kernel, by decide +kernel⟩, by decide⟩
theorem np_X9_graces : (parseMethodDescriptor Y_X9_graces.1.desc).map (fun d => d.parameters.length) = some 0 := by decide +kernel
def Y_X9_region : zY := (yX9_region, cX9_region, 6, (some .int), 2)
theorem okY_X9_region : zYok Y_X9_region := ⟨by decide +kernel, zU_in (by decide +kernel) (by decide +kernel), zU_in (by decide +kernel) (by decide +kernel), ⟨by decide +kernel, by decide +kernel⟩, by decide⟩
theorem np_X9_region : (parseMethodDescriptor Y_X9_region.1.desc).map (fun d => d.parameters.length) = some 4 := by decide +kernel
def Y_X9_sung : zY := (yX9_sung, cX9_sung, 3, (some .int), 2)
theorem okY_X9_sung : zYok Y_X9_sung := ⟨by decide +kernel, zU_in (by decide +kernel) (by decide +kernel), zU_in (by decide +kernel) (by decide +kernel), ⟨by decide +kernel, by decide +kernel⟩, by decide⟩
theorem np_X9_sung : (parseMethodDescriptor Y_X9_sung.1.desc).map (fun d => d.parameters.length) = some 2 := by decide +kernel
def Y_X9_syllable : zY := (yX9_syllable, cX9_syllable, 2, (some .int), 1)
theorem okY_X9_syllable : zYok Y_X9_syllable := ⟨by decide +kernel, zU_in (by decide +kernel) (by decide +kernel), zU_in (by decide +kernel) (by decide +kernel), ⟨by decide +kernel, by decide +kernel⟩, by decide⟩
theorem np_X9_syllable : (parseMethodDescriptor Y_X9_syllable.1.desc).map (fun d => d.parameters.length) = some 1 := by decide +kernel
def Y_X9_hush : zY := (yX9_hush, cX9_hush, 2, (some .int), 0)
theorem okY_X9_hush : zYok Y_X9_hush := ⟨by decide +kernel, zU_in (by decide +kernel) (by decide +kernel), zU_in (by decide +kernel) (by decide +kernel), ⟨by decide +kernel, by decide +kernel⟩, by decide⟩
theorem np_X9_hush : (parseMethodDescriptor Y_X9_hush.1.desc).map (fun d => d.parameters.length) = some 0 := by decide +kernel
def Y_X9_isSung : zY := (yX9_isSung, cX9_isSung, 5, (some .boolean), 0)
theorem okY_X9_isSung : zYok Y_X9_isSung := ⟨by decide +kernel, zU_in (by decide +kernel) (by decide +kernel), zU_in (by decide +kernel) (by decide +kernel), ⟨by decide +kernel, by decide +kernel⟩, by decide⟩
theorem np_X9_isSung : (parseMethodDescriptor Y_X9_isSung.1.desc).map (fun d => d.parameters.length) = some 4 := by decide +kernel
def Y_X9_readBy : zY := (yX9_readBy, cX9_readBy, 7, (some .int), 1)
theorem okY_X9_readBy : zYok Y_X9_readBy := ⟨by decide +kernel, zU_in (by decide +kernel) (by decide +kernel), zU_in (by decide +kernel) (by decide +kernel), ⟨by decide +kernel, by decide +kernel⟩, by decide⟩
theorem np_X9_readBy : (parseMethodDescriptor Y_X9_readBy.1.desc).map (fun d => d.parameters.length) = some 1 := by decide +kernel
def Y_X9_read : zY := (yX9_read, cX9_read, 2, (some .int), 2)
theorem okY_X9_read : zYok Y_X9_read := ⟨by decide +kernel, zU_in (by decide +kernel) (by decide +kernel), zU_in (by decide +kernel) (by decide +kernel), ⟨by decide +kernel, by decide +kernel⟩, by decide⟩
theorem np_X9_read : (parseMethodDescriptor Y_X9_read.1.desc).map (fun d => d.parameters.length) = some 1 := by decide +kernel
def Y_X9_first : zY := (yX9_first, cX9_first, 9, (some .int), 2)
theorem okY_X9_first : zYok Y_X9_first := ⟨by decide +kernel, zU_in (by decide +kernel) (by decide +kernel), zU_in (by decide +kernel) (by decide +kernel), ⟨by decide +kernel, by decide +kernel⟩, by decide⟩
theorem np_X9_first : (parseMethodDescriptor Y_X9_first.1.desc).map (fun d => d.parameters.length) = some 2 := by decide +kernel
def Y_X9_home : zY := (yX9_home, cX9_home, 5, (some .int), 2)
theorem okY_X9_home : zYok Y_X9_home := ⟨by decide +kernel, zU_in (by decide +kernel) (by decide +kernel), zU_in (by decide +kernel) (by decide +kernel), ⟨by decide +kernel, by decide +kernel⟩, by decide⟩
theorem np_X9_home : (parseMethodDescriptor Y_X9_home.1.desc).map (fun d => d.parameters.length) = some 0 := by decide +kernel
def Y_X9_rule : zY := (yX9_rule, cX9_rule, 5, (some .int), 2)
theorem okY_X9_rule : zYok Y_X9_rule := ⟨by decide +kernel, zU_in (by decide +kernel) (by decide +kernel), zU_in (by decide +kernel) (by decide +kernel), ⟨by decide +kernel, by decide +kernel⟩, by decide⟩
theorem np_X9_rule : (parseMethodDescriptor Y_X9_rule.1.desc).map (fun d => d.parameters.length) = some 3 := by decide +kernel
def Y_X9_note : zY := (yX9_note, cX9_note, 2, (some .int), 2)
theorem okY_X9_note : zYok Y_X9_note := ⟨by decide +kernel, zU_in (by decide +kernel) (by decide +kernel), zU_in (by decide +kernel) (by decide +kernel), ⟨by decide +kernel, by decide +kernel⟩, by decide⟩
theorem np_X9_note : (parseMethodDescriptor Y_X9_note.1.desc).map (fun d => d.parameters.length) = some 1 := by decide +kernel
def Y_X9_silence : zY := (yX9_silence, cX9_silence, 2, (some .int), 0)
theorem okY_X9_silence : zYok Y_X9_silence := ⟨by decide +kernel, zU_in (by decide +kernel) (by decide +kernel), zU_in (by decide +kernel) (by decide +kernel), ⟨by decide +kernel, by decide +kernel⟩, by decide⟩
theorem np_X9_silence : (parseMethodDescriptor Y_X9_silence.1.desc).map (fun d => d.parameters.length) = some 0 := by decide +kernel
def Y_X9_cellsOf : zY := (yX9_cellsOf, cX9_cellsOf, 4, (some .int), 0)
theorem okY_X9_cellsOf : zYok Y_X9_cellsOf := ⟨by decide +kernel, zU_in (by decide +kernel) (by decide +kernel), zU_in (by decide +kernel) (by decide +kernel), ⟨by decide +kernel, by decide +kernel⟩, by decide⟩
theorem np_X9_cellsOf : (parseMethodDescriptor Y_X9_cellsOf.1.desc).map (fun d => d.parameters.length) = some 3 := by decide +kernel
def Y_X9_cellOf : zY := (yX9_cellOf, cX9_cellOf, 8, (some .int), 0)
theorem okY_X9_cellOf : zYok Y_X9_cellOf := ⟨by decide +kernel, zU_in (by decide +kernel) (by decide +kernel), zU_in (by decide +kernel) (by decide +kernel), ⟨by decide +kernel, by decide +kernel⟩, by decide⟩
theorem np_X9_cellOf : (parseMethodDescriptor Y_X9_cellOf.1.desc).map (fun d => d.parameters.length) = some 6 := by decide +kernel
def Y_X9_varied : zY := (yX9_varied, cX9_varied, 7, (some .int), 2)
theorem okY_X9_varied : zYok Y_X9_varied := ⟨by decide +kernel, zU_in (by decide +kernel) (by decide +kernel), zU_in (by decide +kernel) (by decide +kernel), ⟨by decide +kernel, by decide +kernel⟩, by decide⟩
theorem np_X9_varied : (parseMethodDescriptor Y_X9_varied.1.desc).map (fun d => d.parameters.length) = some 3 := by decide +kernel
def Y_X9_sheet : zY := (yX9_sheet, cX9_sheet, 5, (some .int), 2)
theorem okY_X9_sheet : zYok Y_X9_sheet := ⟨by decide +kernel, zU_in (by decide +kernel) (by decide +kernel), zU_in (by decide +kernel) (by decide +kernel), ⟨by decide +kernel, by decide +kernel⟩, by decide⟩
theorem np_X9_sheet : (parseMethodDescriptor Y_X9_sheet.1.desc).map (fun d => d.parameters.length) = some 3 := by decide +kernel
def Y_X9_isSheet : zY := (yX9_isSheet, cX9_isSheet, 2, (some .boolean), 1)
theorem okY_X9_isSheet : zYok Y_X9_isSheet := ⟨by decide +kernel, zU_in (by decide +kernel) (by decide +kernel), zU_in (by decide +kernel) (by decide +kernel), ⟨by decide +kernel, by decide +kernel⟩, by decide⟩
theorem np_X9_isSheet : (parseMethodDescriptor Y_X9_isSheet.1.desc).map (fun d => d.parameters.length) = some 1 := by decide +kernel
def Y_X9_sizeOf : zY := (yX9_sizeOf, cX9_sizeOf, 4, (some .int), 1)
theorem okY_X9_sizeOf : zYok Y_X9_sizeOf := ⟨by decide +kernel, zU_in (by decide +kernel) (by decide +kernel), zU_in (by decide +kernel) (by decide +kernel), ⟨by decide +kernel, by decide +kernel⟩, by decide⟩
theorem np_X9_sizeOf : (parseMethodDescriptor Y_X9_sizeOf.1.desc).map (fun d => d.parameters.length) = some 1 := by decide +kernel
def Y_X9_tell : zY := (yX9_tell, cX9_tell, 5, (some .int), 2)
theorem okY_X9_tell : zYok Y_X9_tell := ⟨by decide +kernel, zU_in (by decide +kernel) (by decide +kernel), zU_in (by decide +kernel) (by decide +kernel), ⟨by decide +kernel, by decide +kernel⟩, by decide⟩
theorem np_X9_tell : (parseMethodDescriptor Y_X9_tell.1.desc).map (fun d => d.parameters.length) = some 3 := by decide +kernel
def Y_X9_cells : zY := (yX9_cells, cX9_cells, 2, (some .int), 2)
theorem okY_X9_cells : zYok Y_X9_cells := ⟨by decide +kernel, zU_in (by decide +kernel) (by decide +kernel), zU_in (by decide +kernel) (by decide +kernel), ⟨by decide +kernel, by decide +kernel⟩, by decide⟩
theorem np_X9_cells : (parseMethodDescriptor Y_X9_cells.1.desc).map (fun d => d.parameters.length) = some 1 := by decide +kernel
def Y_X9_clear : zY := (yX9_clear, cX9_clear, 2, (some .int), 0)
theorem okY_X9_clear : zYok Y_X9_clear := ⟨by decide +kernel, zU_in (by decide +kernel) (by decide +kernel), zU_in (by decide +kernel) (by decide +kernel), ⟨by decide +kernel, by decide +kernel⟩, by decide⟩
theorem np_X9_clear : (parseMethodDescriptor Y_X9_clear.1.desc).map (fun d => d.parameters.length) = some 0 := by decide +kernel
def Y_X9_findOff : zY := (yX9_findOff, cX9_findOff, 7, none, 1)
theorem okY_X9_findOff : zYok Y_X9_findOff := ⟨by decide +kernel, zU_in (by decide +kernel) (by decide +kernel), zU_in (by decide +kernel) (by decide +kernel), ⟨by decide +kernel, by decide +kernel⟩, by decide⟩
theorem np_X9_findOff : (parseMethodDescriptor Y_X9_findOff.1.desc).map (fun d => d.parameters.length) = some 0 := by decide +kernel
def Y_X9_agreeing : zY := (yX9_agreeing, cX9_agreeing, 7, (some .int), 2)
theorem okY_X9_agreeing : zYok Y_X9_agreeing := ⟨by decide +kernel, zU_in (by decide +kernel) (by decide +kernel), zU_in (by decide +kernel) (by decide +kernel), ⟨by decide +kernel, by decide +kernel⟩, by decide⟩
theorem np_X9_agreeing : (parseMethodDescriptor Y_X9_agreeing.1.desc).map (fun d => d.parameters.length) = some 0 := by decide +kernel
def Y_X9_findTable : zY := (yX9_findTable, cX9_findTable, 7, (some .int), 0)
theorem okY_X9_findTable : zYok Y_X9_findTable := ⟨by decide +kernel, zU_in (by decide +kernel) (by decide +kernel), zU_in (by decide +kernel) (by decide +kernel), ⟨by decide +kernel, by decide +kernel⟩, by decide⟩
theorem np_X9_findTable : (parseMethodDescriptor Y_X9_findTable.1.desc).map (fun d => d.parameters.length) = some 1 := by decide +kernel
def Y_X9_findBest : zY := (yX9_findBest, cX9_findBest, 5, none, 2)
theorem okY_X9_findBest : zYok Y_X9_findBest := ⟨by decide +kernel, zU_in (by decide +kernel) (by decide +kernel), zU_in (by decide +kernel) (by decide +kernel), ⟨by decide +kernel, by decide +kernel⟩, by decide⟩
theorem np_X9_findBest : (parseMethodDescriptor Y_X9_findBest.1.desc).map (fun d => d.parameters.length) = some 0 := by decide +kernel
def Y_X9_least : zY := (yX9_least, cX9_least, 2, (some .int), 3)
theorem okY_X9_least : zYok Y_X9_least := ⟨by decide +kernel, zU_in (by decide +kernel) (by decide +kernel), zU_in (by decide +kernel) (by decide +kernel), ⟨by decide +kernel, by decide +kernel⟩, by decide⟩
theorem np_X9_least : (parseMethodDescriptor Y_X9_least.1.desc).map (fun d => d.parameters.length) = some 1 := by decide +kernel
def Y_X9_blamed : zY := (yX9_blamed, cX9_blamed, 9, (some .int), 3)
theorem okY_X9_blamed : zYok Y_X9_blamed := ⟨by decide +kernel, zU_in (by decide +kernel) (by decide +kernel), zU_in (by decide +kernel) (by decide +kernel), ⟨by decide +kernel, by decide +kernel⟩, by decide⟩
theorem np_X9_blamed : (parseMethodDescriptor Y_X9_blamed.1.desc).map (fun d => d.parameters.length) = some 2 := by decide +kernel
def Y_X9_piper : zY := (yX9_piper, cX9_piper, 6, (some .int), 2)
theorem okY_X9_piper : zYok Y_X9_piper := ⟨by decide +kernel, zU_in (by decide +kernel) (by decide +kernel), zU_in (by decide +kernel) (by decide +kernel), ⟨by decide +kernel, by decide +kernel⟩, by decide⟩
theorem np_X9_piper : (parseMethodDescriptor Y_X9_piper.1.desc).map (fun d => d.parameters.length) = some 5 := by decide +kernel
def Y_X9_damp : zY := (yX9_damp, cX9_damp, 3, (some .int), 1)
theorem okY_X9_damp : zYok Y_X9_damp := ⟨by decide +kernel, zU_in (by decide +kernel) (by decide +kernel), zU_in (by decide +kernel) (by decide +kernel), ⟨by decide +kernel, by decide +kernel⟩, by decide⟩
theorem np_X9_damp : (parseMethodDescriptor Y_X9_damp.1.desc).map (fun d => d.parameters.length) = some 1 := by decide +kernel
def Y_X9_pitchFor : zY := (yX9_pitchFor, cX9_pitchFor, 4, (some .int), 0)
theorem okY_X9_pitchFor : zYok Y_X9_pitchFor := ⟨by decide +kernel, zU_in (by decide +kernel) (by decide +kernel), zU_in (by decide +kernel) (by decide +kernel), ⟨by decide +kernel, by decide +kernel⟩, by decide⟩
theorem np_X9_pitchFor : (parseMethodDescriptor Y_X9_pitchFor.1.desc).map (fun d => d.parameters.length) = some 2 := by decide +kernel
def Y_X9_pitch : zY := (yX9_pitch, cX9_pitch, 4, (some .int), 2)
theorem okY_X9_pitch : zYok Y_X9_pitch := ⟨by decide +kernel, zU_in (by decide +kernel) (by decide +kernel), zU_in (by decide +kernel) (by decide +kernel), ⟨by decide +kernel, by decide +kernel⟩, by decide⟩
theorem np_X9_pitch : (parseMethodDescriptor Y_X9_pitch.1.desc).map (fun d => d.parameters.length) = some 3 := by decide +kernel
def Y_X9_longFor : zY := (yX9_longFor, cX9_longFor, 5, (some .int), 1)
theorem okY_X9_longFor : zYok Y_X9_longFor := ⟨by decide +kernel, zU_in (by decide +kernel) (by decide +kernel), zU_in (by decide +kernel) (by decide +kernel), ⟨by decide +kernel, by decide +kernel⟩, by decide⟩
theorem np_X9_longFor : (parseMethodDescriptor Y_X9_longFor.1.desc).map (fun d => d.parameters.length) = some 3 := by decide +kernel
def Y_X9_spreadFor : zY := (yX9_spreadFor, cX9_spreadFor, 7, (some .int), 2)
theorem okY_X9_spreadFor : zYok Y_X9_spreadFor := ⟨by decide +kernel, zU_in (by decide +kernel) (by decide +kernel), zU_in (by decide +kernel) (by decide +kernel), ⟨by decide +kernel, by decide +kernel⟩, by decide⟩
theorem np_X9_spreadFor : (parseMethodDescriptor Y_X9_spreadFor.1.desc).map (fun d => d.parameters.length) = some 3 := by decide +kernel
def Y_X9_findBand : zY := (yX9_findBand, cX9_findBand, 7, none, 3)
theorem okY_X9_findBand : zYok Y_X9_findBand := ⟨by decide +kernel, zU_in (by decide +kernel) (by decide +kernel), zU_in (by decide +kernel) (by decide +kernel), ⟨by decide +kernel, by decide +kernel⟩, by decide⟩
theorem np_X9_findBand : (parseMethodDescriptor Y_X9_findBand.1.desc).map (fun d => d.parameters.length) = some 2 := by decide +kernel
def Y_X9_wrongBand : zY := (yX9_wrongBand, cX9_wrongBand, 5, (some .int), 1)
theorem okY_X9_wrongBand : zYok Y_X9_wrongBand := ⟨by decide +kernel, zU_in (by decide +kernel) (by decide +kernel), zU_in (by decide +kernel) (by decide +kernel), ⟨by decide +kernel, by decide +kernel⟩, by decide⟩
theorem np_X9_wrongBand : (parseMethodDescriptor Y_X9_wrongBand.1.desc).map (fun d => d.parameters.length) = some 3 := by decide +kernel
def Y_X9_band : zY := (yX9_band, cX9_band, 5, (some .int), 4)
theorem okY_X9_band : zYok Y_X9_band := ⟨by decide +kernel, zU_in (by decide +kernel) (by decide +kernel), zU_in (by decide +kernel) (by decide +kernel), ⟨by decide +kernel, by decide +kernel⟩, by decide⟩
theorem np_X9_band : (parseMethodDescriptor Y_X9_band.1.desc).map (fun d => d.parameters.length) = some 3 := by decide +kernel
def Y_X9_begins : zY := (yX9_begins, cX9_begins, 5, (some .int), 4)
theorem okY_X9_begins : zYok Y_X9_begins := ⟨by decide +kernel, zU_in (by decide +kernel) (by decide +kernel), zU_in (by decide +kernel) (by decide +kernel), ⟨by decide +kernel, by decide +kernel⟩, by decide⟩
theorem np_X9_begins : (parseMethodDescriptor Y_X9_begins.1.desc).map (fun d => d.parameters.length) = some 3 := by decide +kernel
def Y_X9_tone : zY := (yX9_tone, cX9_tone, 3, (some .int), 2)
theorem okY_X9_tone : zYok Y_X9_tone := ⟨by decide +kernel, zU_in (by decide +kernel) (by decide +kernel), zU_in (by decide +kernel) (by decide +kernel), ⟨by decide +kernel, by decide +kernel⟩, by decide⟩
theorem np_X9_tone : (parseMethodDescriptor Y_X9_tone.1.desc).map (fun d => d.parameters.length) = some 2 := by decide +kernel
def Y_X9_harshOf : zY := (yX9_harshOf, cX9_harshOf, 6, (some .int), 0)
theorem okY_X9_harshOf : zYok Y_X9_harshOf := ⟨by decide +kernel, zU_in (by decide +kernel) (by decide +kernel), zU_in (by decide +kernel) (by decide +kernel), ⟨by decide +kernel, by decide +kernel⟩, by decide⟩
theorem np_X9_harshOf : (parseMethodDescriptor Y_X9_harshOf.1.desc).map (fun d => d.parameters.length) = some 2 := by decide +kernel
def Y_X9_harsh : zY := (yX9_harsh, cX9_harsh, 3, (some .int), 1)
theorem okY_X9_harsh : zYok Y_X9_harsh := ⟨by decide +kernel, zU_in (by decide +kernel) (by decide +kernel), zU_in (by decide +kernel) (by decide +kernel), ⟨by decide +kernel, by decide +kernel⟩, by decide⟩
theorem np_X9_harsh : (parseMethodDescriptor Y_X9_harsh.1.desc).map (fun d => d.parameters.length) = some 2 := by decide +kernel
def Y_X9_set : zY := (yX9_set, cX9_set, 4, (some .int), 1)
theorem okY_X9_set : zYok Y_X9_set := ⟨by decide +kernel, zU_in (by decide +kernel) (by decide +kernel), zU_in (by decide +kernel) (by decide +kernel), ⟨by decide +kernel, by decide +kernel⟩, by decide⟩
theorem np_X9_set : (parseMethodDescriptor Y_X9_set.1.desc).map (fun d => d.parameters.length) = some 1 := by decide +kernel
def Y_X9_count : zY := (yX9_count, cX9_count, 4, (some .int), 0)
theorem okY_X9_count : zYok Y_X9_count := ⟨by decide +kernel, zU_in (by decide +kernel) (by decide +kernel), zU_in (by decide +kernel) (by decide +kernel), ⟨by decide +kernel, by decide +kernel⟩, by decide⟩
theorem np_X9_count : (parseMethodDescriptor Y_X9_count.1.desc).map (fun d => d.parameters.length) = some 1 := by decide +kernel
theorem zbind {α β : Type} {x : Option α} {f : α → Option β} {b : β} (h : x.bind f = some b) : ∃ a, x = some a ∧ f a = some b := by
  cases x with
  | none => cases h
  | some a => exact ⟨a, rfl, h⟩
theorem zbool {v : Int32} (h : v = 0 ∨ v = 1) : narrow .boolean (.int v) = .int v := by rcases h with rfl | rfl <;> decide
theorem zsw5 {x : Int32} (h0 : ¬ x = 0) (h1 : ¬ x = 1) (h2 : ¬ x = 2) (h3 : ¬ x = 3) (h4 : ¬ x = 4) : x.toInt < 0 ∨ 4 < x.toInt := by
  have e : ∀ k : Int32, ¬ x = k → x.toInt ≠ k.toInt := fun k h q => h (Int32.toInt_inj.mp q)
  have a0 := e 0 h0
  have a1 := e 1 h1
  have a2 := e 2 h2
  have a3 := e 3 h3
  have a4 := e 4 h4
  simp at a0 a1 a2 a3 a4
  omega
