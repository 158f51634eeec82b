section LWL
variable {p : Program} {l : Launch} {e : Env} {s : State} {m : MethodId} {below : List Frame} {meth : Method} {c : Code} {b L : Nat} {xs : Nat → Int32} {D : va_G} {cI cG : ClassId} {ad : Nat → Nat} {cells slots : Nat}
set_option maxHeartbeats 4000000 in
theorem lw_loop (Cx : zLc p s m c b L xs D cI cG (fun q => s.heap.size ≤ q)) (hL : L ≤ 3072) (hr : meth.sig.returnType = ret) (hlocks : meth.locks = false) (hcs : cells ≤ 600000 ∧ slots ≤ 7302249) : ∀ (n i : Nat) (M : zM) (H : Heap) (locs : List Loc) (ls : Array Slot), L < i + n → i ≤ L → zInv M → zB D cI cG ad LA (fun q => s.heap.size ≤ q) s M H locs → lv_has ls 4 [(0, .ref b), (1, .ref (ad 0)), (2, .ref (ad 9)), (3, .int (nI i))] → W p l e room_1 s m #[Value.ref b] below meth c H locs cells slots (lw_Z below #[Value.ref b] s) (F0 m 18 ls []) := by
  intro n
  induction n with
  | zero => intro i M H locs ls h1 h2; omega
  | succ n ih =>
    intro i M H locs ls h1 h2 hv hB hl
    obtain ⟨hx, hb, hml, hown, hts, hN, hK, hcl, hA, hX, hbl, hbA⟩ := id Cx
    refine lv_iload_n hx hb dl_18 rfl (lv_at hl 3 rfl) ?_
    refine lv_aload_n hx hb dl_19 rfl (lv_at hl 0 rfl) ?_
    refine va_slen hx hb hX hbl hbA hB.2.2 dl_20 ?_
    refine lv_bipush (v := 6) hx hb dl_21 (by decide) ?_
    refine lv_isub hx hb dl_23 ?_
    have hi6 : (nI L - (6 : Int32)).toInt = (L : Int) - 6 := pk_sub_toInt (b := 6) (by omega) (by omega)
    refine lv_icmp_gt (tgt := 1340) hx hb dl_24 (by decide) (fun _ => ?_) (fun h => ?_)
    · refine va_forget (fun q hq => hB.2.2.2.2 q hq) ?_
      refine W.widen (k := 600000) (n := 7302249) hcs.1 hcs.2 ?_
      refine lv_iconst (v := 1) hx hb dl_1340 (by decide) ?_
      exact lw_ret hx hb hr hlocks dl_1341
    · have hle : i + 6 ≤ L := by
        have h9 : ¬ ((nI L - (6 : Int32)) < nI i) := h
        rw [fa_lt, hi6, nI_toInt (by omega)] at h9
        omega
      refine lv_aload_n hx hb dl_27 rfl (lv_at hl 0 rfl) ?_
      refine lv_iload_n hx hb dl_28 rfl (lv_at hl 3 rfl) ?_
      refine va_sld hx hb hX hbl hbA hB.2.2 (by show ¬ _; rw [zix (by omega) (by omega)]; exact id) dl_29 ?_
      rw [zcl' (by omega)]
      refine lv_bipush (v := 63) hx hb dl_30 (by decide) ?_
      refine lv_iand hx hb dl_32 ?_
      obtain ⟨j, hj, ej⟩ := pk_andE (xs i) (m := 63) 6 (by decide)
      rw [ej]
      have kk : ∀ (M2 : zM) (H1 : Heap) (locs1 : List Loc), zInv M2 → zB D cI cG ad LA (fun q => s.heap.size ≤ q) s M2 H1 locs1 → W p l e room_1 s m #[Value.ref b] below meth c H1 locs1 cells slots (lw_Z below #[Value.ref b] s) (F0 m 1334 ls []) := by
        intro M2 H1 locs1 hv2 hB2
        refine lv_iinc (v := nI (i + 6)) (k := 3) (lv' := [(3, .int (nI (i + 6))), (0, .ref b), (1, .ref (ad 0)), (2, .ref (ad 9))]) hx hb dl_1334 hl rfl (by rw [show Int32.ofInt 6 = nI 6 from by decide, nI_add]) (by decide) rfl (fun ls' hl' => ?_)
        refine lv_goto (tgt := 18) hx hb dl_1337 (by decide) ?_
        exact ih (i + 6) M2 H1 locs1 ls' (by omega) hle hv2 hB2 (lv_sub hl' [1, 2, 3, 0] rfl)
      by_cases hj38 : 38 ≤ j
      · exact lv_tableOut (tgt := 1334) hx hb dl_33 (Or.inr (by rw [nI_toInt (by omega)]; omega)) (by decide) (kk M H locs hv hB)
      · rcases (show j = 0 ∨ j = 1 ∨ j = 2 ∨ j = 3 ∨ j = 4 ∨ j = 5 ∨ j = 6 ∨ j = 7 ∨ j = 8 ∨ j = 9 ∨ j = 10 ∨ j = 11 ∨ j = 12 ∨ j = 13 ∨ j = 14 ∨ j = 15 ∨ j = 16 ∨ j = 17 ∨ j = 18 ∨ j = 19 ∨ j = 20 ∨ j = 21 ∨ j = 22 ∨ j = 23 ∨ j = 24 ∨ j = 25 ∨ j = 26 ∨ j = 27 ∨ j = 28 ∨ j = 29 ∨ j = 30 ∨ j = 31 ∨ j = 32 ∨ j = 33 ∨ j = 34 ∨ j = 35 ∨ j = 36 ∨ j = 37 by omega) with rfl | rfl | rfl | rfl | rfl | rfl | rfl | rfl | rfl | rfl | rfl | rfl | rfl | rfl | rfl | rfl | rfl | rfl | rfl | rfl | rfl | rfl | rfl | rfl | rfl | rfl | rfl | rfl | rfl | rfl | rfl | rfl | rfl | rfl | rfl | rfl | rfl | rfl
        · exact lv_tableIn (tgt := 200) (off := 167) hx hb dl_33 (by decide) (by decide) rfl (by decide) (lc_movement Cx hL (by omega) hv hB hl hcs kk)
        · exact lv_tableIn (tgt := 243) (off := 210) hx hb dl_33 (by decide) (by decide) rfl (by decide) (lc_may Cx hL (by omega) hv hB hl hcs kk)
        · exact lv_tableIn (tgt := 286) (off := 253) hx hb dl_33 (by decide) (by decide) rfl (by decide) (lc_beat Cx hL (by omega) hv hB hl hcs kk)
        · exact lv_tableIn (tgt := 309) (off := 276) hx hb dl_33 (by decide) (by decide) rfl (by decide) (lc_fits Cx hL (by omega) hv hB hl hcs kk)
        · exact lv_tableIn (tgt := 352) (off := 319) hx hb dl_33 (by decide) (by decide) rfl (by decide) (lc_step Cx hL (by omega) hv hB hl hcs kk)
        · exact lv_tableIn (tgt := 395) (off := 362) hx hb dl_33 (by decide) (by decide) rfl (by decide) (lc_put Cx hL (by omega) hv hB hl hcs kk)
        · exact lv_tableIn (tgt := 428) (off := 395) hx hb dl_33 (by decide) (by decide) rfl (by decide) (lc_back Cx hL (by omega) hv hB hl hcs kk)
        · exact lv_tableIn (tgt := 441) (off := 408) hx hb dl_33 (by decide) (by decide) rfl (by decide) (lc_wrong Cx hL (by omega) hv hB hl hcs kk)
        · exact lv_tableIn (tgt := 454) (off := 421) hx hb dl_33 (by decide) (by decide) rfl (by decide) (lc_fillings Cx hL (by omega) hv hB hl hcs kk)
        · exact lv_tableIn (tgt := 467) (off := 434) hx hb dl_33 (by decide) (by decide) rfl (by decide) (lc_quickest Cx hL (by omega) hv hB hl hcs kk)
        · exact lv_tableIn (tgt := 490) (off := 457) hx hb dl_33 (by decide) (by decide) rfl (by decide) (lc_graces Cx hL (by omega) hv hB hl hcs kk)
        · exact lv_tableIn (tgt := 503) (off := 470) hx hb dl_33 (by decide) (by decide) rfl (by decide) (lc_region Cx hL (by omega) hv hB hl hcs kk)
        · exact lv_tableIn (tgt := 556) (off := 523) hx hb dl_33 (by decide) (by decide) rfl (by decide) (lc_sung Cx hL (by omega) hv hB hl hcs kk)
        · exact lv_tableIn (tgt := 589) (off := 556) hx hb dl_33 (by decide) (by decide) rfl (by decide) (lc_syllable Cx hL (by omega) hv hB hl hcs kk)
        · exact lv_tableIn (tgt := 612) (off := 579) hx hb dl_33 (by decide) (by decide) rfl (by decide) (lc_hush Cx hL (by omega) hv hB hl hcs kk)
        · exact lv_tableIn (tgt := 625) (off := 592) hx hb dl_33 (by decide) (by decide) rfl (by decide) (lc_read Cx hL (by omega) hv hB hl hcs kk)
        · exact lv_tableIn (tgt := 648) (off := 615) hx hb dl_33 (by decide) (by decide) rfl (by decide) (lc_first Cx hL (by omega) hv hB hl hcs kk)
        · exact lv_tableIn (tgt := 681) (off := 648) hx hb dl_33 (by decide) (by decide) rfl (by decide) (lc_home Cx hL (by omega) hv hB hl hcs kk)
        · exact lv_tableIn (tgt := 694) (off := 661) hx hb dl_33 (by decide) (by decide) rfl (by decide) (lc_rule Cx hL (by omega) hv hB hl hcs kk)
        · exact lv_tableIn (tgt := 737) (off := 704) hx hb dl_33 (by decide) (by decide) rfl (by decide) (lc_note Cx hL (by omega) hv hB hl hcs kk)
        · exact lv_tableIn (tgt := 760) (off := 727) hx hb dl_33 (by decide) (by decide) rfl (by decide) (lc_silence Cx hL (by omega) hv hB hl hcs kk)
        · exact lv_tableIn (tgt := 773) (off := 740) hx hb dl_33 (by decide) (by decide) rfl (by decide) (lc_varied Cx hL (by omega) hv hB hl hcs kk)
        · exact lv_tableIn (tgt := 816) (off := 783) hx hb dl_33 (by decide) (by decide) rfl (by decide) (lc_sheet Cx hL (by omega) hv hB hl hcs kk)
        · exact lv_tableIn (tgt := 859) (off := 826) hx hb dl_33 (by decide) (by decide) rfl (by decide) (lc_tell Cx hL (by omega) hv hB hl hcs kk)
        · exact lv_tableIn (tgt := 902) (off := 869) hx hb dl_33 (by decide) (by decide) rfl (by decide) (lc_cells Cx hL (by omega) hv hB hl hcs kk)
        · exact lv_tableIn (tgt := 925) (off := 892) hx hb dl_33 (by decide) (by decide) rfl (by decide) (lc_clear Cx hL (by omega) hv hB hl hcs kk)
        · exact lv_tableIn (tgt := 938) (off := 905) hx hb dl_33 (by decide) (by decide) rfl (by decide) (lc_agreeing Cx hL (by omega) hv hB hl hcs kk)
        · exact lv_tableIn (tgt := 951) (off := 918) hx hb dl_33 (by decide) (by decide) rfl (by decide) (lc_least Cx hL (by omega) hv hB hl hcs kk)
        · exact lv_tableIn (tgt := 974) (off := 941) hx hb dl_33 (by decide) (by decide) rfl (by decide) (lc_blamed Cx hL (by omega) hv hB hl hcs kk)
        · exact lv_tableIn (tgt := 1007) (off := 974) hx hb dl_33 (by decide) (by decide) rfl (by decide) (lc_piper Cx hL (by omega) hv hB hl hcs kk)
        · exact lv_tableIn (tgt := 1070) (off := 1037) hx hb dl_33 (by decide) (by decide) rfl (by decide) (lc_damp Cx hL (by omega) hv hB hl hcs kk)
        · exact lv_tableIn (tgt := 1093) (off := 1060) hx hb dl_33 (by decide) (by decide) rfl (by decide) (lc_pitch Cx hL (by omega) hv hB hl hcs kk)
        · exact lv_tableIn (tgt := 1136) (off := 1103) hx hb dl_33 (by decide) (by decide) rfl (by decide) (lc_band Cx hL (by omega) hv hB hl hcs kk)
        · exact lv_tableIn (tgt := 1179) (off := 1146) hx hb dl_33 (by decide) (by decide) rfl (by decide) (lc_begins Cx hL (by omega) hv hB hl hcs kk)
        · exact lv_tableIn (tgt := 1222) (off := 1189) hx hb dl_33 (by decide) (by decide) rfl (by decide) (lc_tone Cx hL (by omega) hv hB hl hcs kk)
        · exact lv_tableIn (tgt := 1255) (off := 1222) hx hb dl_33 (by decide) (by decide) rfl (by decide) (lc_harsh Cx hL (by omega) hv hB hl hcs kk)
        · exact lv_tableIn (tgt := 1288) (off := 1255) hx hb dl_33 (by decide) (by decide) rfl (by decide) (lc_set Cx hL (by omega) hv hB hl hcs kk)
        · exact lv_tableIn (tgt := 1311) (off := 1278) hx hb dl_33 (by decide) (by decide) rfl (by decide) (lc_count Cx hL (by omega) hv hB hl hcs kk)
end LWL
