/-! ===== calling a constructor ===== -/
theorem zP_right {D : va_G} {cl : List vw_C} {r w : va_W} {H : Heap} (h : va_P D cl (r ++ w) H) : va_P D cl w H := fun k x hx => h (r.length + k) x (by rw [List.getElem?_append_right (by omega), show r.length + k - r.length = k by omega]; exact hx)
theorem zD_right {A : Nat → Prop} {r w : va_W} (h : va_D A (r ++ w)) : va_D A w := by
  have g : ∀ (k : Nat) (x : Nat × va_E), w[k]? = some x → (r ++ w)[r.length + k]? = some x := fun k x hx => by rw [List.getElem?_append_right (by omega), show r.length + k - r.length = k by omega]; exact hx
  exact ⟨fun i j x y hx hy e => by have := h.1 _ _ x y (g i x hx) (g j y hy) e; omega, fun k x hx => h.2 _ x (g k x hx)⟩
theorem zCblind {D : va_G} {cI cG : ClassId} {ws : va_W} {sz : Nat} {av : List Value} : FrameBlind (va_Pc av (zCPre D cI cG ws sz)) := by
  intro a U g mk q
  obtain ⟨q0, q1, qP, qK, qD, qN, qA⟩ := q
  exact ⟨q0, q1, qP, va_K.moved (u := U) (U := U.calling g mk a) (Vm.Alike.refl U.vm) qK, qD, zNW_same (s := U) (U := U.calling g mk a) rfl qN, zAO_al (s := U) (U := U.calling g mk a) (Vm.Alike.refl U.vm) qA⟩
section ZNC
variable {p : Program} {l : Launch} {e : Env} {R : Room} {s : State} {m : MethodId} {args : Array Value} {below : List Frame} {meth : Method} {c : Code} {H : Heap} {locs : List Loc} {cells slots : Nat} {Q : State → Prop}
variable {cc : ByteArray} {pc : Nat} {ls : Array Slot} {rest : List Value} {D : va_G} {A : Nat → Prop} {H0 : Heap} {cI cG : ClassId} {ad : Nat → Nat} {ids : List Nat}
theorem zn_call {Y' : zY} {o lv mc ms nL index q : Nat} {e0 : va_E} {f : List Nat → List Nat} {nw ex : List Nat} {own : String} {r : va_W} (hI : zInit Y' o e0 f nw ex lv mc ms) (hok : zYok Y') (S : CallFix p m c cc nL s args zU own) (hret : Y'.2.2.2.1 = none) (hname : Y'.1.name = "<init>") (hlink : Cond.methodLink own index Y'.1 ∈ zU) (hinst : Cond.instanceMethod Y'.1 ∈ zU) (hn : (parseMethodDescriptor Y'.1.desc).map (fun d => d.parameters.length) = some ex.length)
    (hts : ∀ w ∈ zU, w.before args s = true) (hK : va_K D vwCl [(cI, .int), (cG, .array .int)] s) (hN : ∀ w ∈ zNW, va_Nw w s) (hAO : va_AOA .int s) (hP : va_P D vwCl (r ++ (q, e0) :: zW cI cG ad ids zM0) H) (hD : va_D A (r ++ (q, e0) :: zW cI cG ad ids zM0)) (hS : va_S A H0 H locs) (hA : ∀ q, H0.size ≤ q → A q) (hcl : zcl ids) (ho : o ∉ ids) (hnw : ∀ i ∈ nw, i ∉ ids) (hex : ∀ j ∈ ex, j ∈ ids)
    (hR : lv + 1 ≤ R.frames ∧ 8 + (Y'.2.2.1 + 11) + 33 * lv ≤ R.locals) (hf : cells + mc ≤ R.cells ∧ slots + ms ≤ R.slots) (hsize : ls.size = nL) (h8 : (rest.map fun v => v.category).sum ≤ 8) (hdg : decode cc pc = .ok (.invokespecial index, 3))
    (kk : ∀ (ad' : Nat → Nat) (H1 : Heap) (locs1 : List Loc), (∀ i ∈ ids, ad' i = ad i) → ad' o = q → zcl (f ids) → va_P D vwCl (r ++ zW cI cG ad' (f ids) zM0) H1 → va_D A (r ++ zW cI cG ad' (f ids) zM0) → va_S A H0 H1 locs1 → W p l e R s m args below meth c H1 locs1 (cells + mc) (slots + ms) Q (F0 m (pc + 3) ls rest)) :
    W p l e R s m args below meth c H locs cells slots Q (F0 m pc ls ((ex.map (fun j => Value.ref (ad j))).reverse ++ .ref q :: rest)) := by
  have hM := hI l D cI cG ad ids H.size q hcl ho hnw hex
  have hPc := zP_right hP
  have hDc := zD_right hD
  have hFc : ∀ q', va_A ((q, e0) :: zW cI cG ad ids zM0) H.size q' → A q' := fun q' h => by
    rcases h with ⟨k, e9, h⟩ | h
    · exact hDc.2 k _ h
    · exact hA q' (Nat.le_trans hS.1 h)
  have hw0 : zws Y' = Cond.code Y'.1 Y'.2.1 Y'.2.2.1 none :: zU := by rw [zws, hret]
  refine va_callv (va_runI (b := q) (As := ex.map (fun j => Value.ref (ad j))) (rest := rest) S hM (cwI ex.length hts (zgood hok) hw0 rfl rfl (hts _ hok.2.2.1) (hts _ hlink) (hts _ hinst) hname ⟨hok.2.2.2.1.1, hok.2.2.2.1.2, hn⟩ hR) ⟨zCblind, fun U hU hW => ⟨rfl, by rw [hU], by rw [hU]; exact hPc, va_K.moved hW.alike hK, hDc.weaken (fun _ _ _ _ => trivial), zNW_warm hW hN, zAO_al hW.alike hAO⟩⟩ rfl (List.length_map _) hsize rfl (lv_room h8) hdg hf) hS (fun q _ h => hFc q h) hFc (fun ad' t H1 locs1 ht hvm hw hB hz1 hk1 hS1 => ?_)
  obtain ⟨g1, g2, g3⟩ := hw
  obtain ⟨hP1, hD1⟩ := hB
  rw [ht] at hP1
  obtain ⟨hP2, hD2⟩ := zjoin hP hD hk1 hFc hP1 hD1
  exact kk ad' H1 locs1 g1 g2 g3 hP2 hD2 hS1
theorem zn_callN {Y' : zY} {o lv mc ms nL index q : Nat} {e0 : va_E} {f : List Nat → List Nat} {nw ex : List Nat} {own host : String} {r : va_W} (hI : zInit Y' o e0 f nw ex lv mc ms) (hok : zYok Y') (S : CallFix p m c cc nL s args zU own) (hret : Y'.2.2.2.1 = none) (hname : Y'.1.name = "<init>") (hlink : va_Nw (.methodLinkNest own index Y'.1 host) s) (hinst : Cond.instanceMethod Y'.1 ∈ zU) (hn : (parseMethodDescriptor Y'.1.desc).map (fun d => d.parameters.length) = some ex.length)
    (hts : ∀ w ∈ zU, w.before args s = true) (hK : va_K D vwCl [(cI, .int), (cG, .array .int)] s) (hN : ∀ w ∈ zNW, va_Nw w s) (hAO : va_AOA .int s) (hP : va_P D vwCl (r ++ (q, e0) :: zW cI cG ad ids zM0) H) (hD : va_D A (r ++ (q, e0) :: zW cI cG ad ids zM0)) (hS : va_S A H0 H locs) (hA : ∀ q, H0.size ≤ q → A q) (hcl : zcl ids) (ho : o ∉ ids) (hnw : ∀ i ∈ nw, i ∉ ids) (hex : ∀ j ∈ ex, j ∈ ids)
    (hR : lv + 1 ≤ R.frames ∧ 8 + (Y'.2.2.1 + 11) + 33 * lv ≤ R.locals) (hf : cells + mc ≤ R.cells ∧ slots + ms ≤ R.slots) (hsize : ls.size = nL) (h8 : (rest.map fun v => v.category).sum ≤ 8) (hdg : decode cc pc = .ok (.invokespecial index, 3))
    (kk : ∀ (ad' : Nat → Nat) (H1 : Heap) (locs1 : List Loc), (∀ i ∈ ids, ad' i = ad i) → ad' o = q → zcl (f ids) → va_P D vwCl (r ++ zW cI cG ad' (f ids) zM0) H1 → va_D A (r ++ zW cI cG ad' (f ids) zM0) → va_S A H0 H1 locs1 → W p l e R s m args below meth c H1 locs1 (cells + mc) (slots + ms) Q (F0 m (pc + 3) ls rest)) :
    W p l e R s m args below meth c H locs cells slots Q (F0 m pc ls ((ex.map (fun j => Value.ref (ad j))).reverse ++ .ref q :: rest)) := by
  have hM := hI l D cI cG ad ids H.size q hcl ho hnw hex
  have hPc := zP_right hP
  have hDc := zD_right hD
  have hFc : ∀ q', va_A ((q, e0) :: zW cI cG ad ids zM0) H.size q' → A q' := fun q' h => by
    rcases h with ⟨k, e9, h⟩ | h
    · exact hDc.2 k _ h
    · exact hA q' (Nat.le_trans hS.1 h)
  have hw0 : zws Y' = Cond.code Y'.1 Y'.2.1 Y'.2.2.1 none :: zU := by rw [zws, hret]
  refine va_callv (va_runIN (b := q) (As := ex.map (fun j => Value.ref (ad j))) (rest := rest) S hM ⟨va_cnB ex.length hts (zgood hok) hw0 rfl rfl hlink (hts _ hok.2.2.1) ⟨hok.2.2.2.1.1, hok.2.2.2.1.2, hn⟩ hR, hname, hts _ hinst⟩ ⟨zCblind, fun U hU hW => ⟨rfl, by rw [hU], by rw [hU]; exact hPc, va_K.moved hW.alike hK, hDc.weaken (fun _ _ _ _ => trivial), zNW_warm hW hN, zAO_al hW.alike hAO⟩⟩ rfl (List.length_map _) hsize rfl (lv_room h8) hdg hf) hS (fun q _ h => hFc q h) hFc (fun ad' t H1 locs1 ht hvm hw hB hz1 hk1 hS1 => ?_)
  obtain ⟨g1, g2, g3⟩ := hw
  obtain ⟨hP1, hD1⟩ := hB
  rw [ht] at hP1
  obtain ⟨hP2, hD2⟩ := zjoin hP hD hk1 hFc hP1 hD1
  exact kk ad' H1 locs1 g1 g2 g3 hP2 hD2 hS1
end ZNC
