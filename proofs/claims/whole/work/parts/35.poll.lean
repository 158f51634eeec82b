/-! ===== the poll of the class: votes of told cells ===== -/
def zSh (M : zM) (ns n c : Nat) : Prop := zvRules M ∧ zvSheets M ∧ ns ≤ 3 ∧ 1 ≤ n ∧ n ≤ 16 ∧ c ≤ 65535 ∧ M 9 18 = nI ns ∧ M 6 4 = nI ns ∧ M 9 19 = nI n ∧ M 6 5 = nI n ∧ M 9 20 = nI c ∧ M 6 6 = nI c
theorem zvRules_same {M N : zM} (h : zsame M N) (v : zvRules M) : zvRules N := by
  refine zvRules_c (fun a b e => h a b ?_) v
  simp [zdRules] at e
  simp [zscr]
  omega
theorem zvSheets_same {M N : zM} (h : zsame M N) (v : zvSheets M) : zvSheets N := by
  refine zvSheets_c (fun a b e => h a b ?_) v
  simp [zdSheets] at e
  simp [zscr]
  omega
theorem zSh_same {M N : zM} {ns n c : Nat} (h : zsame M N) (v : zSh M ns n c) : zSh N ns n c := by
  obtain ⟨a1, a2, a3, a4, a5, a6, b1, b2, b3, b4, b5, b6⟩ := v
  exact ⟨zvRules_same h a1, zvSheets_same h a2, a3, a4, a5, a6, (h 9 18 rfl).trans b1, (h 6 4 rfl).trans b2, (h 9 19 rfl).trans b3, (h 6 5 rfl).trans b4, (h 9 20 rfl).trans b5, (h 6 6 rfl).trans b6⟩
theorem zps_same {M N : zM} (h : zsame M N) : zps N = zps M := by
  funext R
  rw [zps, zps, zrow_same h 86 (fun b => by simp [zscr])]
theorem zpt_same {M N : zM} (h : zsame M N) : zpt N = zpt M := by
  funext R l
  rw [zpt, zpt, zrow_same h 87 (fun b => by simp [zscr])]
theorem zru_same {M N : zM} (h : zsame M N) : zru N = zru M := by
  funext s
  rw [zru, zru, zrow_same h 89 (fun b => by simp [zscr])]
theorem zcf_same {M N : zM} (h : zsame M N) : zcf N = zcf M := by
  funext R c k
  rw [zcf, zcf, zps_same h]
theorem zpa_same {M N : zM} (h : zsame M N) : zpa N = zpa M := by
  funext R c i l
  rw [zpa, zpa, zpt_same h]
theorem zsv_same {M N : zM} (h : zsame M N) : zsv N = zsv M := by
  funext R c n i l
  rw [zsv, zsv, zpa_same h]
theorem eV_same {M N : zM} (h : zsame M N) : eV N = eV M := by
  funext R c n q
  cases q with
  | none => rfl
  | some q => rw [eV, eV, zsv_same h]
theorem zso_some {f : Nat → Nat} : ∀ (k i left : Nat), left < zsg (fun t => f (i + t)) k → ∃ q, zso f k i left = some q
  | 0, i, left, h => by simp [zsg] at h
  | k + 1, i, left, h => by
    rw [zso]
    by_cases hl : left < f i
    · exact ⟨_, if_pos hl⟩
    · rw [if_neg hl]
      refine zso_some k (i + 1) (left - f i) ?_
      rw [zsg_head] at h
      have e : zsg (fun t => f (i + (t + 1))) k = zsg (fun t => f (i + 1 + t)) k := zsg_congr (fun t _ => by rw [show i + (t + 1) = i + 1 + t by omega])
      rw [e] at h
      simp only [Nat.add_zero] at h
      omega
/-- size of a sheet -/
abbrev zsz (M : zM) (n c s : Nat) : Nat := zsg (zcs M c s) n
/-- where a cell comes from; what is told there -/
def zsrc (M : zM) (n c s j : Nat) : Nat := match zso (zcs M c s) n 0 j with
  | none => 0
  | some q => zsv M (zru M s) c n q.1 q.2
abbrev ztd (M : zM) (s j : Nat) : Int32 := M 90 (64 * s + j)
def zhP (M : zM) (n c s j x : Nat) : Nat := if ztd M s j = -1 then 0 else if zsrc M n c s j = 16 + x then 1 else 0
def zhQ (M : zM) (n c s j x w : Nat) : Nat := if ztd M s j = -1 then 0 else if zsrc M n c s j = 16 + x ∧ ztd M s j = nI w then 1 else 0
def zhL (M : zM) (n c s j : Nat) : Nat := if ztd M s j = -1 then 0 else if zsrc M n c s j < 16 ∧ nI (zsrc M n c s j) ≠ ztd M s j then 1 else 0
theorem ztd_ok {M : zM} {s j : Nat} (v : zvSheets M) (hs : s < 3) (hj : j < 64) : M (48 + s) j = ztd M s j ∧ (ztd M s j = -1 ∨ ∃ w, w < 9 ∧ ztd M s j = nI w) := by
  have h := v.2.2.2.2.2.1 s j hs hj
  refine ⟨h.1, ?_⟩
  obtain ⟨a, b⟩ := h.2
  by_cases e : ztd M s j = -1
  · exact Or.inl e
  · right
    have e' : ((-1 : Int32)).toInt = -1 := by decide
    rw [fa_eq, e'] at e
    have a' : -1 ≤ (ztd M s j).toInt := a
    obtain ⟨w, hw, e2⟩ := zr_nat (hi := 8) (x := ztd M s j) ⟨by omega, b⟩ (by decide)
    exact ⟨w, by omega, e2⟩
theorem zsrc_ok {M : zM} {ns n c s j : Nat} (v : zSh M ns n c) (hs : s < ns) (hj : j < zsz M n c s) : ∃ q, zso (zcs M c s) n 0 j = some q ∧ zsrc M n c s j = zsv M (zru M s) c n q.1 q.2 ∧ q.1 < n ∧ q.2 < zcs M c s q.1 ∧ zsrc M n c s j < 32 := by
  obtain ⟨v4, v6, h1, h0, h2, h3, -⟩ := v
  have hr := (zru_ok v6 (show s < 3 by omega)).1
  obtain ⟨q, hq⟩ := zso_some (f := zcs M c s) n 0 j (by
    have e : zsg (fun t => zcs M c s (0 + t)) n = zsz M n c s := zsg_congr (fun t _ => by rw [Nat.zero_add])
    rw [e]
    exact hj)
  obtain ⟨a, b, cc⟩ := zso_rng _ _ _ hq
  have hp := zpa_rng v4 hr cc
  have hm := Nat.mod_lt (q.1 + 1) (show 0 < n by omega)
  have e : zsrc M n c s j = zsv M (zru M s) c n q.1 q.2 := by rw [zsrc, hq]
  refine ⟨q, hq, e, by omega, cc, ?_⟩
  rw [e, zsv]
  split
  · omega
  · split <;> omega
def zPol (M N : zM) (P : Nat → Nat) (Q : Nat → Nat → Nat) (L : Nat) : Prop := zsame M N ∧ N 6 9 = nI L ∧ (∀ x, x < 16 → N 68 x = nI (P x)) ∧ (∀ x v, x < 16 → v < 9 → N (52 + x) v = nI (Q x v))
theorem zPol_c {M N : zM} {P P' : Nat → Nat} {Q Q' : Nat → Nat → Nat} {L L' : Nat} (h : zPol M N P Q L) (hP : ∀ x, x < 16 → P x = P' x) (hQ : ∀ x v, x < 16 → v < 9 → Q x v = Q' x v) (hL : L = L') : zPol M N P' Q' L' := by
  obtain ⟨a, b, c, d⟩ := h
  exact ⟨a, by rw [b, hL], fun x hx => by rw [c x hx, hP x hx], fun x v hx hv => by rw [d x v hx hv, hQ x v hx hv]⟩
theorem s_vote {M N : zM} {P : Nat → Nat} {Q : Nat → Nat → Nat} {L r v : Nat} (hr : r < 32) (hv : v < 9) (h : zPol M N P Q L) : ∃ N', p_X5_vote (nI r) (nI v) N = some N' ∧ zPol M N' (fun x => P x + if r = 16 + x then 1 else 0) (fun x w => Q x w + if r = 16 + x ∧ v = w then 1 else 0) (L + if r < 16 ∧ r ≠ v then 1 else 0) := by
  have hh := h
  obtain ⟨a, b, c, d⟩ := h
  rw [p_X5_vote, show (16 : Int32) = nI 16 from rfl]
  simp only [zLt (show r < 2 ^ 31 by omega) (show 16 < 2 ^ 31 by omega), zEqn (show r < 2 ^ 31 by omega) (show v < 2 ^ 31 by omega)]
  by_cases h16 : r < 16
  · rw [if_pos h16]
    by_cases he : r = v
    · rw [if_pos he]
      exact ⟨N, rfl, zPol_c hh (fun x _ => by rw [if_neg (by omega)]; rfl) (fun x w _ _ => by rw [if_neg (by omega)]; rfl) (by rw [if_neg (by omega)]; rfl)⟩
    · rw [if_neg he]
      refine ⟨_, rfl, a.set rfl, ?_, ?_, ?_⟩
      · rw [zs_self, b, show (1 : Int32) = nI 1 from rfl, nI_add, if_pos ⟨h16, he⟩]
      · intro x hx
        dsimp only
        rw [zs_ne (by omega), c x hx, if_neg (by omega)]
        rfl
      · intro x w hx hw
        dsimp only
        rw [zs_ne (by omega), d x w hx hw, if_neg (by omega)]
        rfl
  · obtain ⟨y, rfl⟩ : ∃ y, r = 16 + y := ⟨r - 16, by omega⟩
    have q1 := zix (m := y) (n := 16) (by omega) (by omega)
    have q2 := zix (m := v) (n := 9) hv (by omega)
    rw [if_neg h16, pk_sub (by omega), show 16 + y - 16 = y by omega]
    simp only [q1, q2, if_false]
    rw [zcl' (by omega), zcl' (by omega)]
    refine ⟨_, rfl, (a.set (by simp [zscr])).set (by simp [zscr]; omega), ?_, ?_, ?_⟩
    · rw [zs_ne (by omega), zs_ne (by omega), b, if_neg (by omega)]
      rfl
    · intro x hx
      dsimp only
      rw [zs_ne (by omega), zs_eq]
      by_cases e : x = y
      · rw [if_pos e, if_pos (by omega), e, c y (by omega), show (1 : Int32) = nI 1 from rfl, nI_add]
      · rw [if_neg e, if_neg (by omega), c x hx]
        rfl
    · intro x w hx hw
      dsimp only
      by_cases e : x = y ∧ w = v
      · obtain ⟨rfl, rfl⟩ := e
        rw [zs_self, if_pos ⟨rfl, rfl⟩, zs_ne (by omega), d x w hx hw, show (1 : Int32) = nI 1 from rfl, nI_add]
      · rw [if_neg (by omega), zset, if_neg (by omega), zs_ne (by omega), d x w hx hw]
        rfl
theorem s_poll49 {M : zM} {ns n c s : Nat} {k39 : Int32 → zM → Option zM} (v : zSh M ns n c) (hs : s < ns) : ∀ (k nn j : Nat) (N : zM) (P : Nat → Nat) (Q : Nat → Nat → Nat) (L : Nat), j + k = zsz M n c s → k < nn → zPol M N P Q L → ∃ N', p_X5_poll_49 k39 (nI s) nn (nI j) N = k39 (nI (s + 1)) N' ∧ zPol M N' (fun x => P x + zsg (fun i => zhP M n c s (j + i) x) k) (fun x w => Q x w + zsg (fun i => zhQ M n c s (j + i) x w) k) (L + zsg (fun i => zhL M n c s (j + i)) k) := by
  obtain ⟨v4, v6, h1, h0, h2, h3, b1, b2, b3, b4, b5, b6⟩ := id v
  have q1 := zix (m := s) (n := 3) (by omega) (by omega)
  have hsz : zsz M n c s ≤ n * 4 := zcs_le (c := c) v4 v6 (s := s) (by omega) n
  have hc46 : M 46 s = nI (zsz M n c s) := zcells v6 b1 b3 b5 hs h1 h2 h3
  obtain ⟨r1, r2, r3⟩ := zru_ok v6 (show s < 3 by omega)
  intro k
  induction k with
  | zero =>
    intro nn j N P Q L e1 e2 hp
    obtain ⟨m, rfl⟩ := zfuel e2
    have hN := hp.1
    refine ⟨N, ?_, zPol_c hp (fun x _ => rfl) (fun x w _ _ => rfl) rfl⟩
    rw [p_X5_poll_49]
    simp only [q1, if_false]
    rw [zcl' (by omega), hN 46 s (by simp [zscr]), hc46, if_pos (by rw [zLe (by omega) (by omega)]; omega), nI_1]
  | succ k ih =>
    intro nn j N P Q L e1 e2 hp
    obtain ⟨m, rfl⟩ := zfuel e2
    have hN := hp.1
    have q2 := zix (m := j) (n := 64) (by omega) (by omega)
    obtain ⟨t1, t2⟩ := ztd_ok v6 (show s < 3 by omega) (show j < 64 by omega)
    obtain ⟨q, u1, u2, u3, u4, u5⟩ := zsrc_ok v hs (show j < zsz M n c s by omega)
    have hsrc : p_X4_source (nI (zru M s)) (nI n) (nI c) (nI j) N = some (nI (zsrc M n c s j)) := by
      rw [s_source (zvRules_same hN v4) r1 h3 h2 (by omega), zcf_same hN, u1, eV_same hN, eV, ← u2]
    have fin : ∀ N' : zM, ∀ P' Q' L', zPol M N' P' Q' L' → (∀ x, P' x = P x + zhP M n c s j x) → (∀ x w, w < 9 → Q' x w = Q x w + zhQ M n c s j x w) → L' = L + zhL M n c s j → ∃ N'', p_X5_poll_49 k39 (nI s) m (nI (j + 1)) N' = k39 (nI (s + 1)) N'' ∧ zPol M N'' (fun x => P x + zsg (fun i => zhP M n c s (j + i) x) (k + 1)) (fun x w => Q x w + zsg (fun i => zhQ M n c s (j + i) x w) (k + 1)) (L + zsg (fun i => zhL M n c s (j + i)) (k + 1)) := by
      intro N' P' Q' L' g1 g2 g3 g4
      obtain ⟨N'', w1, w2⟩ := ih m (j + 1) N' P' Q' L' (by omega) (by omega) g1
      refine ⟨N'', w1, zPol_c w2 (fun x _ => ?_) (fun x w _ hw => ?_) ?_⟩
      · rw [zsg_head, g2, zsg_congr (f := fun i => zhP M n c s (j + (i + 1)) x) (g := fun i => zhP M n c s (j + 1 + i) x) (fun i _ => by rw [show j + (i + 1) = j + 1 + i by omega]), Nat.add_assoc]
        rfl
      · rw [zsg_head, g3 x w hw, zsg_congr (f := fun i => zhQ M n c s (j + (i + 1)) x w) (g := fun i => zhQ M n c s (j + 1 + i) x w) (fun i _ => by rw [show j + (i + 1) = j + 1 + i by omega]), Nat.add_assoc]
        rfl
      · rw [zsg_head, g4, zsg_congr (f := fun i => zhL M n c s (j + (i + 1))) (g := fun i => zhL M n c s (j + 1 + i)) (fun i _ => by rw [show j + (i + 1) = j + 1 + i by omega]), Nat.add_assoc]
        rfl
    rw [p_X5_poll_49]
    simp only [q1, q2, if_false]
    rw [zcl' (by omega), zcl' (by omega), hN 46 s (by simp [zscr]), hc46, if_neg (by rw [zLe (by omega) (by omega)]; omega), hN (48 + s) j (by simp [zscr]; omega), t1, nI_1]
    rcases t2 with ht | ⟨w, hw, ht⟩
    · rw [if_pos ht]
      exact fin N P Q L hp (fun x => by rw [zhP, if_pos ht]; rfl) (fun x w _ => by rw [zhQ, if_pos ht]; rfl) (by rw [zhL, if_pos ht]; rfl)
    · have hne : ¬ (ztd M s j = -1) := by rw [ht, zm1 (by omega)]; exact id
      obtain ⟨N', w1, w2⟩ := s_vote (r := zsrc M n c s j) (v := w) u5 hw hp
      rw [if_neg hne, hN 45 s (by simp [zscr]), r3, hN 6 5 rfl, hN 6 6 rfl, b4, b6, hsrc]
      simp only [Option.bind_some]
      rw [ht, w1]
      simp only [Option.bind_some]
      refine fin N' _ _ _ w2 (fun x => ?_) (fun x y hy => ?_) ?_
      · rw [zhP, if_neg hne]
      · rw [zhQ, if_neg hne, ht]
        simp only [nI_eq (show w < 2 ^ 31 by omega) (show y < 2 ^ 31 by omega)]
      · rw [zhL, if_neg hne, ht]
        simp only [ne_eq, nI_eq (show zsrc M n c s j < 2 ^ 31 by omega) (show w < 2 ^ 31 by omega)]
theorem s_poll39 {M : zM} {ns n c : Nat} (v : zSh M ns n c) : ∀ (k nn s : Nat) (N : zM) (P : Nat → Nat) (Q : Nat → Nat → Nat) (L : Nat), s + k = ns → k < nn → zPol M N P Q L → ∃ N', p_X5_poll_39 nn (nI s) N = some N' ∧ zPol M N' (fun x => P x + zsg (fun i => zsg (fun j => zhP M n c (s + i) j x) (zsz M n c (s + i))) k) (fun x w => Q x w + zsg (fun i => zsg (fun j => zhQ M n c (s + i) j x w) (zsz M n c (s + i))) k) (L + zsg (fun i => zsg (fun j => zhL M n c (s + i) j) (zsz M n c (s + i))) k) := by
  obtain ⟨v4, v6, h1, h0, h2, h3, b1, b2, b3, b4, b5, b6⟩ := id v
  intro k
  induction k with
  | zero =>
    intro nn s N P Q L e1 e2 hp
    obtain ⟨m, rfl⟩ := zfuel e2
    refine ⟨N, ?_, zPol_c hp (fun x _ => rfl) (fun x w _ _ => rfl) rfl⟩
    rw [p_X5_poll_39, hp.1 6 4 rfl, b2, if_pos (by rw [zLe (by omega) (by omega)]; omega)]
  | succ k ih =>
    intro nn s N P Q L e1 e2 hp
    obtain ⟨m, rfl⟩ := zfuel e2
    have hsz : zsz M n c s ≤ n * 4 := zcs_le (c := c) v4 v6 (s := s) (by omega) n
    rw [p_X5_poll_39, hp.1 6 4 rfl, b2, if_neg (by rw [zLe (by omega) (by omega)]; omega)]
    obtain ⟨N', w1, w2⟩ := s_poll49 (k39 := p_X5_poll_39 m) v (show s < ns by omega) (zsz M n c s) 5000 0 N P Q L (by omega) (by omega) hp
    obtain ⟨N'', w3, w4⟩ := ih m (s + 1) N' _ _ _ (by omega) (by omega) w2
    refine ⟨N'', w1.trans w3, zPol_c w4 (fun x _ => ?_) (fun x w _ hw => ?_) ?_⟩
    · rw [zsg_head, zsg_congr (f := fun i => zsg (fun j => zhP M n c (s + (i + 1)) j x) (zsz M n c (s + (i + 1)))) (g := fun i => zsg (fun j => zhP M n c (s + 1 + i) j x) (zsz M n c (s + 1 + i))) (fun i _ => by rw [show s + (i + 1) = s + 1 + i by omega])]
      simp only [Nat.add_zero, Nat.zero_add, Nat.add_assoc]
    · rw [zsg_head, zsg_congr (f := fun i => zsg (fun j => zhQ M n c (s + (i + 1)) j x w) (zsz M n c (s + (i + 1)))) (g := fun i => zsg (fun j => zhQ M n c (s + 1 + i) j x w) (zsz M n c (s + 1 + i))) (fun i _ => by rw [show s + (i + 1) = s + 1 + i by omega])]
      simp only [Nat.add_zero, Nat.zero_add, Nat.add_assoc]
    · rw [zsg_head, zsg_congr (f := fun i => zsg (fun j => zhL M n c (s + (i + 1)) j) (zsz M n c (s + (i + 1)))) (g := fun i => zsg (fun j => zhL M n c (s + 1 + i) j) (zsz M n c (s + 1 + i))) (fun i _ => by rw [show s + (i + 1) = s + 1 + i by omega])]
      simp only [Nat.add_zero, Nat.zero_add, Nat.add_assoc]
theorem s_poll15 {M : zM} {ns n c : Nat} (v : zSh M ns n c) : ∀ (k nn i : Nat) (N : zM), i + k = 16 → k < nn → zsame M N → N 6 9 = 0 → (∀ x, x < 16 → N 68 x = 0) → (∀ x w, x < i → w < 9 → N (52 + x) w = 0) → ∃ N', p_X5_poll_15 nn (nI i) N = p_X5_poll_39 5000 (nI 0) N' ∧ zPol M N' (fun _ => 0) (fun _ _ => 0) 0 := by
  intro k
  induction k with
  | zero =>
    intro nn i N e1 e2 a b d e
    obtain ⟨m, rfl⟩ := zfuel e2
    refine ⟨N, ?_, a, b, d, fun x w hx hw => e x w (by omega) hw⟩
    rw [p_X5_poll_15, show (16 : Int32) = nI 16 from rfl, if_pos (by rw [zLe (by omega) (by omega)]; omega), show nI 0 = (0 : Int32) from rfl]
  | succ k ih =>
    intro nn i N e1 e2 a b d e
    obtain ⟨m, rfl⟩ := zfuel e2
    have q1 := zix (m := i) (n := 16) (by omega) (by omega)
    rw [p_X5_poll_15, if_neg (by rw [show (16 : Int32) = nI 16 from rfl, zLe (by omega) (by omega)]; omega)]
    simp only [q1, if_false]
    rw [zcl' (by omega), j_fillA (by omega)]
    simp only [Option.bind_some]
    rw [nI_1]
    refine ih m (i + 1) _ (by omega) (by omega) (a.fil (fun b => by simp [zscr]; omega)) ?_ ?_ ?_
    · rw [zfil_ne (by omega)]; exact b
    · intro x hx
      rw [zfil_ne (by omega)]
      exact d x hx
    · intro x w hx hw
      by_cases hh : x = i
      · rw [hh, zfil_in (by omega)]
      · rw [zfil_ne (by omega)]
        exact e x w (by omega) hw
def zPs (M : zM) (ns n c x : Nat) : Nat := zsg (fun s => zsg (fun j => zhP M n c s j x) (zsz M n c s)) ns
def zQs (M : zM) (ns n c x w : Nat) : Nat := zsg (fun s => zsg (fun j => zhQ M n c s j x w) (zsz M n c s)) ns
def zLs (M : zM) (ns n c : Nat) : Nat := zsg (fun s => zsg (fun j => zhL M n c s j) (zsz M n c s)) ns
theorem s_poll {M : zM} {ns n c : Nat} (v : zSh M ns n c) : ∃ N, p_X5_poll M = some N ∧ zPol M N (zPs M ns n c) (zQs M ns n c) (zLs M ns n c) := by
  have e : p_X5_poll M = p_X5_poll_15 5000 (nI 0) (zfil (zset M 6 9 0) 68 0 16 (fun _ => 0)) := by
    rw [p_X5_poll, j_fillA (by omega), Option.bind_some, show nI 0 = (0 : Int32) from rfl]
  obtain ⟨N', w1, w2⟩ := s_poll15 v 16 5000 0 (zfil (zset M 6 9 0) 68 0 16 (fun _ => 0)) (by omega) (by omega) ((zsame.rf.set rfl).fil (fun b => by simp [zscr])) (by rw [zfil_ne (by omega), zs_self]) (fun x hx => by rw [zfil_in (by omega)]) (fun x w hx _ => by omega)
  obtain ⟨N, w3, w4⟩ := s_poll39 v ns 5000 0 N' _ _ _ (by omega) (by have := v.2.2.1; omega) w2
  refine ⟨N, e.trans (w1.trans w3), zPol_c w4 (fun x _ => ?_) (fun x w _ _ => ?_) ?_⟩
  · rw [zPs]
    simp only [Nat.zero_add]
  · rw [zQs]
    simp only [Nat.zero_add]
  · rw [zLs]
    simp only [Nat.zero_add]
