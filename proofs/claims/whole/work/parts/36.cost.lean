/-! ===== votes and costs: sums over cells, sorted by notes ===== -/
theorem zsg_app (f : Nat → Nat) (a : Nat) : ∀ b, zsg f (a + b) = zsg f a + zsg (fun l => f (a + l)) b
  | 0 => rfl
  | b + 1 => by rw [← Nat.add_assoc, zsg, zsg_app f a b, zsg, Nat.add_assoc]
theorem zsg_flat (f g : Nat → Nat) : ∀ n, zsg f (zsg g n) = zsg (fun k => zsg (fun l => f (zsg g k + l)) (g k)) n
  | 0 => rfl
  | n + 1 => by rw [zsg, zsg_app, zsg_flat f g n, zsg]
theorem zsg_if (P : Prop) [Decidable P] (f : Nat → Nat) (n : Nat) : zsg (fun l => if P then f l else 0) n = if P then zsg f n else 0 := by
  by_cases h : P
  · simp [h]
  · simp only [h, if_false]
    exact zsg_zero (fun _ _ => rfl)
theorem zsg_pick {f : Nat → Nat} {x : Nat} : ∀ {n : Nat}, x < n → zsg (fun k => if k = x then f k else 0) n = f x
  | 0, h => by omega
  | n + 1, h => by
    rw [zsg]
    by_cases e : n = x
    · subst e
      rw [if_pos rfl, zsg_zero (fun i hi => by rw [if_neg (by omega)])]
      omega
    · rw [if_neg e, zsg_pick (n := n) (by omega)]
      rfl
def zpd (n x : Nat) : Nat := if x = 0 then n - 1 else x - 1
theorem zpd_lt {n x : Nat} (h : x < n) : zpd n x < n := by
  unfold zpd
  split <;> omega
theorem zpd_iff {n x k : Nat} (h : x < n) (hk : k < n) : ((k + 1) % n = x) = (k = zpd n x) := by
  rw [zmod1 hk, zpd, eq_iff_iff]
  split <;> split <;> omega
/-- a cell's faults: at its own note, at the next one, fixed ones -/
abbrev zti (M : zM) (c s k l : Nat) : Int32 := ztd M s (zsg (zcs M c s) k + l)
def zwa (M : zM) (c s k l a : Nat) : Nat := if zti M c s k l = -1 then 0 else if zpa M (zru M s) c k l = 9 then (if nI a = zti M c s k l then 0 else 1) else 0
def zwb (M : zM) (c s k l b : Nat) : Nat := if zti M c s k l = -1 then 0 else if zpa M (zru M s) c k l = 10 then (if nI b = zti M c s k l then 0 else 1) else 0
def zwg (M : zM) (c s k l : Nat) : Nat := if zti M c s k l = -1 then 0 else if zpa M (zru M s) c k l = 9 then 0 else if zpa M (zru M s) c k l = 10 then 0 else if nI (zpa M (zru M s) c k l) = zti M c s k l then 0 else 1
def zwr (M : zM) (c s k l a b : Nat) : Nat := if zti M c s k l = -1 then 0 else if (if zpa M (zru M s) c k l = 9 then nI a else if zpa M (zru M s) c k l = 10 then nI b else nI (zpa M (zru M s) c k l)) = zti M c s k l then 0 else 1
theorem zwr_eq (M : zM) (c s k l a b : Nat) : zwr M c s k l a b = zwa M c s k l a + zwb M c s k l b + zwg M c s k l := by
  unfold zwr zwa zwb zwg
  by_cases h1 : zti M c s k l = -1
  · simp [h1]
  · by_cases h2 : zpa M (zru M s) c k l = 9
    · simp [h1, h2]
    · by_cases h3 : zpa M (zru M s) c k l = 10
      · simp [h1, h3]
      · simp [h1, h2, h3]
def zA0 (M : zM) (ns c k a : Nat) : Nat := zsg (fun s => zsg (fun l => zwa M c s k l a) (zcs M c s k)) ns
def zB' (M : zM) (ns c k b : Nat) : Nat := zsg (fun s => zsg (fun l => zwb M c s k l b) (zcs M c s k)) ns
def zG (M : zM) (ns c k : Nat) : Nat := zsg (fun s => zsg (fun l => zwg M c s k l) (zcs M c s k)) ns
def zF' (M : zM) (ns c k a b : Nat) : Nat := zsg (fun s => zsg (fun l => zwr M c s k l a b) (zcs M c s k)) ns
theorem zF'_eq (M : zM) (ns c k a b : Nat) : zF' M ns c k a b = zA0 M ns c k a + zB' M ns c k b + zG M ns c k := by
  rw [zF', zA0, zB', zG, ← zsg_add, ← zsg_add]
  apply zsg_congr
  intro s _
  rw [← zsg_add, ← zsg_add]
  apply zsg_congr
  intro l _
  exact zwr_eq M c s k l a b
theorem zw_le {M : zM} {ns c k : Nat} {f : Nat → Nat → Nat} (v : zvRules M) (w : zvSheets M) (h : ns ≤ 3) (hf : ∀ s l, f s l ≤ 1) : zsg (fun s => zsg (fun l => f s l) (zcs M c s k)) ns ≤ 12 := by
  have h1 : zsg (fun s => zsg (fun l => f s l) (zcs M c s k)) ns ≤ ns * 4 := zsg_le (fun s hs => by
    have h2 : zsg (fun l => f s l) (zcs M c s k) ≤ zcs M c s k * 1 := zsg_le (fun l _ => hf s l)
    have h3 : zcs M c s k ≤ 4 := (zcf_rng v (zru_ok w (show s < 3 by omega)).1).2
    omega)
  omega
theorem zA0_le {M : zM} {ns n c : Nat} (v : zSh M ns n c) (k a : Nat) : zA0 M ns c k a ≤ 12 := zw_le v.1 v.2.1 v.2.2.1 (fun s l => by unfold zwa; split; omega; split; split <;> omega; omega)
theorem zB'_le {M : zM} {ns n c : Nat} (v : zSh M ns n c) (k a : Nat) : zB' M ns c k a ≤ 12 := zw_le v.1 v.2.1 v.2.2.1 (fun s l => by unfold zwb; split; omega; split; split <;> omega; omega)
theorem zG_le {M : zM} {ns n c : Nat} (v : zSh M ns n c) (k : Nat) : zG M ns c k ≤ 12 := zw_le v.1 v.2.1 v.2.2.1 (fun s l => by unfold zwg; split; omega; split; omega; split; omega; split <;> omega)
def zco (M : zM) (ns n c x w : Nat) : Nat := zA0 M ns c x w + zB' M ns c (zpd n x) w
theorem zsrc_at {M : zM} {n c s k l : Nat} (hk : k < n) (hl : l < zcs M c s k) : zsrc M n c s (zsg (zcs M c s) k + l) = zsv M (zru M s) c n k l := by
  have h := zso_at (f := zcs M c s) (l := l) k n 0 hk (by rw [Nat.zero_add]; exact hl)
  have e : zsg (fun t => zcs M c s (0 + t)) k = zsg (zcs M c s) k := zsg_congr (fun t _ => by rw [Nat.zero_add])
  rw [e, Nat.zero_add] at h
  rw [zsrc, h]
def zmi (M : zM) (n c s j x w : Nat) : Nat := if ztd M s j = -1 then 0 else if zsrc M n c s j = 16 + x ∧ ¬ ztd M s j = nI w then 1 else 0
theorem zhP_eq (M : zM) (n c s j x w : Nat) : zhP M n c s j x = zhQ M n c s j x w + zmi M n c s j x w := by
  unfold zhP zhQ zmi
  by_cases h1 : ztd M s j = -1
  · simp [h1]
  · by_cases h2 : zsrc M n c s j = 16 + x
    · by_cases h3 : ztd M s j = nI w
      · simp [h1, h2, h3]
      · simp [h1, h2, h3]
    · simp [h1, h2]
theorem zmi_at {M : zM} {ns n c s k l x w : Nat} (v : zSh M ns n c) (hs : s < ns) (hk : k < n) (hl : l < zcs M c s k) (hx : x < n) : zmi M n c s (zsg (zcs M c s) k + l) x w = (if k = x then zwa M c s k l w else 0) + (if k = zpd n x then zwb M c s k l w else 0) := by
  obtain ⟨v4, v6, h1, h0, h2, h3, -⟩ := v
  have hp := zpa_rng v4 (zru_ok v6 (show s < 3 by omega)).1 hl
  have hpi := zpd_iff hx hk
  rw [zmi, zsrc_at hk hl, zwa, zwb]
  by_cases c1 : zti M c s k l = -1
  · rw [if_pos c1, if_pos c1, if_pos c1]
    simp
  · rw [if_neg c1, if_neg c1, if_neg c1]
    have c0 : ∀ y, (16 + y = 16 + x) = (y = x) := fun y => by rw [eq_iff_iff]; omega
    have c7 : (nI w = zti M c s k l) = (zti M c s k l = nI w) := by rw [eq_iff_iff]; exact eq_comm
    by_cases c2 : zpa M (zru M s) c k l = 9
    · have e : zsv M (zru M s) c n k l = 16 + k := by rw [zsv, if_pos c2]
      have c10 : ¬ zpa M (zru M s) c k l = 10 := by omega
      simp only [e, c0, c2, c10, c7, if_true, if_false]
      by_cases c3 : k = x
      · by_cases c4 : zti M c s k l = nI w <;> simp [c3, c4]
      · simp [c3]
    · by_cases c5 : zpa M (zru M s) c k l = 10
      · have e : zsv M (zru M s) c n k l = 16 + (k + 1) % n := by rw [zsv, if_neg c2, if_pos c5]
        simp only [e, c0, c2, c5, c7, hpi, if_true, if_false]
        by_cases c3 : k = zpd n x
        · by_cases c4 : zti M c s k l = nI w <;> simp [c3, c4]
        · simp [c3]
      · have e : zsv M (zru M s) c n k l = zpa M (zru M s) c k l := by rw [zsv, if_neg c2, if_neg c5]
        have e2 : ¬ (zpa M (zru M s) c k l = 16 + x) := by omega
        simp [e, e2, c2, c5]
theorem zPs_eq {M : zM} {ns n c x w : Nat} (v : zSh M ns n c) (hx : x < n) : zPs M ns n c x = zQs M ns n c x w + zco M ns n c x w := by
  have e1 : zPs M ns n c x = zQs M ns n c x w + zsg (fun s => zsg (fun j => zmi M n c s j x w) (zsz M n c s)) ns := by
    rw [zPs, zQs, ← zsg_add]
    apply zsg_congr
    intro s _
    rw [← zsg_add]
    apply zsg_congr
    intro j _
    exact zhP_eq M n c s j x w
  have e2 : zsg (fun s => zsg (fun j => zmi M n c s j x w) (zsz M n c s)) ns = zsg (fun s => zsg (fun k => (if k = x then zsg (fun l => zwa M c s k l w) (zcs M c s k) else 0) + (if k = zpd n x then zsg (fun l => zwb M c s k l w) (zcs M c s k) else 0)) n) ns := by
    apply zsg_congr
    intro s hs
    rw [zsg_flat]
    apply zsg_congr
    intro k hk
    rw [← zsg_if, ← zsg_if, ← zsg_add]
    apply zsg_congr
    intro l hl
    exact zmi_at v hs hk hl hx
  rw [e1, e2, zco, zA0, zB', ← zsg_add]
  congr 1
  apply zsg_congr
  intro s _
  rw [zsg_add, zsg_pick hx, zsg_pick (zpd_lt hx)]
theorem zLs_eq {M : zM} {ns n c : Nat} (v : zSh M ns n c) : zLs M ns n c = zsg (fun k => zG M ns c k) n := by
  have e2 : zLs M ns n c = zsg (fun s => zsg (fun k => zsg (fun l => zwg M c s k l) (zcs M c s k)) n) ns := by
    rw [zLs]
    apply zsg_congr
    intro s hs
    rw [zsg_flat]
    apply zsg_congr
    intro k hk
    apply zsg_congr
    intro l hl
    have hp := zpa_rng v.1 (zru_ok v.2.1 (show s < 3 by have := v.2.2.1; omega)).1 hl
    rw [zhL, zwg, zsrc_at hk hl, zsv]
    by_cases c1 : zti M c s k l = -1
    · rw [if_pos c1, if_pos c1]
    · rw [if_neg c1, if_neg c1]
      by_cases c2 : zpa M (zru M s) c k l = 9
      · rw [if_pos c2, if_pos c2, if_neg (fun q => by omega)]
      · rw [if_neg c2, if_neg c2]
        by_cases c5 : zpa M (zru M s) c k l = 10
        · rw [if_pos c5, if_pos c5, if_neg (fun q => by omega)]
        · rw [if_neg c5, if_neg c5]
          by_cases c6 : nI (zpa M (zru M s) c k l) = zti M c s k l
          · rw [if_pos c6, if_neg (fun q => q.2 c6)]
          · rw [if_neg c6, if_pos ⟨by omega, c6⟩]
  rw [e2, zsg_swap]
  rfl
