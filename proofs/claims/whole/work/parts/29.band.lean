/-! ===== bands ===== -/
def zsr (f : Nat → Bool) : Nat → Nat → Option Nat
  | 0, _ => none
  | k + 1, i => if f i then some i else zsr f k (i + 1)
theorem zsr_some {f : Nat → Bool} {d : Nat} : ∀ (k i : Nat), i ≤ d → d < i + k → f d = true → (∀ j, i ≤ j → j < d → f j = false) → zsr f k i = some d
  | 0, i, h1, h2, _, _ => by omega
  | k + 1, i, h1, h2, h3, h4 => by
    rw [zsr]
    rcases Nat.eq_or_lt_of_le h1 with rfl | h
    · rw [if_pos h3]
    · rw [h4 i (Nat.le_refl i) h, if_neg (by decide)]
      exact zsr_some k (i + 1) h (by omega) h3 (fun j a b => h4 j (by omega) b)
theorem zsr_none {f : Nat → Bool} : ∀ (k i : Nat), (∀ j, i ≤ j → j < i + k → f j = false) → zsr f k i = none
  | 0, i, _ => rfl
  | k + 1, i, h => by
    rw [zsr, h i (Nat.le_refl i) (by omega), if_neg (by decide)]
    exact zsr_none k (i + 1) (fun j a b => h j (by omega) (by omega))
theorem zsr_lt {f : Nat → Bool} {d : Nat} : ∀ (k i : Nat), zsr f k i = some d → d < i + k
  | 0, i, h => by simp [zsr] at h
  | k + 1, i, h => by
    rw [zsr] at h
    split at h
    · cases h
      omega
    · have := zsr_lt k (i + 1) h
      omega
def eR : Option Nat → Int32
  | none => -1
  | some d => nI d
/-- the fewest minutes to reach low -/
def zR (M : zM) (t p : Nat) (low : Int) : Option Nat := zsr (fun d => decide (low ≤ zpit M p d)) (t - zcomes M p + 1) 0
theorem m_long3 {M : zM} {t p : Nat} {low : Int} (v : zvPipes M) (hp : p < 6) (ht : t ≤ 150) (hc : zcomes M p ≤ t) (hl : -1000 ≤ low ∧ low ≤ 1000) : ∀ (k nn d : Nat), d + k = t - zcomes M p + 1 → k < nn → p_X9_longFor_3 (nI p) (nI t) (iI low) M nn (nI d) = some (eR (zsr (fun d => decide (low ≤ zpit M p d)) k d)) := by
  obtain ⟨-, -, c1, -, -, -, -, -, e5, e6, -⟩ := zpip v hp
  have q1 := zix (m := p) (n := 6) hp (by omega)
  intro k
  induction k with
  | zero =>
    intro nn d h1 h2
    obtain ⟨n, rfl⟩ := zfuel h2
    rw [p_X9_longFor_3]
    simp only [q1, if_false]
    rw [zcl' (by omega), e5, pk_sub hc, if_pos (by rw [zLt (by omega) (by omega)]; omega)]
    rfl
  | succ k ih =>
    intro nn d h1 h2
    obtain ⟨n, rfl⟩ := zfuel h2
    have hr := zpit_rng v hp d
    rw [p_X9_longFor_3]
    simp only [q1, if_false]
    rw [zcl' (by omega), e5, pk_sub hc, if_neg (by rw [zLt (by omega) (by omega)]; omega), m_pitchFor v hp (by omega)]
    simp only [Option.bind_some]
    simp only [iI_lt (show -2147483648 ≤ zpit M p d by omega) (by omega) (show -2147483648 ≤ low by omega) (by omega)]
    by_cases h : zpit M p d < low
    · rw [if_pos h, nI_1, ih n (d + 1) (by omega) (by omega), zsr, if_neg (by simp; omega)]
    · rw [if_neg h, zsr, if_pos (by simp; omega)]
      rfl
theorem m_longFor {M : zM} {t p : Nat} {low : Int} (v : zvPipes M) (hp : p < 6) (ht : t ≤ 150) (hc : zcomes M p ≤ t) (hl : -1000 ≤ low ∧ low ≤ 1000) : p_X9_longFor (nI p) (nI t) (iI low) M = some (eR (zR M t p low)) :=
  m_long3 v hp ht hc hl (t - zcomes M p + 1) 5000 0 (by omega) (by omega)
theorem s_longestBlown {M : zM} {t p : Nat} (v : zvPipes M) (hp : p < 6) (ht : t ≤ 150) (hc : zcomes M p ≤ t) : p_X3_longestBlown (nI p) (nI t) M = some (nI (if zwarm M p < t - zcomes M p then zwarm M p else t - zcomes M p)) := by
  obtain ⟨-, w1, c1, -, -, -, -, e4, e5, e6, -⟩ := zpip v hp
  have q1 := zix (m := p) (n := 6) hp (by omega)
  rw [p_X3_longestBlown]
  simp only [q1, if_false]
  rw [zcl' (by omega), e4, e6, pk_sub hc]
  simp only [zLt (show zwarm M p < 2 ^ 31 by omega) (show t - zcomes M p < 2 ^ 31 by omega)]
  split <;> rfl
theorem s_minutes {M : zM} {t p : Nat} {low : Int} (v : zvPipes M) (hp : p < 6) (ht : t ≤ 150) (hc : zcomes M p ≤ t) (hl : -1000 ≤ low ∧ low ≤ 1000) : p_X3_minutesToReach (nI p) (iI low) (nI t) M = some (eR (zR M t p low)) := by
  obtain ⟨r1, w1, c1, g1, -, e2, -, e4, e5, e6, -⟩ := zpip v hp
  have q1 := zix (m := p) (n := 6) hp (by omega)
  rw [p_X3_minutesToReach, s_dampRise v hp, s_longestBlown v hp ht hc]
  simp only [q1, if_false, Option.bind_some]
  rw [zcl' (by omega), e2]
  simp only [iI_lt (show -2147483648 ≤ zreed M p by omega) (by omega) (show -2147483648 ≤ low by omega) (by omega)]
  have hpit : ∀ d, zpit M p d = zreed M p + ((zeach M p * (if d < zwarm M p then d else zwarm M p) : Nat) : Int) := fun d => by rw [zpit, Int.natCast_mul]
  by_cases h : zreed M p < low
  · rw [if_pos h]
    by_cases h0 : zeach M p = 0
    · have hz : nI (zeach M p) = 0 := by rw [h0]; rfl
      rw [if_pos hz]
      have : zR M t p low = none := zsr_none _ _ (fun j _ _ => by
        rw [decide_eq_false_iff_not, hpit, h0]
        simp
        omega)
      rw [this]
      rfl
    · have hz : ¬ nI (zeach M p) = 0 := nI_ne0 (by omega) (by omega)
      obtain ⟨δ, hδ⟩ : ∃ δ : Nat, low - zreed M p = δ := ⟨(low - zreed M p).toNat, by omega⟩
      have e : iI low - iI (zreed M p) + nI (zeach M p) - (1 : Int32) = nI (δ + zeach M p - 1) := by
        rw [iI_sub, hδ, ← iI_nat, nI_add, show (1 : Int32) = nI 1 from rfl, pk_sub (by omega)]
      rw [if_neg hz, if_neg hz, e, pk_div (by omega) (by omega) (by omega)]
      have hcl : ∀ m, (δ + zeach M p - 1) / zeach M p ≤ m ↔ δ ≤ zeach M p * m := by
        intro m
        rw [Nat.div_le_iff_le_mul_add_pred (by omega)]
        omega
      have hq : (δ + zeach M p - 1) / zeach M p ≤ δ + zeach M p - 1 := Nat.div_le_self _ _
      have hlow : ∀ d, (low ≤ zpit M p d) ↔ (δ + zeach M p - 1) / zeach M p ≤ (if d < zwarm M p then d else zwarm M p) := by
        intro d
        rw [hcl, hpit]
        omega
      generalize (δ + zeach M p - 1) / zeach M p = c at hq hlow ⊢
      simp only [zLt (show (if zwarm M p < t - zcomes M p then zwarm M p else t - zcomes M p) < 2 ^ 31 by split <;> omega) (show c < 2 ^ 31 by omega)]
      by_cases hb : (if zwarm M p < t - zcomes M p then zwarm M p else t - zcomes M p) < c
      · rw [if_pos hb]
        have : zR M t p low = none := zsr_none _ _ (fun j _ hj => by
          rw [decide_eq_false_iff_not, hlow]
          split at hb <;> split <;> omega)
        rw [this]
        rfl
      · rw [if_neg hb]
        have : zR M t p low = some c := zsr_some _ _ (by omega) (by split at hb <;> omega) (by
          rw [decide_eq_true_eq, hlow]
          split at hb <;> split <;> omega) (fun j _ hj => by
          rw [decide_eq_false_iff_not, hlow]
          split <;> omega)
        rw [this]
        rfl
  · rw [if_neg h]
    have : zR M t p low = some 0 := zsr_some _ _ (by omega) (by omega) (by
      rw [decide_eq_true_eq, hpit]
      omega) (fun j _ hj => by omega)
    rw [this]
    rfl
/-- the greatest pitch of the set, where the least is to be low -/
def zsp (M : zM) (t : Nat) (x : Int32) (low : Int) : Nat → Nat → Int → Option Int
  | 0, _, h => some h
  | k + 1, p, h => if bt x p then (match zR M t p low with
    | none => none
    | some d => zsp M t x low k (p + 1) (if h < zpit M p d then zpit M p d else h)) else zsp M t x low k (p + 1) h
theorem zsp_rng {M : zM} {t : Nat} {x : Int32} {low : Int} (v : zvPipes M) : ∀ (k p : Nat) (h h' : Int), p + k ≤ 6 → zsp M t x low k p h = some h' → h ≤ h' ∧ (h ≤ 639 → h' ≤ 639)
  | 0, p, h, h', _, e => by
    simp [zsp] at e
    subst e
    exact ⟨Int.le_refl _, id⟩
  | k + 1, p, h, h', hp, e => by
    rw [zsp] at e
    split at e
    · split at e
      · cases e
      · next d hd =>
        have hr := zpit_rng v (p := p) (by omega) d
        obtain ⟨a, b⟩ := zsp_rng v k (p + 1) _ h' (by omega) e
        constructor
        · refine Int.le_trans ?_ a
          split <;> omega
        · intro hh
          apply b
          split <;> omega
    · exact zsp_rng v k (p + 1) h h' (by omega) e
def eS (low : Int) : Option Int → Int32
  | none => -1
  | some h => iI (h - low)
/-- those of the set have come -/
def zcame (M : zM) (t : Nat) (x : Int32) : Prop := ∀ p, p < 6 → bt x p = true → zcomes M p ≤ t
theorem zbit1 {x : Int32} {p : Nat} (hp : p < 32) : ((x >>> (nI p &&& 31)) &&& (1 : Int32) = (1 : Int32)) = (bt x p = true) := by
  rw [zhb hp]
  by_cases h : bt x p = true <;> simp [h]
theorem zbit0 {x : Int32} {p : Nat} (hp : p < 32) : ((x >>> (nI p &&& 31)) &&& (1 : Int32) = 0) = (bt x p = false) := by
  rw [zhb hp]
  by_cases h : bt x p = true <;> simp [h]
theorem m_spread6 {M : zM} {t : Nat} {x : Int32} {low : Int} (v : zvPipes M) (ht : t ≤ 150) (hc : zcame M t x) (hl : -99 ≤ low ∧ low ≤ 639) : ∀ (k nn p : Nat) (h : Int), p + k = 6 → k < nn → -99 ≤ h → h ≤ 639 → p_X9_spreadFor_6 x (nI t) (iI low) M nn (iI h) (nI p) = some (eS low (zsp M t x low k p h)) := by
  intro k
  induction k with
  | zero =>
    intro nn p h h1 h2 h3 h4
    obtain ⟨n, rfl⟩ := zfuel h2
    rw [p_X9_spreadFor_6, show (6 : Int32) = nI 6 from rfl, if_pos (by rw [zLe (by omega) (by omega)]; omega), iI_sub]
    rfl
  | succ k ih =>
    intro nn p h h1 h2 h3 h4
    obtain ⟨n, rfl⟩ := zfuel h2
    rw [p_X9_spreadFor_6, show (6 : Int32) = nI 6 from rfl, if_neg (by rw [zLe (by omega) (by omega)]; omega), zsp]
    simp only [zbit1 (show p < 32 by omega)]
    by_cases hb : bt x p = true
    · rw [if_pos hb, if_pos hb, m_longFor v (by omega) ht (hc p (by omega) hb) (by omega)]
      simp only [Option.bind_some]
      cases hR : zR M t p low with
      | none =>
        rw [if_pos (show eR none = -1 from rfl)]
        rfl
      | some d =>
        have hd := zsr_lt _ _ hR
        have hr := zpit_rng v (p := p) (by omega) d
        rw [eR, if_neg (by rw [zm1 (by omega)]; exact id), m_pitchFor v (by omega) (by omega)]
        simp only [Option.bind_some]
        simp only [iI_le (show -2147483648 ≤ zpit M p d by omega) (by omega) (show -2147483648 ≤ h by omega) (by omega)]
        rw [nI_1]
        by_cases h5 : zpit M p d ≤ h
        · rw [if_pos h5, ih n (p + 1) h (by omega) (by omega) h3 h4, if_neg (by omega)]
        · rw [if_neg h5, ih n (p + 1) _ (by omega) (by omega) (by omega) (by omega), if_pos (by omega)]
    · rw [if_neg hb, if_neg hb, nI_1, ih n (p + 1) h (by omega) (by omega) h3 h4]
theorem m_spreadFor {M : zM} {t : Nat} {x : Int32} {low : Int} (v : zvPipes M) (ht : t ≤ 150) (hc : zcame M t x) (hl : -99 ≤ low ∧ low ≤ 639) : p_X9_spreadFor x (nI t) (iI low) M = some (eS low (zsp M t x low 6 0 low)) :=
  m_spread6 v ht hc hl 6 5000 0 low (by omega) (by omega) hl.1 hl.2
/-- the best so far: spread and least pitch -/
def zup2 (B : Option (Int × Int)) (sp low : Int) : Option (Int × Int) :=
  match B with
  | none => some (sp, low)
  | some q => if sp < q.1 ∨ (sp = q.1 ∧ low < q.2) then some (sp, low) else some q
def zst (M : zM) (t : Nat) (x : Int32) (B : Option (Int × Int)) (low : Int) : Option (Int × Int) :=
  match zsp M t x low 6 0 low with
  | none => B
  | some h => zup2 B (h - low) low
def zrB : Option (Int × Int) → Prop
  | none => True
  | some q => (0 ≤ q.1 ∧ q.1 ≤ 738) ∧ -99 ≤ q.2 ∧ q.2 ≤ 639
theorem zst_rng {M : zM} {t : Nat} {x : Int32} {B : Option (Int × Int)} {low : Int} (v : zvPipes M) (hB : zrB B) (hl : -99 ≤ low ∧ low ≤ 639) : zrB (zst M t x B low) := by
  unfold zst
  cases e : zsp M t x low 6 0 low with
  | none => exact hB
  | some h =>
    obtain ⟨a, b⟩ := zsp_rng v 6 0 low h (by omega) e
    have := b hl.2
    cases B with
    | none => exact ⟨⟨by show 0 ≤ h - low; omega, by show h - low ≤ 738; omega⟩, hl⟩
    | some q =>
      simp only [zup2]
      split
      · exact ⟨⟨by show 0 ≤ h - low; omega, by show h - low ≤ 738; omega⟩, hl⟩
      · exact hB
theorem zup2_again (B : Option (Int × Int)) (sp low : Int) : zup2 (zup2 B sp low) sp low = zup2 B sp low := by
  have key : ∀ q : Int × Int, (¬ (sp < q.1 ∨ (sp = q.1 ∧ low < q.2))) → zup2 (some q) sp low = some q := fun q h => if_neg h
  have k2 : zup2 (some (sp, low)) sp low = some (sp, low) := key (sp, low) (by
    show ¬ (sp < sp ∨ (sp = sp ∧ low < low))
    omega)
  cases B with
  | none => exact k2
  | some q =>
    by_cases h : sp < q.1 ∨ (sp = q.1 ∧ low < q.2)
    · have e : zup2 (some q) sp low = some (sp, low) := if_pos h
      rw [e]
      exact k2
    · rw [key q h, key q h]
theorem zst_again (M : zM) (t : Nat) (x : Int32) (B : Option (Int × Int)) (low : Int) : zst M t x (zst M t x B low) low = zst M t x B low := by
  unfold zst
  cases zsp M t x low 6 0 low with
  | none => rfl
  | some h => exact zup2_again B (h - low) low
def zin1 (M : zM) (t : Nat) (x : Int32) (p : Nat) : Nat → Nat → Option (Int × Int) → Option (Int × Int)
  | 0, _, B => B
  | k + 1, d, B => zin1 M t x p k (d + 1) (zst M t x B (zpit M p d))
theorem zin1_rng {M : zM} {t : Nat} {x : Int32} {p : Nat} (v : zvPipes M) (hp : p < 6) : ∀ (k d : Nat) (B : Option (Int × Int)), zrB B → zrB (zin1 M t x p k d B)
  | 0, _, B, h => h
  | k + 1, d, B, h => zin1_rng v hp k (d + 1) _ (zst_rng v h (zpit_rng v hp d))
/-- beyond warm nothing changes -/
theorem zin1_warm {M : zM} {t : Nat} {x : Int32} {p : Nat} : ∀ (k d : Nat) (B : Option (Int × Int)), zwarm M p ≤ d → zst M t x B (zpit M p (zwarm M p)) = B → zin1 M t x p k d B = B
  | 0, _, B, _, _ => rfl
  | k + 1, d, B, h, hB => by
    have e : zpit M p d = zpit M p (zwarm M p) := by
      unfold zpit
      rw [if_neg (by omega), if_neg (by omega)]
    rw [zin1, e, hB]
    exact zin1_warm k (d + 1) B (by omega) hB
theorem zin1_cut {M : zM} {t : Nat} {x : Int32} {p D : Nat} : ∀ (k d : Nat) (B : Option (Int × Int)), d + k = D + 1 → d ≤ zwarm M p → zin1 M t x p ((if zwarm M p < D then zwarm M p else D) + 1 - d) d B = zin1 M t x p k d B
  | 0, d, B, h1, h2 => by
    have : (if zwarm M p < D then zwarm M p else D) + 1 - d = 0 := by split <;> omega
    rw [this]
  | k + 1, d, B, h1, h2 => by
    rcases Nat.eq_or_lt_of_le h2 with h | h
    · have e : (if zwarm M p < D then zwarm M p else D) + 1 - d = 1 := by split <;> omega
      rw [e, zin1, zin1, zin1, h]
      rw [zin1_warm k (zwarm M p + 1) _ (by omega) (zst_again M t x B _)]
    · have e : (if zwarm M p < D then zwarm M p else D) + 1 - d = (if zwarm M p < D then zwarm M p else D) + 1 - (d + 1) + 1 := by split <;> omega
      rw [e, zin1, zin1]
      exact zin1_cut k (d + 1) _ (by omega) (by omega)
def zou (M : zM) (t : Nat) (x : Int32) : Nat → Nat → Option (Int × Int) → Option (Int × Int)
  | 0, _, B => B
  | k + 1, p, B => zou M t x k (p + 1) (if bt x p then zin1 M t x p (t - zcomes M p + 1) 0 B else B)
theorem zou_rng {M : zM} {t : Nat} {x : Int32} (v : zvPipes M) : ∀ (k p : Nat) (B : Option (Int × Int)), p + k ≤ 6 → zrB B → zrB (zou M t x k p B)
  | 0, _, B, _, h => h
  | k + 1, p, B, hp, h => by
    rw [zou]
    apply zou_rng v k (p + 1) _ (by omega)
    split
    · exact zin1_rng v (by omega) _ _ _ h
    · exact h
/-! what scribbling leaves alone -/
theorem zvPipes_same {M N : zM} (h : zsame M N) (v : zvPipes M) : zvPipes N := by
  refine zvPipes_c (fun a b e => h a b ?_) v
  simp only [zdPipes, Bool.or_eq_true, Bool.and_eq_true, beq_iff_eq] at e
  rcases e with (((((((((((rfl | rfl) | rfl) | rfl) | rfl) | rfl) | rfl) | rfl) | rfl) | rfl) | ⟨rfl, rfl⟩) | ⟨rfl, rfl⟩) <;> first | rfl | simp [zscr]
theorem zpit_same {M N : zM} (h : zsame M N) : zpit N = zpit M ∧ zcomes N = zcomes M ∧ zwarm N = zwarm M := by
  have g : ∀ a, (∀ b, zscr a b = false) → N a = M a := fun a ha => funext (fun b => h a b (ha b))
  have e94 := g 94 (fun b => by simp [zscr])
  have e95 := g 95 (fun b => by simp [zscr])
  have e96 := g 96 (fun b => by simp [zscr])
  have e97 := g 97 (fun b => by simp [zscr])
  have e30 := h 9 30 rfl
  refine ⟨?_, ?_, ?_⟩
  · funext p d
    unfold zpit zreed zeach zwarm
    rw [e94, e95, e96, e30]
  · funext p
    unfold zcomes
    rw [e97]
  · funext p
    unfold zwarm
    rw [e96]
theorem zR_same {M N : zM} (h : zsame M N) (t p : Nat) (low : Int) : zR N t p low = zR M t p low := by
  obtain ⟨a, b, -⟩ := zpit_same h
  unfold zR
  rw [a, b]
theorem zsp_same {M N : zM} (h : zsame M N) (t : Nat) (x : Int32) (low : Int) : ∀ (k p : Nat) (q : Int), zsp N t x low k p q = zsp M t x low k p q
  | 0, _, _ => rfl
  | k + 1, p, q => by
    rw [zsp, zsp, zR_same h, (zpit_same h).1, zsp_same h t x low k (p + 1) q]
    split
    · cases zR M t p low with
      | none => rfl
      | some d => exact zsp_same h t x low k (p + 1) _
    · rfl
theorem zst_same {M N : zM} (h : zsame M N) (t : Nat) (x : Int32) (B : Option (Int × Int)) (low : Int) : zst N t x B low = zst M t x B low := by
  unfold zst
  rw [zsp_same h]
theorem zin1_same {M N : zM} (h : zsame M N) (t : Nat) (x : Int32) (p : Nat) : ∀ (k d : Nat) (B : Option (Int × Int)), zin1 N t x p k d B = zin1 M t x p k d B
  | 0, _, _ => rfl
  | k + 1, d, B => by
    rw [zin1, zin1, zst_same h, (zpit_same h).1]
    exact zin1_same h t x p k (d + 1) _
theorem zou_same {M N : zM} (h : zsame M N) (t : Nat) (x : Int32) : ∀ (k p : Nat) (B : Option (Int × Int)), zou N t x k p B = zou M t x k p B
  | 0, _, _ => rfl
  | k + 1, p, B => by
    rw [zou, zou, zin1_same h, (zpit_same h).2.1]
    exact zou_same h t x k (p + 1) _
theorem zcame_same {M N : zM} (h : zsame M N) {t : Nat} {x : Int32} (hc : zcame M t x) : zcame N t x := fun p hp hb => by rw [(zpit_same h).2.1]; exact hc p hp hb
/-! the class's way -/
def eC (N : zM) : Option (Int × Int) → Prop
  | none => N 7 5 = iI 1000000 ∧ N 7 6 = iI 0
  | some q => N 7 5 = iI q.1 ∧ N 7 6 = iI q.2
theorem s_try6 {M : zM} {t : Nat} {x : Int32} {low : Int} {B : Option (Int × Int)} (v : zvPipes M) (ht : t ≤ 150) (hc : zcame M t x) (hl : -99 ≤ low ∧ low ≤ 639) (hB : zrB B) (eB : eC M B) : ∀ (k nn p : Nat) (h : Int), p + k = 6 → k < nn → low ≤ h → h ≤ 639 → ∃ N, p_X3_tryLow_6 x (nI t) (iI low) M nn (iI h) (nI p) = some N ∧ zsame M N ∧ eC N (match zsp M t x low k p h with | none => B | some h' => zup2 B (h' - low) low) := by
  intro k
  induction k with
  | zero =>
    intro nn p h h1 h2 h3 h4
    obtain ⟨n, rfl⟩ := zfuel h2
    rw [p_X3_tryLow_6, show (6 : Int32) = nI 6 from rfl, if_pos (by rw [zLe (by omega) (by omega)]; omega), iI_sub, zsp]
    have good : ∃ N, p_X3_tryLow_92 (iI low) (iI (h - low)) M = some N ∧ zsame M N ∧ N 7 5 = iI (h - low) ∧ N 7 6 = iI low := by
      refine ⟨zset (zset M 7 5 (iI (h - low))) 7 6 (iI low), rfl, (zsame.rf.set rfl).set rfl, ?_, ?_⟩
      · rw [zs_nj (by decide), zs_self]
      · rw [zs_self]
    cases B with
    | none =>
      rw [eB.1]
      rw [if_pos (by rw [iI_lt (by omega) (by omega) (by omega) (by omega)]; omega)]
      exact good
    | some q =>
      obtain ⟨⟨b1, b2⟩, b3, b4⟩ := hB
      rw [eB.1, eB.2]
      simp only [zup2]
      simp only [iI_lt (show -2147483648 ≤ h - low by omega) (by omega) (show -2147483648 ≤ q.1 by omega) (by omega), iI_eq (show -2147483648 ≤ h - low by omega) (by omega) (show -2147483648 ≤ q.1 by omega) (by omega), iI_le (show -2147483648 ≤ q.2 by omega) (by omega) (show -2147483648 ≤ low by omega) (by omega)]
      by_cases c1 : h - low < q.1
      · rw [if_pos c1, if_pos (Or.inl c1)]
        exact good
      · rw [if_neg c1]
        by_cases c2 : h - low = q.1
        · rw [if_pos c2]
          by_cases c3 : q.2 ≤ low
          · rw [if_pos c3, if_neg (by omega)]
            exact ⟨M, rfl, zsame.rf, eB⟩
          · rw [if_neg c3, if_pos (by omega)]
            exact good
        · rw [if_neg c2, if_neg (by omega)]
          exact ⟨M, rfl, zsame.rf, eB⟩
  | succ k ih =>
    intro nn p h h1 h2 h3 h4
    obtain ⟨n, rfl⟩ := zfuel h2
    rw [p_X3_tryLow_6, show (6 : Int32) = nI 6 from rfl, if_neg (by rw [zLe (by omega) (by omega)]; omega), zsp, s_hasBit (by omega)]
    simp only [Option.bind_some, zq_0]
    by_cases hb : bt x p = true
    · rw [if_neg (by simpa using hb), if_pos hb, s_minutes v (by omega) ht (hc p (by omega) hb) (by omega)]
      simp only [Option.bind_some]
      cases hR : zR M t p low with
      | none =>
        rw [if_pos (show eR none = -1 from rfl)]
        exact ⟨M, rfl, zsame.rf, eB⟩
      | some d =>
        have hd := zsr_lt _ _ hR
        have hr := zpit_rng v (p := p) (by omega) d
        rw [eR, if_neg (by rw [zm1 (by omega)]; exact id), s_pitchAfter v (by omega) (by omega)]
        simp only [Option.bind_some]
        simp only [iI_lt (show -2147483648 ≤ h by omega) (by omega) (show -2147483648 ≤ zpit M p d by omega) (by omega)]
        rw [nI_1]
        by_cases h5 : h < zpit M p d
        · simp only [if_pos h5]
          exact ih n (p + 1) _ (by omega) (by omega) (by omega) (by omega)
        · simp only [if_neg h5]
          exact ih n (p + 1) h (by omega) (by omega) h3 h4
    · rw [if_pos hb, if_neg hb, nI_1]
      exact ih n (p + 1) h (by omega) (by omega) h3 h4
theorem s_tryLow {M : zM} {t : Nat} {x : Int32} {low : Int} {B : Option (Int × Int)} (v : zvPipes M) (ht : t ≤ 150) (hc : zcame M t x) (hl : -99 ≤ low ∧ low ≤ 639) (hB : zrB B) (eB : eC M B) : ∃ N, p_X3_tryLow x (nI t) (iI low) M = some N ∧ zsame M N ∧ eC N (zst M t x B low) :=
  s_try6 v ht hc hl hB eB 6 5000 0 low (by omega) (by omega) (Int.le_refl _) hl.2
theorem s_tune38 {t p b : Nat} {x : Int32} {k13 : Int32 → zM → Option zM} (hp : p < 6) (ht : t ≤ 150) : ∀ (k nn d : Nat) (M : zM) (B : Option (Int × Int)), zvPipes M → zcame M t x → zrB B → eC M B → d + k = b + 1 → b < 1000 → k < nn → ∃ N, p_X3_tuneBand_38 k13 x (nI t) (nI p) (nI b) nn (nI d) M = k13 (nI (p + 1)) N ∧ zsame M N ∧ eC N (zin1 M t x p k d B) := by
  intro k
  induction k with
  | zero =>
    intro nn d M B v hc hB eB h1 hb h2
    obtain ⟨n, rfl⟩ := zfuel h2
    rw [p_X3_tuneBand_38, if_pos (by rw [zLt (by omega) (by omega)]; omega), nI_1]
    exact ⟨M, rfl, zsame.rf, eB⟩
  | succ k ih =>
    intro nn d M B v hc hB eB h1 hb h2
    obtain ⟨n, rfl⟩ := zfuel h2
    have hr := zpit_rng v hp d
    rw [p_X3_tuneBand_38, if_neg (by rw [zLt (by omega) (by omega)]; omega), s_pitchAfter v hp (by omega)]
    simp only [Option.bind_some]
    obtain ⟨N, a1, a2, a3⟩ := s_tryLow v ht hc hr hB eB
    rw [a1]
    simp only [Option.bind_some]
    rw [nI_1]
    obtain ⟨N2, b1, b2, b3⟩ := ih n (d + 1) N _ (zvPipes_same a2 v) (zcame_same a2 hc) (zst_rng v hB hr) a3 (by omega) hb (by omega)
    refine ⟨N2, b1, a2.tr b2, ?_⟩
    rw [zin1, ← zin1_same a2]
    exact b3
theorem s_tune13 {t : Nat} {x : Int32} (ht : t ≤ 150) : ∀ (k nn p : Nat) (M : zM) (B : Option (Int × Int)), zvPipes M → zcame M t x → zrB B → eC M B → p + k = 6 → k < nn → ∃ N, p_X3_tuneBand_13 x (nI t) nn (nI p) M = some N ∧ zsame M N ∧ eC N (zou M t x k p B) := by
  intro k
  induction k with
  | zero =>
    intro nn p M B v hc hB eB h1 h2
    obtain ⟨n, rfl⟩ := zfuel h2
    rw [p_X3_tuneBand_13, show (6 : Int32) = nI 6 from rfl, if_pos (by rw [zLe (by omega) (by omega)]; omega)]
    exact ⟨M, rfl, zsame.rf, eB⟩
  | succ k ih =>
    intro nn p M B v hc hB eB h1 h2
    obtain ⟨n, rfl⟩ := zfuel h2
    rw [p_X3_tuneBand_13, show (6 : Int32) = nI 6 from rfl, if_neg (by rw [zLe (by omega) (by omega)]; omega), s_hasBit (by omega)]
    simp only [Option.bind_some, zq_0]
    by_cases hb : bt x p = true
    · rw [if_neg (by simpa using hb), s_longestBlown v (by omega) ht (hc p (by omega) hb)]
      simp only [Option.bind_some]
      obtain ⟨hw1, hw2⟩ := (zpip v (p := p) (by omega)).2.1
      obtain ⟨N, a1, a2, a3⟩ := s_tune38 (p := p) (b := if zwarm M p < t - zcomes M p then zwarm M p else t - zcomes M p) (k13 := p_X3_tuneBand_13 x (nI t) n) (by omega) ht ((if zwarm M p < t - zcomes M p then zwarm M p else t - zcomes M p) + 1) 5000 0 M B v hc hB eB (by omega) (by split <;> omega) (by split <;> omega)
      rw [show nI 0 = 0 from rfl] at a1
      rw [a1]
      have hcut := zin1_cut (M := M) (t := t) (x := x) (p := p) (D := t - zcomes M p) (t - zcomes M p + 1) 0 B (by omega) (by omega)
      rw [Nat.sub_zero] at hcut
      rw [hcut] at a3
      obtain ⟨N2, b1, b2, b3⟩ := ih n (p + 1) N _ (zvPipes_same a2 v) (zcame_same a2 hc) (zin1_rng v (by omega) _ _ _ hB) a3 (by omega) (by omega)
      refine ⟨N2, b1, a2.tr b2, ?_⟩
      rw [zou, if_pos hb, ← zou_same a2]
      exact b3
    · rw [if_pos hb, nI_1]
      obtain ⟨N2, b1, b2, b3⟩ := ih n (p + 1) M B v hc hB eB (by omega) (by omega)
      refine ⟨N2, b1, b2, ?_⟩
      rw [zou, if_neg hb]
      exact b3
theorem s_tuneBand {M : zM} {t : Nat} {x : Int32} (ht : t ≤ 150) (v : zvPipes M) (hc : zcame M t x) : ∃ N, p_X3_tuneBand x (nI t) M = some N ∧ zsame M N ∧ eC N (zou M t x 6 0 none) := by
  have s0 : zsame M (zset (zset M 7 5 (iI 1000000)) 7 6 (iI 0)) := (zsame.rf.set rfl).set rfl
  obtain ⟨N, a1, a2, a3⟩ := s_tune13 ht 6 5000 0 (zset (zset M 7 5 (iI 1000000)) 7 6 (iI 0)) none (zvPipes_same s0 v) (zcame_same s0 hc) trivial ⟨by rw [zs_nj (by decide), zs_self], by rw [zs_self]⟩ (by omega) (by omega)
  exact ⟨N, a1, s0.tr a2, by rw [← zou_same s0]; exact a3⟩
/-! the reference's way -/
def eM (N : zM) : Option (Int × Int) → Prop
  | none => N 9 32 = -1
  | some q => N 9 32 = iI q.1 ∧ N 9 31 = iI q.2
theorem iI_m1 {a : Int} (h : 0 ≤ a) (h2 : a < 2147483648) : ¬ iI a = (-1 : Int32) := by
  rw [show (-1 : Int32) = iI (-1) from rfl, iI_eq (by omega) (by omega) (by omega) (by omega)]
  omega
theorem m_find16 {t p : Nat} {x : Int32} {k7 : Int32 → zM → Option zM} (hp : p < 6) (ht : t ≤ 150) (hb : bt x p = true) : ∀ (k nn d : Nat) (M : zM) (B : Option (Int × Int)), zvPipes M → zcame M t x → zrB B → eM M B → d + k = t - zcomes M p + 1 → k < nn → ∃ N, p_X9_findBand_16 k7 x (nI t) (nI p) nn (nI d) M = k7 (nI (p + 1)) N ∧ zsame M N ∧ eM N (zin1 M t x p k d B) := by
  have q1 := zix (m := p) (n := 6) hp (by omega)
  intro k
  induction k with
  | zero =>
    intro nn d M B v hc hB eB h1 h2
    obtain ⟨n, rfl⟩ := zfuel h2
    obtain ⟨-, -, c1, -, -, -, -, -, e5, e6, -⟩ := zpip v hp
    rw [p_X9_findBand_16]
    simp only [q1, if_false]
    rw [zcl' (by omega), e5, pk_sub (hc p hp hb), if_pos (by rw [zLt (by omega) (by omega)]; omega), nI_1]
    exact ⟨M, rfl, zsame.rf, eB⟩
  | succ k ih =>
    intro nn d M B v hc hB eB h1 h2
    obtain ⟨n, rfl⟩ := zfuel h2
    obtain ⟨-, -, c1, -, -, -, -, -, e5, e6, -⟩ := zpip v hp
    have hr := zpit_rng v hp d
    rw [p_X9_findBand_16]
    simp only [q1, if_false, zbit1 (show p < 32 by omega)]
    rw [zcl' (by omega), e5, pk_sub (hc p hp hb), if_neg (by rw [zLt (by omega) (by omega)]; omega), if_pos hb, m_pitchFor v hp (by omega)]
    simp only [Option.bind_some]
    rw [m_spreadFor v ht hc hr]
    simp only [Option.bind_some]
    rw [nI_1, zin1]
    have hrz := zst_rng (t := t) (x := x) v hB hr
    have go : ∀ N, zsame M N → eM N (zst M t x B (zpit M p d)) → ∃ N', p_X9_findBand_16 k7 x (nI t) (nI p) n (nI (d + 1)) N = k7 (nI (p + 1)) N' ∧ zsame M N' ∧ eM N' (zin1 M t x p k (d + 1) (zst M t x B (zpit M p d))) := by
      intro N s e
      obtain ⟨N2, b1, b2, b3⟩ := ih n (d + 1) N _ (zvPipes_same s v) (zcame_same s hc) hrz e (by rw [(zpit_same s).2.1]; omega) (by omega)
      exact ⟨N2, b1, s.tr b2, by rw [← zin1_same s]; exact b3⟩
    cases hsp : zsp M t x (zpit M p d) 6 0 (zpit M p d) with
    | none =>
      have e : zst M t x B (zpit M p d) = B := by unfold zst; rw [hsp]
      rw [eS, if_pos rfl]
      exact go M zsame.rf (by rw [e]; exact eB)
    | some h =>
      obtain ⟨a, b⟩ := zsp_rng v 6 0 _ h (by omega) hsp
      have hh := b hr.2
      have e : zst M t x B (zpit M p d) = zup2 B (h - zpit M p d) (zpit M p d) := by unfold zst; rw [hsp]
      rw [eS, if_neg (iI_m1 (by omega) (by omega)), p_X9_findBand_98]
      have good : zst M t x B (zpit M p d) = some (h - zpit M p d, zpit M p d) → ∃ N', p_X9_findBand_16 k7 x (nI t) (nI p) n (nI d + (1 : Int32)) (zset (zset M 9 32 (iI (h - zpit M p d))) 9 31 (iI (zpit M p d))) = k7 (nI (p + 1)) N' ∧ zsame M N' ∧ eM N' (zin1 M t x p k (d + 1) (zst M t x B (zpit M p d))) := by
        intro e2
        rw [nI_1]
        apply go _ ((zsame.rf.set rfl).set rfl)
        rw [e2]
        exact ⟨by rw [zs_nj (by decide), zs_self], by rw [zs_self]⟩
      cases B with
      | none =>
        rw [show M 9 32 = -1 from eB, if_pos rfl]
        exact good (by rw [e]; rfl)
      | some q =>
        obtain ⟨⟨b1, b2⟩, b3, b4⟩ := hB
        rw [eB.1, eB.2, if_neg (iI_m1 b1 (by omega))]
        simp only [zup2] at e
        simp only [iI_lt (show -2147483648 ≤ h - zpit M p d by omega) (by omega) (show -2147483648 ≤ q.1 by omega) (by omega), iI_eq (show -2147483648 ≤ h - zpit M p d by omega) (by omega) (show -2147483648 ≤ q.1 by omega) (by omega), iI_le (show -2147483648 ≤ q.2 by omega) (by omega) (show -2147483648 ≤ zpit M p d by omega) (by omega)]
        by_cases c1 : h - zpit M p d < q.1
        · rw [if_pos c1]
          exact good (by rw [e, if_pos (Or.inl c1)])
        · rw [if_neg c1]
          by_cases c2 : h - zpit M p d = q.1
          · rw [if_pos c2]
            by_cases c3 : q.2 ≤ zpit M p d
            · rw [if_pos c3]
              exact go M zsame.rf (by rw [e, if_neg (by omega)]; exact eB)
            · rw [if_neg c3]
              exact good (by rw [e, if_pos (by omega)])
          · rw [if_neg c2]
            exact go M zsame.rf (by rw [e, if_neg (by omega)]; exact eB)
theorem m_find7 {t : Nat} {x : Int32} (ht : t ≤ 150) : ∀ (k nn p : Nat) (M : zM) (B : Option (Int × Int)), zvPipes M → zcame M t x → zrB B → eM M B → p + k = 6 → k < nn → ∃ N, p_X9_findBand_7 x (nI t) nn (nI p) M = some N ∧ zsame M N ∧ eM N (zou M t x k p B) := by
  intro k
  induction k with
  | zero =>
    intro nn p M B v hc hB eB h1 h2
    obtain ⟨n, rfl⟩ := zfuel h2
    rw [p_X9_findBand_7, show (6 : Int32) = nI 6 from rfl, if_pos (by rw [zLe (by omega) (by omega)]; omega)]
    exact ⟨M, rfl, zsame.rf, eB⟩
  | succ k ih =>
    intro nn p M B v hc hB eB h1 h2
    obtain ⟨n, rfl⟩ := zfuel h2
    rw [p_X9_findBand_7, show (6 : Int32) = nI 6 from rfl, if_neg (by rw [zLe (by omega) (by omega)]; omega)]
    by_cases hb : bt x p = true
    · obtain ⟨N, a1, a2, a3⟩ := m_find16 (k7 := p_X9_findBand_7 x (nI t) n) (p := p) (by omega) ht hb (t - zcomes M p + 1) 5000 0 M B v hc hB eB (by omega) (by omega)
      rw [show nI 0 = 0 from rfl] at a1
      rw [a1]
      obtain ⟨N2, b1, b2, b3⟩ := ih n (p + 1) N _ (zvPipes_same a2 v) (zcame_same a2 hc) (zin1_rng v (by omega) _ _ _ hB) a3 (by omega) (by omega)
      refine ⟨N2, b1, a2.tr b2, ?_⟩
      rw [zou, if_pos hb, ← zou_same a2]
      exact b3
    · obtain ⟨N2, b1, b2, b3⟩ := ih n (p + 1) M B v hc hB eB (by omega) (by omega)
      refine ⟨N2, ?_, b2, ?_⟩
      · have q1 := zix (m := p) (n := 6) (by omega) (by omega)
        rw [show (5000 : Nat) = 4999 + 1 from rfl, p_X9_findBand_16]
        simp only [q1, if_false, zbit1 (show p < 32 by omega)]
        rw [if_neg hb, nI_1, b1]
        simp
      · rw [zou, if_neg hb]
        exact b3
theorem m_findBand {M : zM} {t : Nat} {x : Int32} (ht : t ≤ 150) (v : zvPipes M) (hc : zcame M t x) : ∃ N, p_X9_findBand x (nI t) M = some N ∧ zsame M N ∧ eM N (zou M t x 6 0 none) := by
  have s0 : zsame M (zset M 9 32 (-1)) := zsame.rf.set rfl
  obtain ⟨N, a1, a2, a3⟩ := m_find7 ht 6 5000 0 (zset M 9 32 (-1)) none (zvPipes_same s0 v) (zcame_same s0 hc) trivial (by show zset M 9 32 (-1) 9 32 = -1; rw [zs_self]) (by omega) (by omega)
  exact ⟨N, a1, s0.tr a2, by rw [← zou_same s0]; exact a3⟩
/-! there is a best one -/
theorem zmin (P : Nat → Bool) (f : Nat → Int) : ∀ n, (∃ p, p < n ∧ P p = true) → ∃ p, p < n ∧ P p = true ∧ ∀ q, q < n → P q = true → f p ≤ f q
  | 0, h => by obtain ⟨p, h, -⟩ := h; omega
  | n + 1, h => by
    by_cases hn : ∃ p, p < n ∧ P p = true
    · obtain ⟨p, a, b, c⟩ := zmin P f n hn
      by_cases e : P n = true ∧ f n < f p
      · refine ⟨n, by omega, e.1, fun q hq hP => ?_⟩
        rcases Nat.lt_or_ge q n with h1 | h1
        · have := c q h1 hP
          omega
        · have : q = n := by omega
          subst this
          omega
      · refine ⟨p, by omega, b, fun q hq hP => ?_⟩
        rcases Nat.lt_or_ge q n with h1 | h1
        · exact c q h1 hP
        · have : q = n := by omega
          subst this
          have : ¬ f q < f p := fun w => e ⟨hP, w⟩
          omega
    · obtain ⟨p, a, b⟩ := h
      have : p = n := by
        rcases Nat.lt_or_ge p n with h1 | h1
        · exact absurd ⟨p, h1, b⟩ hn
        · omega
      subst this
      refine ⟨p, a, b, fun q hq hP => ?_⟩
      rcases Nat.lt_or_ge q p with h1 | h1
      · exact absurd ⟨q, h1, hP⟩ hn
      · have : q = p := by omega
        subst this
        exact Int.le_refl _
theorem zst_isSome {M : zM} {t : Nat} {x : Int32} {B : Option (Int × Int)} {low : Int} (h : B.isSome = true ∨ (zsp M t x low 6 0 low).isSome = true) : (zst M t x B low).isSome = true := by
  unfold zst
  cases e : zsp M t x low 6 0 low with
  | none =>
    rw [e] at h
    rcases h with h | h
    · exact h
    · cases h
  | some q =>
    cases B with
    | none => rfl
    | some w =>
      simp only [zup2]
      split <;> rfl
theorem zin1_isSome {M : zM} {t : Nat} {x : Int32} {p : Nat} : ∀ (k d : Nat) (B : Option (Int × Int)), B.isSome = true → (zin1 M t x p k d B).isSome = true
  | 0, _, _, h => h
  | k + 1, d, B, h => zin1_isSome k (d + 1) _ (zst_isSome (Or.inl h))
theorem zou_isSome {M : zM} {t : Nat} {x : Int32} : ∀ (k p : Nat) (B : Option (Int × Int)), (B.isSome = true ∨ ∃ j, p ≤ j ∧ j < p + k ∧ bt x j = true ∧ (zsp M t x (zpit M j 0) 6 0 (zpit M j 0)).isSome = true) → (zou M t x k p B).isSome = true
  | 0, p, B, h => by
    rcases h with h | ⟨j, a, b, -⟩
    · exact h
    · omega
  | k + 1, p, B, h => by
    rw [zou]
    apply zou_isSome k (p + 1)
    rcases h with h | ⟨j, a, b, c, d⟩
    · left
      split
      · exact zin1_isSome _ _ _ h
      · exact h
    · rcases Nat.eq_or_lt_of_le a with rfl | h1
      · left
        rw [if_pos c, zin1]
        exact zin1_isSome _ _ _ (zst_isSome (Or.inr d))
      · exact Or.inr ⟨j, h1, by omega, c, d⟩
theorem zsp_all {M : zM} {t : Nat} {x : Int32} {low : Int} (hlow : ∀ q, q < 6 → bt x q = true → low ≤ zpit M q 0) : ∀ (k p : Nat) (h : Int), p + k ≤ 6 → (zsp M t x low k p h).isSome = true
  | 0, _, _, _ => rfl
  | k + 1, p, h, hp => by
    rw [zsp]
    split
    · next hb =>
      have : zR M t p low = some 0 := zsr_some _ _ (by omega) (by omega) (by rw [decide_eq_true_eq]; exact hlow p (by omega) hb) (fun j _ hj => by omega)
      rw [this]
      exact zsp_all hlow k (p + 1) _ (by omega)
    · exact zsp_all hlow k (p + 1) _ (by omega)
theorem zsome_bit : ∀ S, S < 64 → 1 ≤ S → ∃ p, p < 6 ∧ S.testBit p = true := by decide +kernel
theorem zou_ex {M : zM} {t S : Nat} (h1 : 1 ≤ S) (h2 : S ≤ 63) : ∃ q, zou M t (nI S) 6 0 none = some q := by
  obtain ⟨p, hp, hb⟩ := zsome_bit S (by omega) h1
  obtain ⟨j, a, b, c⟩ := zmin (fun p => bt (nI S) p) (fun p => zpit M p 0) 6 ⟨p, hp, by show bt (nI S) p = true; rw [bt_nI (by omega)]; exact hb⟩
  have := zou_isSome (M := M) (t := t) (x := nI S) 6 0 none (Or.inr ⟨j, by omega, by omega, b, zsp_all (fun q hq hqb => c q hq hqb) 6 0 _ (by omega)⟩)
  exact Option.isSome_iff_exists.mp this
/-! all have come -/
theorem s_allCome2 {M : zM} {t : Nat} {x : Int32} (v : zvPipes M) (ht : t ≤ 150) : ∀ (k nn p : Nat), p + k = 6 → k < nn → p_X3_allCome_2 x (nI t) M nn (nI p) = some (if zall (fun p => !bt x p || decide (zcomes M p ≤ t)) p k then 1 else 0) := by
  intro k
  induction k with
  | zero =>
    intro nn p h1 h2
    obtain ⟨n, rfl⟩ := zfuel h2
    rw [p_X3_allCome_2, show (6 : Int32) = nI 6 from rfl, if_pos (by rw [zLe (by omega) (by omega)]; omega)]
    rfl
  | succ k ih =>
    intro nn p h1 h2
    obtain ⟨n, rfl⟩ := zfuel h2
    have q1 := zix (m := p) (n := 6) (by omega) (by omega)
    obtain ⟨-, -, c1, -, -, -, -, -, e5, e6, -⟩ := zpip v (p := p) (by omega)
    rw [p_X3_allCome_2, show (6 : Int32) = nI 6 from rfl, if_neg (by rw [zLe (by omega) (by omega)]; omega), s_hasBit (by omega)]
    simp only [Option.bind_some, zq_0, q1, if_false]
    rw [zcl' (by omega), e6, nI_1, zall]
    simp only [zLe (show zcomes M p < 2 ^ 31 by omega) (show t < 2 ^ 31 by omega)]
    by_cases hb : bt x p = true
    · rw [if_neg (by simpa using hb)]
      by_cases hc : zcomes M p ≤ t
      · rw [if_pos hc, ih n (p + 1) (by omega) (by omega)]
        simp [hc]
      · rw [if_neg hc]
        simp [hb, hc]
    · rw [if_pos hb, ih n (p + 1) (by omega) (by omega)]
      simp [hb]
theorem m_wrong36 {M : zM} {t : Nat} {x : Int32} (v : zvPipes M) (ht : t ≤ 150) : ∀ (k nn p : Nat), p + k = 6 → k < nn → p_X9_wrongBand_36 x (nI t) M nn (nI p) = some (if zall (fun p => !bt x p || decide (zcomes M p ≤ t)) p k then 1 else -4) := by
  intro k
  induction k with
  | zero =>
    intro nn p h1 h2
    obtain ⟨n, rfl⟩ := zfuel h2
    rw [p_X9_wrongBand_36, show (6 : Int32) = nI 6 from rfl, if_pos (by rw [zLe (by omega) (by omega)]; omega)]
    rfl
  | succ k ih =>
    intro nn p h1 h2
    obtain ⟨n, rfl⟩ := zfuel h2
    have q1 := zix (m := p) (n := 6) (by omega) (by omega)
    obtain ⟨-, -, c1, -, -, -, -, -, e5, e6, -⟩ := zpip v (p := p) (by omega)
    rw [p_X9_wrongBand_36, show (6 : Int32) = nI 6 from rfl, if_neg (by rw [zLe (by omega) (by omega)]; omega)]
    simp only [q1, if_false, zbit1 (show p < 32 by omega)]
    rw [zcl' (by omega), e5, nI_1, zall]
    simp only [zLe (show zcomes M p < 2 ^ 31 by omega) (show t < 2 ^ 31 by omega)]
    by_cases hb : bt x p = true
    · rw [if_pos hb]
      by_cases hc : zcomes M p ≤ t
      · rw [if_pos hc, ih n (p + 1) (by omega) (by omega)]
        simp [hc]
      · rw [if_neg hc]
        simp [hb, hc]
    · rw [if_neg hb, ih n (p + 1) (by omega) (by omega)]
      simp [hb]
theorem zcame_iff {M : zM} {t : Nat} {x : Int32} : zall (fun p => !bt x p || decide (zcomes M p ≤ t)) 0 6 = true ↔ zcame M t x := by
  rw [zall_iff]
  constructor
  · intro h p hp hb
    have := h p (by omega) (by omega)
    simpa [hb] using this
  · intro h p _ hp
    by_cases hb : bt x p = true
    · simp [hb, h p (by omega) hb]
    · simp [hb]
theorem e_band (x1 x2 x3 : Int32) {M : zM} (v : zInv M) : zAlike (p_X8_band x1 x2 x3) (p_X9_band x1 x2 x3) M := by
  have v7 := v.2.2.2.2.2.2
  by_cases h1 : 1 ≤ x1 ∧ x1 ≤ 63
  · by_cases h2 : 0 ≤ x2 ∧ x2 ≤ 150
    · by_cases h3 : 0 ≤ x3 ∧ x3 ≤ 1
      · obtain ⟨S, hS1, hS, rfl⟩ := zup1 (n := 63) rfl (by decide) h1
        obtain ⟨t, ht, rfl⟩ := zup (n := 150) rfl (by decide) h2
        have ha : p_X3_allCome (nI S) (nI t) M = some (if zall (fun p => !bt (nI S) p || decide (zcomes M p ≤ t)) 0 6 then 1 else 0) := s_allCome2 v7 ht 6 5000 0 (by omega) (by omega)
        by_cases hc : zcame M t (nI S)
        · rw [if_pos (zcame_iff.mpr hc)] at ha
          obtain ⟨N, a1, a2, a3⟩ := s_tuneBand ht v7 hc
          obtain ⟨N2, b1, b2, b3⟩ := m_findBand ht (zvPipes_same a2 v7) (zcame_same a2 hc)
          have hw : p_X9_wrongBand_36 (nI S) (nI t) N 5000 0 = some (if zall (fun p => !bt (nI S) p || decide (zcomes N p ≤ t)) 0 6 then 1 else -4) := m_wrong36 (zvPipes_same a2 v7) ht 6 5000 0 (by omega) (by omega)
          rw [if_pos (zcame_iff.mpr (zcame_same a2 hc))] at hw
          rw [zou_same a2] at b3
          obtain ⟨q, hq⟩ := zou_ex (M := M) (t := t) hS1 hS
          rw [hq] at a3 b3
          refine ⟨if x3 = 0 then iI q.1 else iI q.2 + 1000, N, N2, ?_, ?_, zInv_same (a2.tr b2) v⟩
          · by_cases hx : x3 = 0
            · simp [p_X8_band, s_isBand, s_isMinute, s_within, zq_0, h1, h2, h3, ha, a1, a3.1, hx]
            · simp [p_X8_band, s_isBand, s_isMinute, s_within, zq_0, h1, h2, h3, ha, a1, a3.2, hx]
          · by_cases hx : x3 = 0
            · simp [p_X9_band, p_X9_wrongBand, s_in, zq_0, h1, h2, h3, hw, b1, b3.1, hx]
            · simp [p_X9_band, p_X9_wrongBand, s_in, zq_0, h1, h2, h3, hw, b1, b3.2, hx]
        · rw [if_neg (fun q => hc (zcame_iff.mp q))] at ha
          have hw : p_X9_wrongBand_36 (nI S) (nI t) M 5000 0 = some (if zall (fun p => !bt (nI S) p || decide (zcomes M p ≤ t)) 0 6 then 1 else -4) := m_wrong36 v7 ht 6 5000 0 (by omega) (by omega)
          rw [if_neg (fun q => hc (zcame_iff.mp q))] at hw
          refine ⟨-4, M, M, ?_, ?_, v⟩
          · simp [p_X8_band, s_isBand, s_isMinute, s_within, zq_0, h1, h2, h3, ha]
          · simp [p_X9_band, p_X9_wrongBand, s_in, zq_0, h1, h2, h3, hw]
      · refine ⟨-3, M, M, ?_, ?_, v⟩ <;> simp [p_X8_band, p_X9_band, p_X9_wrongBand, s_isBand, s_isMinute, s_within, s_in, zq_0, h1, h2, h3]
    · refine ⟨-3, M, M, ?_, ?_, v⟩ <;> simp [p_X8_band, p_X9_band, p_X9_wrongBand, s_isBand, s_isMinute, s_within, s_in, zq_0, h1, h2]
  · refine ⟨-3, M, M, ?_, ?_, v⟩ <;> simp [p_X8_band, p_X9_band, p_X9_wrongBand, s_isBand, s_isMinute, s_within, s_in, zq_0, h1]
theorem e_begins (x1 x2 x3 : Int32) {M : zM} (v : zInv M) : zAlike (p_X8_begins x1 x2 x3) (p_X9_begins x1 x2 x3) M := by
  have v7 := v.2.2.2.2.2.2
  have h0 : (0 : Int32) ≤ 0 ∧ (0 : Int32) ≤ 1 := by decide
  by_cases h3 : 0 ≤ x3 ∧ x3 ≤ 5
  · by_cases h1 : 1 ≤ x1 ∧ x1 ≤ 63
    · by_cases h2 : 0 ≤ x2 ∧ x2 ≤ 150
      · obtain ⟨S, hS1, hS, rfl⟩ := zup1 (n := 63) rfl (by decide) h1
        obtain ⟨t, ht, rfl⟩ := zup (n := 150) rfl (by decide) h2
        obtain ⟨p, hp, rfl⟩ := zup (n := 5) rfl (by decide) h3
        have ha : p_X3_allCome (nI S) (nI t) M = some (if zall (fun p => !bt (nI S) p || decide (zcomes M p ≤ t)) 0 6 then 1 else 0) := s_allCome2 v7 ht 6 5000 0 (by omega) (by omega)
        by_cases hc : zcame M t (nI S)
        · rw [if_pos (zcame_iff.mpr hc)] at ha
          by_cases hb : bt (nI S) p = true
          · obtain ⟨N, a1, a2, a3⟩ := s_tuneBand ht v7 hc
            have vN := zvPipes_same a2 v7
            have cN := zcame_same a2 hc
            obtain ⟨N2, b1, b2, b3⟩ := m_findBand ht vN cN
            have hw : p_X9_wrongBand_36 (nI S) (nI t) N 5000 0 = some (if zall (fun p => !bt (nI S) p || decide (zcomes N p ≤ t)) 0 6 then 1 else -4) := m_wrong36 vN ht 6 5000 0 (by omega) (by omega)
            rw [if_pos (zcame_iff.mpr cN)] at hw
            rw [zou_same a2] at b3
            obtain ⟨q, hq⟩ := zou_ex (M := M) (t := t) hS1 hS
            have hrq := zou_rng (M := M) (t := t) (x := nI S) v7 6 0 none (by omega) trivial
            rw [hq] at a3 b3 hrq
            have hl : -1000 ≤ q.2 ∧ q.2 ≤ 1000 := ⟨by have := hrq.2.1; omega, by have := hrq.2.2; omega⟩
            have c1 := s_minutes (t := t) (p := p) vN (by omega) ht (cN p (by omega) hb) hl
            have c2 := m_longFor (t := t) (p := p) (zvPipes_same b2 vN) (by omega) ht (zcame_same b2 cN p (by omega) hb) hl
            rw [zR_same b2] at c2
            refine ⟨nI t - eR (zR N t p q.2), N, N2, ?_, ?_, zInv_same (a2.tr b2) v⟩
            · simp (disch := omega) [p_X8_begins, s_isPiper, s_isBand, s_isMinute, zq_0, h1, h2, h3, ha, s_hasBit, hb, a1, a3.2, c1]
            · simp (disch := omega) [p_X9_begins, p_X9_wrongBand, m_isPiper, s_in, zq_0, h1, h2, h3, h0, hw, zbit0, hb, b1, b3.2, c2]
          · have hw : p_X9_wrongBand_36 (nI S) (nI t) M 5000 0 = some (if zall (fun p => !bt (nI S) p || decide (zcomes M p ≤ t)) 0 6 then 1 else -4) := m_wrong36 v7 ht 6 5000 0 (by omega) (by omega)
            rw [if_pos (zcame_iff.mpr hc)] at hw
            refine ⟨-1, M, M, ?_, ?_, v⟩
            · simp (disch := omega) [p_X8_begins, s_isPiper, s_isBand, s_isMinute, zq_0, h1, h2, h3, ha, s_hasBit, hb]
            · simp (disch := omega) [p_X9_begins, p_X9_wrongBand, m_isPiper, s_in, zq_0, h1, h2, h3, h0, hw, zbit0, hb]
        · rw [if_neg (fun q => hc (zcame_iff.mp q))] at ha
          have hw : p_X9_wrongBand_36 (nI S) (nI t) M 5000 0 = some (if zall (fun p => !bt (nI S) p || decide (zcomes M p ≤ t)) 0 6 then 1 else -4) := m_wrong36 v7 ht 6 5000 0 (by omega) (by omega)
          rw [if_neg (fun q => hc (zcame_iff.mp q))] at hw
          refine ⟨-4, M, M, ?_, ?_, v⟩
          · simp [p_X8_begins, s_isPiper, s_isBand, s_isMinute, zq_0, h1, h2, h3, ha]
          · simp [p_X9_begins, p_X9_wrongBand, m_isPiper, s_in, zq_0, h1, h2, h3, h0, hw]
      · refine ⟨-3, M, M, ?_, ?_, v⟩ <;> simp [p_X8_begins, p_X9_begins, p_X9_wrongBand, s_isPiper, m_isPiper, s_isBand, s_isMinute, s_in, zq_0, h1, h2, h3]
    · refine ⟨-3, M, M, ?_, ?_, v⟩ <;> simp [p_X8_begins, p_X9_begins, p_X9_wrongBand, s_isPiper, m_isPiper, s_isBand, s_isMinute, s_in, zq_0, h1, h3]
  · refine ⟨-2, M, M, ?_, ?_, v⟩ <;> simp [p_X8_begins, p_X9_begins, s_isPiper, m_isPiper, zq_0, h3]
