/-! ===== songs: sums, ways ===== -/
def zsg (f : Nat → Nat) : Nat → Nat
  | 0 => 0
  | n + 1 => zsg f n + f n
theorem zsg_congr {f g : Nat → Nat} : ∀ {n : Nat}, (∀ i, i < n → f i = g i) → zsg f n = zsg g n
  | 0, _ => rfl
  | n + 1, h => by rw [zsg, zsg, zsg_congr (fun i hi => h i (by omega)), h n (by omega)]
theorem zsg_add (f g : Nat → Nat) : ∀ n, zsg (fun i => f i + g i) n = zsg f n + zsg g n
  | 0 => rfl
  | n + 1 => by
    rw [zsg, zsg, zsg, zsg_add f g n]
    omega
theorem zsg_mulL (c : Nat) (f : Nat → Nat) : ∀ n, zsg (fun i => c * f i) n = c * zsg f n
  | 0 => rfl
  | n + 1 => by rw [zsg, zsg, zsg_mulL c f n, Nat.mul_add]
theorem zsg_mulR (c : Nat) (f : Nat → Nat) : ∀ n, zsg (fun i => f i * c) n = zsg f n * c
  | 0 => (Nat.zero_mul c).symm
  | n + 1 => by rw [zsg, zsg, zsg_mulR c f n, Nat.add_mul]
theorem zsg_zero {f : Nat → Nat} : ∀ {n : Nat}, (∀ i, i < n → f i = 0) → zsg f n = 0
  | 0, _ => rfl
  | n + 1, h => by rw [zsg, zsg_zero (fun i hi => h i (by omega)), h n (by omega)]
theorem zsg_swap (f : Nat → Nat → Nat) (m : Nat) : ∀ n, zsg (fun i => zsg (fun j => f i j) m) n = zsg (fun j => zsg (fun i => f i j) n) m
  | 0 => (zsg_zero (fun _ _ => rfl)).symm
  | n + 1 => by
    rw [zsg, zsg_swap f m n, ← zsg_add]
    rfl
theorem zsg_head (f : Nat → Nat) : ∀ n, zsg f (n + 1) = f 0 + zsg (fun i => f (i + 1)) n
  | 0 => by simp [zsg]
  | n + 1 => by
    rw [zsg, zsg_head f n, zsg]
    omega
theorem zsg_pos {f : Nat → Nat} : ∀ {n : Nat}, 0 < zsg f n ↔ ∃ i, i < n ∧ 0 < f i
  | 0 => by simp [zsg]
  | n + 1 => by
    rw [zsg]
    constructor
    · intro h
      by_cases h1 : 0 < f n
      · exact ⟨n, by omega, h1⟩
      · obtain ⟨i, a, b⟩ := zsg_pos.mp (show 0 < zsg f n by omega)
        exact ⟨i, by omega, b⟩
    · rintro ⟨i, a, b⟩
      rcases Nat.lt_or_ge i n with h | h
      · have := zsg_pos.mpr ⟨i, h, b⟩
        omega
      · have : i = n := by omega
        subst this
        omega
theorem zcap_add2 (a b : Nat) : zcap (zcap a + zcap b) = zcap (a + b) := by rw [zcap_add, Nat.add_comm, zcap_add, Nat.add_comm]
theorem zcap_pos {n : Nat} : zcap n = 0 ↔ n = 0 := by
  unfold zcap
  split <;> omega
/-! heads, tails, syllables -/
def zhd (M : zM) (r m : Nat) : Nat := (M 82 (8 * r + m)).toInt.toNat
def ztl (M : zM) (r n : Nat) : Nat := (M 83 (9 * r + n)).toInt.toNat
def zsy (M : zM) (k : Nat) : Nat := (M 84 k).toInt.toNat
theorem zhd_ok {M : zM} {r m : Nat} (v : zvSong M) (hr : r < 3) (hm : m < 8) : zhd M r m ≤ 7 ∧ M 82 (8 * r + m) = nI (zhd M r m) ∧ M (26 + r) m = nI (zhd M r m) := by
  obtain ⟨n, hn, e⟩ := zr_nat (hi := 7) (v.1 r m hr hm).2 (by decide)
  have : zhd M r m = n := by rw [zhd, e, nI_toInt (by omega)]; rfl
  rw [this, (v.1 r m hr hm).1, e]
  exact ⟨hn, rfl, rfl⟩
theorem ztl_ok {M : zM} {r m : Nat} (v : zvSong M) (hr : r < 3) (hm : m < 9) : ztl M r m ≤ 3 ∧ M 83 (9 * r + m) = nI (ztl M r m) ∧ M (30 + r) m = nI (ztl M r m) := by
  obtain ⟨n, hn, e⟩ := zr_nat (hi := 3) (v.2.1 r m hr hm).2 (by decide)
  have : ztl M r m = n := by rw [ztl, e, nI_toInt (by omega)]; rfl
  rw [this, (v.2.1 r m hr hm).1, e]
  exact ⟨hn, rfl, rfl⟩
theorem zsy_ok {M : zM} {k : Nat} (v : zvSong M) (hk : k < 12) : zsy M k ≤ 31 ∧ M 84 k = nI (zsy M k) ∧ M 33 k = nI (zsy M k) := by
  obtain ⟨n, hn, e⟩ := zr_nat (hi := 31) (v.2.2.2 k hk).2 (by decide)
  have : zsy M k = n := by rw [zsy, e, nI_toInt (by omega)]; rfl
  rw [this, (v.2.2.2 k hk).1, e]
  exact ⟨hn, rfl, rfl⟩
def zhO (M : zM) (r k m : Nat) : Bool := decide (zhd M r m = zsy M k / 4)
def ztO (M : zM) (r k n : Nat) : Bool := decide (ztl M r n = zsy M k % 4)
/-- step k may be movement m to note b behind note a (9: none) -/
def zT (M : zM) (r k m a b : Nat) : Bool := zhO M r k m && (ztO M r k b && zfit M m a b)
def zCt (M : zM) (r k a b : Nat) : Nat := zsg (fun m => if zT M r k m a b then 1 else 0) 8
/-- ways to go on from note a, where j syllables of L are left -/
def zbW (M : zM) (r L : Nat) : Nat → Nat → Nat
  | 0, _ => 1
  | j + 1, a => zsg (fun n => zCt M r (L - 1 - j) a n * zbW M r L j n) 9
def zph (i : Nat) : Nat := if i = 0 then 9 else i - 1
/-- ways that come to note i - 1 (0: none yet) behind k syllables -/
def zfV (M : zM) (r : Nat) : Nat → Nat → Nat
  | 0, i => if i = 0 then 1 else 0
  | k + 1, i => if i = 0 then 0 else zsg (fun j => zfV M r k j * zCt M r k (zph j) (i - 1)) 10
theorem zcount (M : zM) (r L : Nat) : ∀ k, k ≤ L → zsg (fun i => zfV M r k i * zbW M r L (L - k) (zph i)) 10 = zbW M r L L 9
  | 0, _ => by
    rw [zsg_head, zsg_zero (f := fun i => zfV M r 0 (i + 1) * zbW M r L (L - 0) (zph (i + 1))) (fun i _ => by simp [zfV])]
    simp [zfV, zph]
  | k + 1, h => by
    rw [← zcount M r L k (by omega), zsg_head]
    have e0 : zfV M r (k + 1) 0 = 0 := by simp [zfV]
    rw [e0, Nat.zero_mul, Nat.zero_add]
    have e1 : zsg (fun i => zfV M r (k + 1) (i + 1) * zbW M r L (L - (k + 1)) (zph (i + 1))) 9 = zsg (fun i => zsg (fun j => zfV M r k j * (zCt M r k (zph j) i * zbW M r L (L - (k + 1)) i)) 10) 9 := by
      apply zsg_congr
      intro i hi
      have e2 : zfV M r (k + 1) (i + 1) = zsg (fun j => zfV M r k j * zCt M r k (zph j) i) 10 := by
        rw [zfV, if_neg (by omega)]
        rfl
      have e3 : zph (i + 1) = i := by rw [zph, if_neg (by omega)]; rfl
      rw [e2, e3, ← zsg_mulR]
      apply zsg_congr
      intro j _
      exact Nat.mul_assoc _ _ _
    rw [e1, zsg_swap]
    apply zsg_congr
    intro j _
    rw [zsg_mulL]
    congr 1
    have e4 : L - k = (L - (k + 1)) + 1 := by omega
    rw [e4, zbW]
    apply zsg_congr
    intro n _
    rw [show L - 1 - (L - (k + 1)) = k by omega]
theorem zcount_all (M : zM) (r L : Nat) : zsg (fun i => zfV M r L i) 10 = zbW M r L L 9 := by
  rw [← zcount M r L L (Nat.le_refl L)]
  apply zsg_congr
  intro i _
  rw [Nat.sub_self, zbW, Nat.mul_one]
/-! scribbling leaves it -/
theorem zvMov_same {M N : zM} (h : zsame M N) (v : zvMov M) : zvMov N := by
  refine zvMov_c (fun a b e => h a b ?_) v
  simp only [zdMov, Bool.or_eq_true, Bool.and_eq_true, beq_iff_eq, decide_eq_true_eq] at e
  rcases e with (((((((((rfl | rfl) | rfl) | rfl) | rfl) | rfl) | rfl) | ⟨h1, h2⟩) | ⟨rfl, rfl⟩) | ⟨rfl, rfl⟩) <;> first | rfl | (simp [zscr]; done) | (simp [zscr]; omega)
theorem zvSong_same {M N : zM} (h : zsame M N) (v : zvSong M) : zvSong N := by
  refine zvSong_c (fun a b e => h a b ?_) v
  simp only [zdSong, Bool.or_eq_true, Bool.and_eq_true, beq_iff_eq, decide_eq_true_eq] at e
  rcases e with (((((((rfl | rfl) | rfl) | rfl) | ⟨h1, h2⟩) | ⟨h1, h2⟩) | ⟨rfl, rfl⟩) | ⟨rfl, rfl⟩) <;> first | rfl | (simp [zscr]; done) | (simp [zscr]; omega)
theorem zrow_same {M N : zM} (h : zsame M N) (a : Nat) (ha : ∀ b, zscr a b = false) : N a = M a := funext (fun b => h a b (ha b))
theorem zfit_same {M N : zM} (h : zsame M N) : zfit N = zfit M := by
  funext m p b
  unfold zfit zn zg
  rw [zrow_same h 75 (fun b => by simp [zscr]), zrow_same h 76 (fun b => by simp [zscr]), zrow_same h 77 (fun b => by simp [zscr]), zrow_same h 78 (fun b => by simp [zscr])]
theorem zhO_same {M N : zM} (h : zsame M N) : zhO N = zhO M ∧ ztO N = ztO M := by
  have e82 := zrow_same h 82 (fun b => by simp [zscr])
  have e83 := zrow_same h 83 (fun b => by simp [zscr])
  have e84 := zrow_same h 84 (fun b => by simp [zscr])
  constructor
  · funext r k m
    unfold zhO zhd zsy
    rw [e82, e84]
  · funext r k m
    unfold ztO ztl zsy
    rw [e83, e84]
theorem zT_same {M N : zM} (h : zsame M N) : zT N = zT M := by
  funext r k m a b
  unfold zT
  rw [(zhO_same h).1, (zhO_same h).2, zfit_same h]
theorem zCt_same {M N : zM} (h : zsame M N) : zCt N = zCt M := by
  funext r k a b
  unfold zCt
  rw [zT_same h]
theorem zbW_same {M N : zM} (h : zsame M N) (r L : Nat) : ∀ j a, zbW N r L j a = zbW M r L j a
  | 0, _ => rfl
  | j + 1, a => by
    rw [zbW, zbW, zCt_same h]
    apply zsg_congr
    intro n _
    rw [zbW_same h r L j n]
theorem zsame.row {M N : zM} {f : Nat → Int32} {i : Nat} (h : zsame M N) (hi : ∀ b, zscr i b = true) : zsame M (zrow N i f) := by
  intro a b e
  have : a ≠ i := by
    rintro rfl
    rw [hi] at e
    cases e
  rw [zrow, if_neg this]
  exact h a b e
theorem zrow_ne {M : zM} {i a : Nat} {f : Nat → Int32} (h : a ≠ i) : zrow M i f a = M a := by rw [zrow, if_neg h]
/-- an array filled -/
theorem j_fill {a n : Nat} {x : Int32} (hn : n < 5000) : ∀ (k nn i : Nat) (M : zM), i + k = n → k < nn → p_J7_fill_53178_5 a n x (nI n) nn (nI i) M = some (zfil M a i n (fun _ => x)) := by
  intro k
  induction k with
  | zero =>
    intro nn i M h1 h2
    obtain ⟨m, rfl⟩ := zfuel h2
    rw [p_J7_fill_53178_5, if_pos (by rw [zLe (by omega) (by omega)]; omega), zfil_nil (by omega)]
  | succ k ih =>
    intro nn i M h1 h2
    obtain ⟨m, rfl⟩ := zfuel h2
    rw [p_J7_fill_53178_5, if_neg (by rw [zLe (by omega) (by omega)]; omega), if_neg (by rw [zix (by omega) (by omega)]; exact id), zcl' (by omega), nI_1, ih m (i + 1) _ (by omega) (by omega)]
    exact congrArg some (zfil_step (g := fun _ => x) (by omega))
theorem j_fillA {a n : Nat} {x : Int32} {M : zM} (hn : n < 5000) : p_J7_fill_53178 a n x M = some (zfil M a 0 n (fun _ => x)) := j_fill hn n 5000 0 M (by omega) (by omega)
theorem zsame.fil {M N : zM} {f : Nat → Int32} {i lo hi : Nat} (h : zsame M N) (hi' : ∀ b, zscr i b = true) : zsame M (zfil N i lo hi f) := by
  intro a b e
  have : a ≠ i := by
    rintro rfl
    rw [hi'] at e
    cases e
  rw [zfil_ne this]
  exact h a b e
/-! the class's way: step by step on -/
theorem s_hasHead {M : zM} {r k m : Nat} (v : zvSong M) (hr : r < 3) (hk : k < 12) (hm : m < 8) : p_X6_hasHead (nI r) (nI k) (nI m) M = some (zq (zhO M r k m = true)) := by
  obtain ⟨a1, a2, a3⟩ := zhd_ok v hr hm
  obtain ⟨b1, b2, b3⟩ := zsy_ok v hk
  have q1 := zix (m := r) (n := 3) hr (by omega)
  have q2 := zix (m := k) (n := 12) hk (by omega)
  have q3 := zix (m := m) (n := 8) hm (by omega)
  rw [p_X6_hasHead]
  simp only [q1, q2, q3, if_false]
  rw [zcl' (by omega), zcl' (by omega), zcl' (by omega), a3, b3, show (4 : Int32) = nI 4 from rfl, pk_div (by omega) (by omega) (by omega)]
  simp only [zEqn (show zhd M r m < 2 ^ 31 by omega) (show zsy M k / 4 < 2 ^ 31 by omega)]
  by_cases h : zhd M r m = zsy M k / 4 <;> simp [zhO, h, zq]
theorem bt_or1 {x : Int32} {n b : Nat} (hn : n < 32) (hb : b < 32) : bt (x ||| ((1 : Int32) <<< (nI n &&& 31))) b = (bt x b || decide (b = n)) := by
  rw [b_or, b_shl n hn _ hb, bt_1]
  congr 1
  by_cases h1 : n ≤ b
  · by_cases h2 : b = n
    · subst h2
      simp
    · simp [h1, h2, show b - n ≠ 0 by omega]
  · simp [h1, show b ≠ n by omega]
theorem s_notes5 {M : zM} {r k : Nat} (v : zvSong M) (hr : r < 3) (hk : k < 12) : ∀ (j nn n : Nat) (x : Int32), n + j = 9 → j < nn → (∀ b, b < 32 → bt x b = (decide (b < n) && ztO M r k b)) → ∃ y, p_X6_notesFor_5 (nI r) (nI k) M nn x (nI n) = some y ∧ ∀ b, b < 32 → bt y b = (decide (b < 9) && ztO M r k b) := by
  obtain ⟨b1, b2, b3⟩ := zsy_ok v hk
  have q1 := zix (m := r) (n := 3) hr (by omega)
  have q2 := zix (m := k) (n := 12) hk (by omega)
  intro j
  induction j with
  | zero =>
    intro nn n x h1 h2 hx
    obtain ⟨i, rfl⟩ := zfuel h2
    rw [p_X6_notesFor_5, show (9 : Int32) = nI 9 from rfl, if_pos (by rw [zLe (by omega) (by omega)]; omega)]
    exact ⟨x, rfl, fun b hb => by rw [hx b hb, show n = 9 by omega]⟩
  | succ j ih =>
    intro nn n x h1 h2 hx
    obtain ⟨i, rfl⟩ := zfuel h2
    obtain ⟨a1, a2, a3⟩ := ztl_ok v hr (m := n) (by omega)
    have q3 := zix (m := n) (n := 9) (by omega) (by omega)
    rw [p_X6_notesFor_5, show (9 : Int32) = nI 9 from rfl, if_neg (by rw [zLe (by omega) (by omega)]; omega)]
    simp only [q1, q2, q3, if_false]
    rw [zcl' (by omega), zcl' (by omega), zcl' (by omega), a3, b3, show (4 : Int32) = nI 4 from rfl, pk_rem (by omega) (by omega) (by omega), nI_1]
    simp only [zEqn (show ztl M r n < 2 ^ 31 by omega) (show zsy M k % 4 < 2 ^ 31 by omega)]
    by_cases h : ztl M r n = zsy M k % 4
    · rw [if_pos h]
      refine ih i (n + 1) _ (by omega) (by omega) (fun b hb => ?_)
      rw [bt_or1 (by omega) hb, hx b hb]
      by_cases e : b = n
      · subst e
        simp [ztO, h]
      · have : decide (b < n + 1) = decide (b < n) := by
          rw [decide_eq_decide]
          omega
        rw [this]
        simp [e]
    · rw [if_neg h]
      refine ih i (n + 1) _ (by omega) (by omega) (fun b hb => ?_)
      rw [hx b hb]
      by_cases e : b = n
      · subst e
        simp [ztO, h]
      · have : decide (b < n + 1) = decide (b < n) := by
          rw [decide_eq_decide]
          omega
        rw [this]
theorem s_notesFor {M : zM} {r k : Nat} (v : zvSong M) (hr : r < 3) (hk : k < 12) : ∃ y, p_X6_notesFor (nI r) (nI k) M = some y ∧ ∀ b, b < 32 → bt y b = (decide (b < 9) && ztO M r k b) :=
  s_notes5 v hr hk 9 5000 0 0 (by omega) (by omega) (fun b _ => by rw [b_0]; simp)
theorem s_add2 {x : Int32} {R : Nat} (hR : R ≤ 1000001) : ∀ (k nn b : Nat) (N : zM) (S : Nat → Nat), b + k = 9 → k < nn → (∀ c, c < 9 → S c ≤ 1000001 ∧ N 35 (c + 1) = nI (S c)) → ∃ N', p_X6_addRows_2 x (nI R) nn (nI b) N = some N' ∧ (∀ a c, (a ≠ 35 ∨ c = 0) → N' a c = N a c) ∧ ∀ c, c < 9 → N' 35 (c + 1) = if b ≤ c ∧ bt x c = true then nI (zcap (S c + R)) else nI (S c) := by
  intro k
  induction k with
  | zero =>
    intro nn b N S h1 h2 hS
    obtain ⟨i, rfl⟩ := zfuel h2
    rw [p_X6_addRows_2, show (9 : Int32) = nI 9 from rfl, if_pos (by rw [zLe (by omega) (by omega)]; omega)]
    exact ⟨N, rfl, fun _ _ _ => rfl, fun c hc => by rw [if_neg (by omega)]; exact (hS c hc).2⟩
  | succ k ih =>
    intro nn b N S h1 h2 hS
    obtain ⟨i, rfl⟩ := zfuel h2
    have q1 := zix (m := b + 1) (n := 10) (by omega) (by omega)
    rw [p_X6_addRows_2, show (9 : Int32) = nI 9 from rfl, if_neg (by rw [zLe (by omega) (by omega)]; omega), s_hasBit (by omega)]
    simp only [Option.bind_some, zq_0]
    rw [nI_1]
    simp only [q1, if_false]
    rw [zcl' (by omega)]
    by_cases hb : bt x b = true
    · rw [if_neg (by simpa using hb)]
      have e : (if N 35 (b + 1) + nI R < (1000001 : Int32) then N 35 (b + 1) + nI R else (1000001 : Int32)) = nI (zcap (S b + R)) := by
        have hb9 := (hS b (by omega)).1
        rw [(hS b (by omega)).2, nI_add, show (1000001 : Int32) = nI 1000001 from rfl, zcap]
        by_cases c1 : S b + R < 1000001
        · rw [if_pos c1, if_pos (by rw [zLt (by omega) (by omega)]; exact c1)]
        · rw [if_neg c1, if_neg (by rw [zLt (by omega) (by omega)]; exact c1)]
      rw [e]
      obtain ⟨N', a1, a2, a3⟩ := ih i (b + 1) (zset N 35 (b + 1) (nI (zcap (S b + R)))) (fun c => if c = b then zcap (S b + R) else S c) (by omega) (by omega) (fun c hc => by
        by_cases e : c = b
        · subst e
          rw [if_pos rfl, zs_self]
          exact ⟨zcap_le _, rfl⟩
        · rw [if_neg e, zs_nj (by omega)]
          exact hS c hc)
      refine ⟨N', a1, fun a c h => by rw [a2 a c h, zset, if_neg (by omega)], fun c hc => ?_⟩
      rw [a3 c hc]
      by_cases e : c = b
      · subst e
        rw [if_neg (by omega), if_pos rfl, if_pos ⟨by omega, hb⟩]
      · rw [if_neg e]
        by_cases e2 : b + 1 ≤ c ∧ bt x c = true
        · rw [if_pos e2, if_pos ⟨by omega, e2.2⟩]
        · rw [if_neg e2, if_neg (fun q => e2 ⟨by omega, q.2⟩)]
    · rw [if_pos hb]
      obtain ⟨N', a1, a2, a3⟩ := ih i (b + 1) N S (by omega) (by omega) hS
      refine ⟨N', a1, a2, fun c hc => ?_⟩
      rw [a3 c hc]
      by_cases e : c = b
      · subst e
        rw [if_neg (by omega), if_neg (fun q => hb q.2)]
      · by_cases e2 : b + 1 ≤ c ∧ bt x c = true
        · rw [if_pos e2, if_pos ⟨by omega, e2.2⟩]
        · rw [if_neg e2, if_neg (fun q => e2 ⟨by omega, q.2⟩)]
theorem xI_ok {i : Nat} (h : i ≤ 9) : nI i - (1 : Int32) = aI (zph i) := by
  by_cases h0 : i = 0
  · subst h0
    decide
  · rw [zph, if_neg h0, aI_n (by omega), show (1 : Int32) = nI 1 from rfl, pk_sub (by omega)]
theorem xI_1 (i : Nat) : nI i - (1 : Int32) + (1 : Int32) = nI i := by
  rw [show (1 : Int32) = iI 1 from rfl, iI_nat, iI_sub, iI_add]
  congr 1
  omega
theorem s_readOn28 {r k i : Nat} {al : Int32} {V : Nat} {k18 : Int32 → zM → Option zM} (hr : r < 3) (hk : k < 12) (hi : i ≤ 9) : ∀ (j nn m : Nat) (N : zM) (S : Nat → Nat), zvMov N → zvSong N → (∀ b, b < 32 → bt al b = (decide (b < 9) && ztO N r k b)) → N 34 i = nI (zcap V) → m + j = 8 → j < nn → (∀ c, c < 9 → N 35 (c + 1) = nI (zcap (S c + V * zsg (fun m => if zT N r k m (zph i) c then 1 else 0) m))) → ∃ N', p_X6_readOn_28 k18 (nI r) (nI k) al (nI i - 1) nn (nI m) N = k18 (nI i) N' ∧ (∀ a c, (a ≠ 35 ∨ c = 0) → N' a c = N a c) ∧ ∀ c, c < 9 → N' 35 (c + 1) = nI (zcap (S c + V * zCt N r k (zph i) c)) := by
  have hph : zph i ≤ 9 := by unfold zph; split <;> omega
  have q1 := zix (m := i) (n := 10) (by omega) (by omega)
  intro j
  induction j with
  | zero =>
    intro nn m N S vM vS hal hV h1 h2 hS
    obtain ⟨n, rfl⟩ := zfuel h2
    rw [p_X6_readOn_28, show (8 : Int32) = nI 8 from rfl, if_pos (by rw [zLe (by omega) (by omega)]; omega), xI_1]
    refine ⟨N, rfl, fun _ _ _ => rfl, fun c hc => ?_⟩
    rw [hS c hc, zCt, show m = 8 by omega]
  | succ j ih =>
    intro nn m N S vM vS hal hV h1 h2 hS
    obtain ⟨n, rfl⟩ := zfuel h2
    have hcl := zcap_le V
    rw [p_X6_readOn_28, show (8 : Int32) = nI 8 from rfl, if_neg (by rw [zLe (by omega) (by omega)]; omega), xI_1]
    simp only [q1, if_false]
    rw [zcl' (by omega), hV, nI_1]
    have skip : (∀ c, c < 9 → V * (if zT N r k m (zph i) c then 1 else 0) = 0) → ∃ N', p_X6_readOn_28 k18 (nI r) (nI k) al (nI i - 1) n (nI (m + 1)) N = k18 (nI i) N' ∧ (∀ a c, (a ≠ 35 ∨ c = 0) → N' a c = N a c) ∧ ∀ c, c < 9 → N' 35 (c + 1) = nI (zcap (S c + V * zCt N r k (zph i) c)) := by
      intro h0
      refine ih n (m + 1) N S vM vS hal hV (by omega) (by omega) (fun c hc => ?_)
      rw [hS c hc, zsg, Nat.mul_add, h0 c hc, Nat.add_zero]
    by_cases hv : V = 0
    · rw [if_pos (by rw [zcap0.1]; exact hv)]
      exact skip (fun c _ => by rw [hv, Nat.zero_mul])
    · rw [if_neg (by rw [zcap0.1]; exact hv), s_hasHead vS hr hk (by omega)]
      simp only [Option.bind_some, zq_0]
      by_cases hh : zhO N r k m = true
      · rw [if_neg (by simpa using hh), xI_ok hi]
        obtain ⟨Lx, l1, l2⟩ := s_leadsTo (M := N) (m := m) (p := zph i) vM (by omega) hph
        rw [l1]
        simp only [Option.bind_some]
        obtain ⟨N1, a1, a2, a3⟩ := s_add2 (x := Lx &&& al) (R := zcap V) hcl 9 5000 0 N (fun c => zcap (S c + V * zsg (fun m => if zT N r k m (zph i) c then 1 else 0) m)) (by omega) (by omega) (fun c hc => ⟨zcap_le _, hS c hc⟩)
        have a1' : p_X6_addRows (Lx &&& al) (nI (zcap V)) N = some N1 := a1
        rw [a1']
        simp only [Option.bind_some]
        rw [← xI_ok hi]
        have sN : zsame N N1 := fun a c e => a2 a c (Or.inl (fun q => by subst q; simp [zscr] at e))
        obtain ⟨N2, c1, c2, c3⟩ := ih n (m + 1) N1 S (zvMov_same sN vM) (zvSong_same sN vS) (fun b hb => by rw [(zhO_same sN).2]; exact hal b hb) (by rw [a2 34 i (Or.inl (by decide))]; exact hV) (by omega) (by omega) (fun c hc => by
          rw [a3 c hc, zT_same sN, zsg, b_and, l2 c (by omega), hal c (by omega)]
          by_cases ht : zT N r k m (zph i) c = true
          · have ht2 := ht
            simp only [zT, Bool.and_eq_true] at ht2
            rw [if_pos ⟨by omega, by simp [hc, ht2.2.1, ht2.2.2]⟩, if_pos ht, zcap_add2, Nat.mul_add, Nat.mul_one, Nat.add_assoc]
          · rw [if_neg (fun q => ht (by
              have q2 := q.2
              simp only [hc, decide_true, Bool.true_and, Bool.and_eq_true] at q2
              simp only [zT, hh, q2.1, q2.2, Bool.and_self])), if_neg ht, Nat.add_zero])
        refine ⟨N2, c1, fun a c h => by rw [c2 a c h, a2 a c h], fun c hc => ?_⟩
        rw [c3 c hc, zCt_same sN]
      · rw [if_pos hh]
        exact skip (fun c _ => by
          have : zT N r k m (zph i) c = false := by simp [zT, hh]
          rw [this]
          simp)
