/-! ===== sheets: their size, by the bits of the cadences ===== -/
def zb1 (a : Nat) : Nat := a - ((a / 2 ^ 1) &&& 1431655765)
def zb2 (b : Nat) : Nat := (b &&& 858993459) + ((b / 2 ^ 2) &&& 858993459)
def zb3 (d : Nat) : Nat := (d + d / 2 ^ 4) &&& 252645135
def zb4 (e : Nat) : Nat := e + e / 2 ^ 8
def zb5 (f : Nat) : Nat := (f + f / 2 ^ 16) &&& 63
def zbN (a : Nat) : Nat := zb5 (zb4 (zb3 (zb2 (zb1 a))))
def zpc : Nat → Nat → Nat
  | 0, _ => 0
  | k + 1, c => c % 2 + zpc k (c / 2)
def zbA (l : Nat) : Nat := l - (l / 2 &&& 85)
def zbB (b : Nat) : Nat := (b &&& 51) + (b / 4 &&& 51)
def zbC (d : Nat) : Nat := (d + d / 16) &&& 15
theorem zand8 (x m : Nat) : x &&& m = 256 * (x / 256 &&& m / 256) + (x % 256 &&& m % 256) := by
  have h1 : (x &&& m) / 2 ^ 8 = x / 2 ^ 8 &&& m / 2 ^ 8 := Nat.and_div_two_pow
  have h2 : (x &&& m) % 2 ^ 8 = x % 2 ^ 8 &&& m % 2 ^ 8 := Nat.and_mod_two_pow
  have h3 := Nat.div_add_mod (x &&& m) 256
  rw [← h3]
  show 256 * ((x &&& m) / 2 ^ 8) + (x &&& m) % 2 ^ 8 = _
  rw [h1, h2]
theorem zk1 : ∀ l, l < 256 → ∀ b, b < 2 → (l / 2 + 128 * b &&& 85) = (l / 2 &&& 85) ∧ (l / 2 &&& 5592405) = (l / 2 &&& 85) ∧ (l / 2 &&& 85) ≤ l ∧ zbA l < 256 := by decide +kernel
theorem zk2 : ∀ l, l < 64 → ∀ b, b < 4 → (l + 64 * b &&& 51) = (l &&& 51) := by decide +kernel
theorem zk2' : ∀ l, l < 256 → (l &&& 3355443) = (l &&& 51) ∧ (l / 4 &&& 3355443) = (l / 4 &&& 51) ∧ zbB (zbA l) ≤ 68 ∧ zbB (zbA l) % 16 ≤ 4 ∧ zbC (zbB (zbA l)) = zpc 8 l ∧ zpc 8 l ≤ 8 := by decide +kernel
theorem zk3 : ∀ l, l < 256 → (l &&& 986895) = (l &&& 15) := by decide +kernel
theorem zk5 : ∀ h, h < 9 → ∀ l, l < 9 → zb5 (zb4 (256 * h + l)) = h + l := by decide +kernel
theorem zb1_ok {h l : Nat} (hh : h < 256) (hl : l < 256) : zb1 (256 * h + l) = 256 * zbA h + zbA l := by
  rw [zb1, zand8, show (256 * h + l) / 2 ^ 1 / 256 = h / 2 by omega, show (256 * h + l) / 2 ^ 1 % 256 = l / 2 + 128 * (h % 2) by omega]
  show 256 * h + l - (256 * (h / 2 &&& 5592405) + (l / 2 + 128 * (h % 2) &&& 85)) = _
  obtain ⟨a1, a2, a3, a4⟩ := zk1 l hl (h % 2) (by omega)
  obtain ⟨b1, b2, b3, b4⟩ := zk1 h hh 0 (by omega)
  rw [a1, b2, zbA, zbA]
  omega
theorem zb2_ok {h l : Nat} (hh : h < 256) (hl : l < 256) : zb2 (256 * h + l) = 256 * zbB h + zbB l := by
  rw [zb2, zand8, zand8 ((256 * h + l) / 2 ^ 2), show (256 * h + l) / 256 = h by omega, show (256 * h + l) % 256 = l by omega, show (256 * h + l) / 2 ^ 2 / 256 = h / 4 by omega, show (256 * h + l) / 2 ^ 2 % 256 = l / 4 + 64 * (h % 4) by omega]
  show 256 * (h &&& 3355443) + (l &&& 51) + (256 * (h / 4 &&& 3355443) + (l / 4 + 64 * (h % 4) &&& 51)) = _
  rw [zk2 (l / 4) (by omega) (h % 4) (by omega), (zk2' h hh).1, (zk2' h hh).2.1, zbB, zbB]
  omega
theorem zb3_ok {h l : Nat} (hh : h ≤ 68) (hl : l ≤ 68) (hm : h % 16 ≤ 4) : zb3 (256 * h + l) = 256 * zbC h + zbC l := by
  rw [zb3, zand8, show (256 * h + l + (256 * h + l) / 2 ^ 4) / 256 = h + h / 16 by omega, show (256 * h + l + (256 * h + l) / 2 ^ 4) % 256 = l + l / 16 + 16 * (h % 16) by omega]
  show 256 * (h + h / 16 &&& 986895) + (l + l / 16 + 16 * (h % 16) &&& 2 ^ 4 - 1) = _
  rw [zk3 _ (by omega), zbC, zbC, Nat.and_two_pow_sub_one_eq_mod]
  show _ = _ + (l + l / 16 &&& 2 ^ 4 - 1)
  rw [Nat.and_two_pow_sub_one_eq_mod]
  omega
theorem zpc_add : ∀ (a b c : Nat), zpc (a + b) c = zpc a c + zpc b (c / 2 ^ a)
  | 0, b, c => by simp [zpc]
  | a + 1, b, c => by
    rw [show a + 1 + b = a + b + 1 by omega, zpc, zpc, zpc_add a b, Nat.div_div_eq_div_mul, show 2 * 2 ^ a = 2 ^ (a + 1) by omega]
    omega
theorem zpc_mod : ∀ (a c : Nat), zpc a (c % 2 ^ a) = zpc a c
  | 0, c => rfl
  | a + 1, c => by
    rw [zpc, zpc, ← zpc_mod a (c / 2), show c % 2 ^ (a + 1) / 2 = c / 2 % 2 ^ a by rw [Nat.pow_succ, Nat.mul_comm, Nat.mod_mul_right_div_self], show c % 2 ^ (a + 1) % 2 = c % 2 by rw [Nat.pow_succ, Nat.mul_comm, Nat.mod_mul_right_mod]]
theorem zbN_ok {c : Nat} (hc : c < 65536) : zbN c = zpc 16 c := by
  have e : c = 256 * (c / 256) + c % 256 := by omega
  have h1 : c / 256 < 256 := by omega
  have h2 : c % 256 < 256 := by omega
  have e2 : zpc 16 c = zpc 8 (c % 256) + zpc 8 (c / 256) := by
    rw [show (16 : Nat) = 8 + 8 from rfl, zpc_add, ← zpc_mod 8 c]
  rw [e2]
  generalize c / 256 = h at *
  generalize c % 256 = l at *
  obtain ⟨-, -, a3, a4, a5, a6⟩ := zk2' h h1
  obtain ⟨-, -, b3, b4, b5, b6⟩ := zk2' l h2
  rw [e, zbN, zb1_ok h1 h2, zb2_ok (zk1 h h1 0 (by omega)).2.2.2 (zk1 l h2 0 (by omega)).2.2.2, zb3_ok a3 b3 a4, a5, b5, zk5 _ (by omega) _ (by omega)]
  omega
theorem s_bitCount {c : Nat} (hc : c < 65536) : p_J6_bitCount_0f7a4 (nI c) = some (nI (zpc 16 c)) := by
  have a1 : zb1 c < 65536 := Nat.lt_of_le_of_lt (Nat.sub_le _ _) hc
  have a2 : zb2 (zb1 c) < 2 ^ 18 := by
    have h1 := Nat.and_le_left (n := zb1 c) (m := 858993459)
    have h2 := Nat.and_le_left (n := zb1 c / 2 ^ 2) (m := 858993459)
    rw [zb2]
    omega
  have a3 : zb3 (zb2 (zb1 c)) < 2 ^ 19 := by
    have h1 := Nat.and_le_left (n := zb2 (zb1 c) + zb2 (zb1 c) / 2 ^ 4) (m := 252645135)
    rw [zb3]
    omega
  have a4 : zb4 (zb3 (zb2 (zb1 c))) < 2 ^ 20 := by
    rw [zb4]
    omega
  have g1 : nI c - (((nI c).toUInt32 >>> ((1 : Int32).toUInt32 &&& Int32.toUInt32 31)).toInt32 &&& (1431655765 : Int32)) = nI (zb1 c) := by
    rw [pk_ushrN (by omega) 1 1 (by decide), show (1431655765 : Int32) = nI 1431655765 from rfl, fa_and, pk_sub (by have := Nat.and_le_left (n := c / 2 ^ 1) (m := 1431655765); omega), zb1]
  have g2 : (nI (zb1 c) &&& (858993459 : Int32)) + (((nI (zb1 c)).toUInt32 >>> ((2 : Int32).toUInt32 &&& Int32.toUInt32 31)).toInt32 &&& (858993459 : Int32)) = nI (zb2 (zb1 c)) := by
    rw [pk_ushrN (by omega) 2 2 (by decide), show (858993459 : Int32) = nI 858993459 from rfl, fa_and, fa_and, nI_add, ← zb2]
  have g3 : (nI (zb2 (zb1 c)) + ((nI (zb2 (zb1 c))).toUInt32 >>> ((4 : Int32).toUInt32 &&& Int32.toUInt32 31)).toInt32) &&& (252645135 : Int32) = nI (zb3 (zb2 (zb1 c))) := by
    rw [pk_ushrN (by omega) 4 4 (by decide), show (252645135 : Int32) = nI 252645135 from rfl, nI_add, fa_and, ← zb3]
  have g4 : nI (zb3 (zb2 (zb1 c))) + ((nI (zb3 (zb2 (zb1 c)))).toUInt32 >>> ((8 : Int32).toUInt32 &&& Int32.toUInt32 31)).toInt32 = nI (zb4 (zb3 (zb2 (zb1 c)))) := by
    rw [pk_ushrN (by omega) 8 8 (by decide), nI_add, ← zb4]
  have g5 : (nI (zb4 (zb3 (zb2 (zb1 c)))) + ((nI (zb4 (zb3 (zb2 (zb1 c))))).toUInt32 >>> ((16 : Int32).toUInt32 &&& Int32.toUInt32 31)).toInt32) &&& (63 : Int32) = nI (zbN c) := by
    rw [pk_ushrN (by omega) 16 16 (by decide), show (63 : Int32) = nI 63 from rfl, nI_add, fa_and, ← zb5, ← zbN]
  rw [p_J6_bitCount_0f7a4, g1, g2, g3, g4, g5, zbN_ok hc]
theorem zpc_bits : ∀ (k c : Nat), zpc k c = zsg (fun i => if c.testBit i then 1 else 0) k
  | 0, c => rfl
  | k + 1, c => by
    rw [zpc, zpc_bits k (c / 2), zsg_head]
    congr 1
    · have := Nat.mod_two_eq_zero_or_one c
      rcases this with h | h <;> simp [Nat.testBit_zero, h]
    · exact zsg_congr (fun i _ => by rw [Nat.testBit_succ])
theorem zsg_more {f : Nat → Nat} {n : Nat} : ∀ {k : Nat}, (∀ i, n ≤ i → f i = 0) → zsg f (n + k) = zsg f n
  | 0, _ => rfl
  | k + 1, h => by rw [← Nat.add_assoc, zsg, zsg_more (k := k) h, h _ (by omega)]; rfl
theorem zalone {c n ps : Nat} : ∀ k, zcnts (fun i => c.testBit i) ps k = zsg (fun i => if c.testBit i then 1 else 0) k + (k - zsg (fun i => if c.testBit i then 1 else 0) k) * ps ∧ zsg (fun i => if c.testBit i then 1 else 0) k ≤ k
  | 0 => by simp [zcnts, zsg]
  | k + 1 => by
    obtain ⟨h1, h2⟩ := zalone (c := c) (n := n) (ps := ps) k
    rw [zcnts, zsg, h1, zcnt]
    by_cases hb : c.testBit k = true
    · rw [if_pos hb, if_pos hb, show k + 1 - (zsg (fun i => if c.testBit i = true then 1 else 0) k + 1) = k - zsg (fun i => if c.testBit i = true then 1 else 0) k by omega]
      constructor <;> omega
    · rw [if_neg hb, if_neg hb, show k + 1 - (zsg (fun i => if c.testBit i = true then 1 else 0) k + 0) = k - zsg (fun i => if c.testBit i = true then 1 else 0) k + 1 by omega, Nat.add_mul]
      constructor <;> omega
theorem s_size {M : zM} {R n c : Nat} (v : zvRules M) (hR : R < 5) (hn : n ≤ 16) (hc : c < 2 ^ n) : p_X4_variationSize (nI R) (nI n) (nI c) M = some (nI (zcnts (fun i => c.testBit i) (zps M R) n)) := by
  have q1 := zix (m := R) (n := 5) hR (by omega)
  have hc2 : c < 65536 := Nat.lt_of_lt_of_le hc (show 2 ^ n ≤ 2 ^ 16 from Nat.pow_le_pow_right (by omega) hn)
  obtain ⟨h1, h2⟩ := zalone (c := c) (n := n) (ps := zps M R) n
  obtain ⟨p1, p2, p3, p4⟩ := zps_ok v hR
  have e : zpc 16 c = zsg (fun i => if c.testBit i then 1 else 0) n := by
    rw [zpc_bits, show 16 = n + (16 - n) by omega]
    refine zsg_more (fun i hi => ?_)
    rw [Nat.testBit_lt_two_pow (Nat.lt_of_lt_of_le hc (Nat.pow_le_pow_right (by omega) hi))]
    rfl
  rw [p_X4_variationSize, s_bitCount hc2]
  simp only [Option.bind_some, q1, if_false]
  rw [zcl' (by omega), p4, e, pk_sub h2, pk_mul, nI_add, h1]
theorem zbd : ∀ n, n < 17 → ((1 : Int32) <<< (nI n &&& 31)) - (1 : Int32) = nI (2 ^ n - 1) := by decide +kernel
