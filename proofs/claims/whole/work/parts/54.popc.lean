/-! HOW MANY BITS (own): Integer.bitCount counts them -/
def pc_n (n : Nat) : Nat → Nat := g_sm (fun i => n / 2 ^ i % 2)
theorem pc_and {a b c d : Nat} (ha : a < 256) (hc : c < 256) : (a + 256 * b) &&& (c + 256 * d) = (a &&& c) + 256 * (b &&& d) := by
  have h1 := Nat.and_mod_two_pow (a := a + 256 * b) (b := c + 256 * d) (n := 8)
  have h2 := Nat.and_div_two_pow (a := a + 256 * b) (b := c + 256 * d) (n := 8)
  rw [show (a + 256 * b) % 2 ^ 8 = a by omega, show (c + 256 * d) % 2 ^ 8 = c by omega] at h1
  rw [show (a + 256 * b) / 2 ^ 8 = b by omega, show (c + 256 * d) / 2 ^ 8 = d by omega] at h2
  have := Nat.div_add_mod ((a + 256 * b) &&& (c + 256 * d)) (2 ^ 8)
  rw [h1, h2] at this
  omega
def pc_1 (M n : Nat) : Nat := n - (n / 2 &&& M)
def pc_2 (M n : Nat) : Nat := (n &&& M) + (n / 4 &&& M)
def pc_3 (M n : Nat) : Nat := (n + n / 16) &&& M
theorem pc_1a : ∀ b, b < 256 → ∀ e, e < 2 → (b / 2 + 128 * e) &&& 0x55 = b / 2 &&& 0x55 := by decide +kernel
theorem pc_1b : ∀ b, b < 256 → pc_1 0x55 b < 256 ∧ (b / 2 &&& 0x55) ≤ b := by decide +kernel
theorem pc_2a : ∀ b, b < 256 → ∀ e, e < 4 → (b / 4 + 64 * e) &&& 0x33 = b / 4 &&& 0x33 := by decide +kernel
theorem pc_2b : ∀ b, b < 256 → pc_2 0x33 b ≤ 0x66 ∧ (b &&& 0x33) < 256 := by decide +kernel
theorem pc_c : ∀ b, b < 256 → pc_2 0x33 (pc_1 0x55 b) ≤ 0x44 ∧ pc_2 0x33 (pc_1 0x55 b) % 16 ≤ 4 ∧ pc_3 0x0f (pc_2 0x33 (pc_1 0x55 b)) = pc_n b 8 ∧ pc_n b 8 ≤ 8 := by decide +kernel
theorem pc_s1 {b r M : Nat} (hb : b < 256) : pc_1 (0x55 + 256 * M) (b + 256 * r) = pc_1 0x55 b + 256 * pc_1 M r := by
  unfold pc_1
  have e : (b + 256 * r) / 2 = (b / 2 + 128 * (r % 2)) + 256 * (r / 2) := by omega
  rw [e, pc_and (by omega) (by decide), pc_1a b hb _ (by omega)]
  have h1 := (pc_1b b hb).2
  have h2 : r / 2 &&& M ≤ r := Nat.le_trans Nat.and_le_left (Nat.div_le_self _ _)
  omega
theorem pc_s2 {b r M : Nat} (hb : b < 256) : pc_2 (0x33 + 256 * M) (b + 256 * r) = pc_2 0x33 b + 256 * pc_2 M r := by
  unfold pc_2
  have e : (b + 256 * r) / 4 = (b / 4 + 64 * (r % 4)) + 256 * (r / 4) := by omega
  rw [e, pc_and (by omega) (by decide), pc_and (by omega) (by decide), pc_2a b hb _ (by omega)]
  omega
theorem pc_s3 {b r M : Nat} (hb : b ≤ 0x44) (hr : r % 16 ≤ 4) : pc_3 (0x0f + 256 * M) (b + 256 * r) = pc_3 0x0f b + 256 * pc_3 M r := by
  unfold pc_3
  have e : b + 256 * r + (b + 256 * r) / 16 = (b + b / 16 + 16 * (r % 16)) + 256 * (r + r / 16) := by omega
  rw [e, pc_and (by omega) (by decide)]
  have h : ∀ x, x &&& 0x0f = x % 16 := fun x => Nat.and_two_pow_sub_one_eq_mod x 4
  rw [h, h]
  omega
theorem pc_n8 {b r : Nat} (hb : b < 256) (k : Nat) : pc_n (b + 256 * r) (8 + k) = pc_n b 8 + pc_n r k := by
  induction k with
  | zero =>
    have h : ∀ j, j ≤ 8 → pc_n (b + 256 * r) j = pc_n b j := by
      intro j
      induction j with
      | zero => intro _; rfl
      | succ j ih =>
        intro hj
        have e : (b + 256 * r) / 2 ^ j % 2 = b / 2 ^ j % 2 := by
          have : j = 0 ∨ j = 1 ∨ j = 2 ∨ j = 3 ∨ j = 4 ∨ j = 5 ∨ j = 6 ∨ j = 7 := by omega
          rcases this with rfl | rfl | rfl | rfl | rfl | rfl | rfl | rfl <;> omega
        show pc_n (b + 256 * r) j + (b + 256 * r) / 2 ^ j % 2 = pc_n b j + b / 2 ^ j % 2
        rw [ih (by omega), e]
    exact h 8 (Nat.le_refl _)
  | succ k ih =>
    have e : (b + 256 * r) / 2 ^ (8 + k) = r / 2 ^ k := by
      rw [Nat.pow_add, ← Nat.div_div_eq_div_mul, show (b + 256 * r) / 2 ^ 8 = r by omega]
    show pc_n (b + 256 * r) (8 + k) + (b + 256 * r) / 2 ^ (8 + k) % 2 = pc_n b 8 + (pc_n r k + r / 2 ^ k % 2)
    rw [ih, e]
    omega
theorem pc_all {n : Nat} (hn : n < 2 ^ 32) : pc_3 0x0f0f0f0f (pc_2 0x33333333 (pc_1 0x55555555 n)) = pc_n (n % 256) 8 + 256 * (pc_n (n / 256 % 256) 8 + 256 * (pc_n (n / 65536 % 256) 8 + 256 * pc_n (n / 16777216) 8)) := by
  have hb0 : n % 256 < 256 := Nat.mod_lt _ (by decide)
  have hb1 : n / 256 % 256 < 256 := Nat.mod_lt _ (by decide)
  have hb2 : n / 65536 % 256 < 256 := Nat.mod_lt _ (by decide)
  have hb3 : n / 16777216 < 256 := by omega
  have e0 : n = n % 256 + 256 * (n / 256) := by omega
  have e1 : n / 256 = n / 256 % 256 + 256 * (n / 65536) := by omega
  have e2 : n / 65536 = n / 65536 % 256 + 256 * (n / 16777216) := by omega
  generalize n % 256 = b0 at *
  generalize n / 256 % 256 = b1 at *
  generalize n / 65536 % 256 = b2 at *
  generalize n / 16777216 = b3 at *
  rw [e2] at e1
  rw [e1] at e0
  rw [e0]
  have c0 := pc_c b0 hb0
  have c1 := pc_c b1 hb1
  have c2 := pc_c b2 hb2
  have c3 := pc_c b3 hb3
  have d0 := (pc_1b b0 hb0).1
  have d1 := (pc_1b b1 hb1).1
  have d2 := (pc_1b b2 hb2).1
  rw [show (0x55555555 : Nat) = 0x55 + 256 * (0x55 + 256 * (0x55 + 256 * 0x55)) from rfl, pc_s1 hb0, pc_s1 hb1, pc_s1 hb2]
  rw [show (0x33333333 : Nat) = 0x33 + 256 * (0x33 + 256 * (0x33 + 256 * 0x33)) from rfl, pc_s2 d0, pc_s2 d1, pc_s2 d2]
  rw [show (0x0f0f0f0f : Nat) = 0x0f + 256 * (0x0f + 256 * (0x0f + 256 * 0x0f)) from rfl, pc_s3 c0.1 (by omega), pc_s3 c1.1 (by omega), pc_s3 c2.1 (by omega), c0.2.2.1, c1.2.2.1, c2.2.2.1, c3.2.2.1]
theorem pc_sum {n : Nat} (hn : n < 2 ^ 32) : pc_n n 32 = pc_n (n % 256) 8 + (pc_n (n / 256 % 256) 8 + (pc_n (n / 65536 % 256) 8 + pc_n (n / 16777216) 8)) := by
  have e0 : n = n % 256 + 256 * (n / 256) := by omega
  have e1 : n / 256 = n / 256 % 256 + 256 * (n / 65536) := by omega
  have e2 : n / 65536 = n / 65536 % 256 + 256 * (n / 16777216) := by omega
  have s0 := pc_n8 (b := n % 256) (r := n / 256) (by omega) 24
  have s1 := pc_n8 (b := n / 256 % 256) (r := n / 65536) (by omega) 16
  have s2 := pc_n8 (b := n / 65536 % 256) (r := n / 16777216) (by omega) 8
  rw [← e0] at s0
  rw [← e1] at s1
  rw [← e2] at s2
  rw [s0, s1, s2]
theorem pc_end {n : Nat} (hn : n < 2 ^ 32) : ((let a := pc_3 0x0f0f0f0f (pc_2 0x33333333 (pc_1 0x55555555 n)); let b := a + a / 256; b + b / 65536) &&& 63) = pc_n n 32 := by
  have h : ∀ x, x &&& 63 = x % 64 := fun x => Nat.and_two_pow_sub_one_eq_mod x 6
  rw [h, pc_sum hn, pc_all hn]
  have c0 := (pc_c (n % 256) (by omega)).2.2.2
  have c1 := (pc_c (n / 256 % 256) (by omega)).2.2.2
  have c2 := (pc_c (n / 65536 % 256) (by omega)).2.2.2
  have c3 := (pc_c (n / 16777216) (by omega)).2.2.2
  generalize pc_n (n % 256) 8 = t0 at *
  generalize pc_n (n / 256 % 256) 8 = t1 at *
  generalize pc_n (n / 65536 % 256) 8 = t2 at *
  generalize pc_n (n / 16777216) 8 = t3 at *
  have d1 : (t0 + 256 * (t1 + 256 * (t2 + 256 * t3))) / 256 = t1 + 256 * (t2 + 256 * t3) := by omega
  have d2 : (t0 + 256 * (t1 + 256 * (t2 + 256 * t3)) + (t1 + 256 * (t2 + 256 * t3))) / 65536 = t2 + t3 + 256 * t3 := by omega
  show (t0 + 256 * (t1 + 256 * (t2 + 256 * t3)) + (t0 + 256 * (t1 + 256 * (t2 + 256 * t3))) / 256 + (t0 + 256 * (t1 + 256 * (t2 + 256 * t3)) + (t0 + 256 * (t1 + 256 * (t2 + 256 * t3))) / 256) / 65536) % 64 = _
  rw [d1, d2]
  omega
theorem pc_us {n k : Nat} (hn : n < 2 ^ 32) (hk : k < 32) : (Int32.toUInt32 (nI n) >>> (Int32.toUInt32 (nI k) &&& Int32.toUInt32 31)).toInt32 = nI (n / 2 ^ k) := by
  apply Int32.toBitVec_inj.1
  apply BitVec.eq_of_toNat_eq
  have e : (Int32.toUInt32 (nI k) &&& Int32.toUInt32 31).toNat = k := by
    have : ∀ k, k < 32 → (Int32.toUInt32 (nI k) &&& Int32.toUInt32 31).toNat = k := by decide +kernel
    exact this k hk
  have e1 : (Int32.toUInt32 (nI n)).toNat = n := by
    show (BitVec.ofNat 32 n).toNat = n
    rw [BitVec.toNat_ofNat]
    exact Nat.mod_eq_of_lt hn
  have e2 : (Int32.toUInt32 (nI n) >>> (Int32.toUInt32 (nI k) &&& Int32.toUInt32 31)).toNat = n / 2 ^ k := by
    rw [UInt32.toNat_shiftRight, e, e1, Nat.mod_eq_of_lt (by omega), Nat.shiftRight_eq_div_pow]
  show (Int32.toUInt32 (nI n) >>> (Int32.toUInt32 (nI k) &&& Int32.toUInt32 31)).toNat = (BitVec.ofNat 32 (n / 2 ^ k)).toNat
  rw [e2, BitVec.toNat_ofNat, Nat.mod_eq_of_lt (Nat.lt_of_le_of_lt (Nat.div_le_self _ _) hn)]
theorem pc_1_le {n M : Nat} : pc_1 M n ≤ n := Nat.sub_le _ _
theorem pc_bits (mu : bs_Mm) {n : Nat} (hn : n < 2 ^ 32) : FJ6_bitCount_0f7a4 mu (nI n) = some (nI (pc_n n 32)) := by
  unfold FJ6_bitCount_0f7a4
  rw [show (1431655765 : Int32) = nI 0x55555555 from rfl, show (858993459 : Int32) = nI 0x33333333 from rfl, show (252645135 : Int32) = nI 0x0f0f0f0f from rfl]
  have h1 : n / 2 &&& 0x55555555 ≤ n := Nat.le_trans Nat.and_le_left (Nat.div_le_self _ _)
  have h2 : nI n - ((Int32.toUInt32 (nI n) >>> (Int32.toUInt32 (nI 1) &&& Int32.toUInt32 31)).toInt32 &&& nI 0x55555555) = nI (pc_1 0x55555555 n) := by
    rw [pc_us hn (by decide), fa_and, Nat.pow_one, fn_sub h1]; rfl
  rw [h2]
  have l1 : pc_1 0x55555555 n < 2 ^ 32 := Nat.lt_of_le_of_lt pc_1_le hn
  have h3 : (nI (pc_1 0x55555555 n) &&& nI 0x33333333) + ((Int32.toUInt32 (nI (pc_1 0x55555555 n)) >>> (Int32.toUInt32 (nI 2) &&& Int32.toUInt32 31)).toInt32 &&& nI 0x33333333) = nI (pc_2 0x33333333 (pc_1 0x55555555 n)) := by
    rw [pc_us l1 (by decide), fa_and, fa_and, fn_add]; rfl
  rw [h3]
  have l2 : pc_2 0x33333333 (pc_1 0x55555555 n) < 2 ^ 32 := by
    have a := Nat.and_le_right (n := pc_1 0x55555555 n) (m := 0x33333333)
    have b := Nat.and_le_right (n := pc_1 0x55555555 n / 4) (m := 0x33333333)
    unfold pc_2
    omega
  have h4 : (nI (pc_2 0x33333333 (pc_1 0x55555555 n)) + (Int32.toUInt32 (nI (pc_2 0x33333333 (pc_1 0x55555555 n))) >>> (Int32.toUInt32 (nI 4) &&& Int32.toUInt32 31)).toInt32) &&& nI 0x0f0f0f0f = nI (pc_3 0x0f0f0f0f (pc_2 0x33333333 (pc_1 0x55555555 n))) := by
    rw [pc_us l2 (by decide), fn_add, fa_and]; rfl
  rw [h4]
  have l3 : pc_3 0x0f0f0f0f (pc_2 0x33333333 (pc_1 0x55555555 n)) ≤ 0x0f0f0f0f := Nat.and_le_right
  have e := pc_end hn
  generalize pc_3 0x0f0f0f0f (pc_2 0x33333333 (pc_1 0x55555555 n)) = a at *
  rw [pc_us (by omega) (by decide), fn_add, pc_us (by omega) (by decide), fn_add, fa_and]
  rw [← e]
