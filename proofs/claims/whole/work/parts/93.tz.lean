/-! trailing noughts of any set of at most 24 -/
theorem g_tz24 : ∀ b, b < 24 → (if 0 < nI (2 ^ b - 1) then (if nI (2 ^ b - 1) ≤ (65536 : Int32) then FJ6_numberOfTrailingZeros_0f7a4_j34 g_mu0 (nI (2 ^ b - 1)) (nI 1) else FJ6_numberOfTrailingZeros_0f7a4_j34 g_mu0 ((Int32.toUInt32 (nI (2 ^ b - 1)) >>> (Int32.toUInt32 (nI 16) &&& Int32.toUInt32 31)).toInt32) ((nI 1) + (nI 16))) else some (nI (2 ^ b - 1) &&& nI 32)) = some (nI b) := by decide +kernel
theorem sf_tz24 {S b : Nat} (mu : bs_Mm) (hS : S < 2 ^ 24) (h : S.testBit b = true) (hl : ∀ j, j < b → S.testBit j = false) : FJ6_numberOfTrailingZeros_0f7a4 mu (nI S) = some (nI b) := by
  have hb : b < 24 := g_tb_lt hS h
  have hz := g_nz0 h
  have e : (nI S ^^^ (-1)) &&& (nI S - nI 1) = nI (2 ^ b - 1) := by
    rw [fn_not, fn_sub (by omega), fa_and, ← g_tzm b 32 S (by omega) h hl]
  unfold FJ6_numberOfTrailingZeros_0f7a4
  rw [e]
  exact g_tz24 b hb
