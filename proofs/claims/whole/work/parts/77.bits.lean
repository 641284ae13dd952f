/-! MADE: numbers of the class's table: the lowest, the others, trailing noughts -/
theorem g_xor_d (a b : Nat) : (a ^^^ b) / 2 = a / 2 ^^^ b / 2 := by
  have := Nat.xor_div_two_pow (a := a) (b := b) (n := 1)
  exact this
theorem g_xor_m (a b : Nat) : (a ^^^ b) % 2 = a % 2 ^^^ b % 2 := by
  have := Nat.xor_mod_two_pow (a := a) (b := b) (n := 1)
  exact this
theorem g_d2 {a b : Nat} (h1 : a / 2 = b / 2) (h2 : a % 2 = b % 2) : a = b := by omega
theorem g_tb0 {S : Nat} (h : S.testBit 0 = true) : S % 2 = 1 := by
  rw [Nat.testBit_zero] at h
  exact of_decide_eq_true h
theorem g_tb0n {S : Nat} (h : S.testBit 0 = false) : S % 2 = 0 := by
  rw [Nat.testBit_zero] at h
  have := of_decide_eq_false h
  omega
theorem g_m01 (a : Nat) : a % 2 = 0 ∨ a % 2 = 1 := by omega
theorem g_lo : ∀ b S, S.testBit b = true → (∀ j, j < b → S.testBit j = false) → S &&& (S - 1) = S ^^^ 2 ^ b := by
  intro b
  induction b with
  | zero =>
    intro S h _
    have h1 := g_tb0 h
    have d := g_and_d S (S - 1)
    have m := g_and_m S (S - 1)
    have e := g_xor_d S (2 ^ 0)
    have f := g_xor_m S (2 ^ 0)
    rw [show (S - 1) / 2 = S / 2 by omega, Nat.and_self] at d
    rw [show (S - 1) % 2 = 0 by omega, Nat.and_zero] at m
    rw [show (2 : Nat) ^ 0 / 2 = 0 from rfl, Nat.xor_zero] at e
    rw [h1, show (1 : Nat) ^^^ 2 ^ 0 % 2 = 0 from rfl] at f
    exact g_d2 (by rw [d, e]) (by rw [m, f])
  | succ b ih =>
    intro S h hl
    have h0 := g_tb0n (hl 0 (by omega))
    have hz := g_nz0 h
    have i := ih (S / 2) (by rw [Nat.testBit_div_two]; exact h) (fun j hj => by rw [Nat.testBit_div_two]; exact hl (j + 1) (by omega))
    have d := g_and_d S (S - 1)
    have m := g_and_m S (S - 1)
    have e := g_xor_d S (2 ^ (b + 1))
    have f := g_xor_m S (2 ^ (b + 1))
    have p : 2 ^ (b + 1) = 2 * 2 ^ b := by rw [Nat.pow_succ]; omega
    rw [show (S - 1) / 2 = S / 2 - 1 by omega, i] at d
    rw [h0, Nat.zero_and] at m
    rw [show 2 ^ (b + 1) / 2 = 2 ^ b by omega] at e
    rw [h0, show 2 ^ (b + 1) % 2 = 0 by omega, Nat.xor_zero] at f
    exact g_d2 (by rw [d, e]) (by rw [m, f])
theorem g_tzm : ∀ b n S, S < 2 ^ n → S.testBit b = true → (∀ j, j < b → S.testBit j = false) → (S ^^^ (2 ^ n - 1)) &&& (S - 1) = 2 ^ b - 1 := by
  intro b
  induction b with
  | zero =>
    intro n S hn h _
    apply Nat.eq_of_testBit_eq
    intro i
    have h1 := g_tb0 h
    rw [Nat.testBit_and, Nat.testBit_xor, Nat.testBit_two_pow_sub_one, show (2 : Nat) ^ 0 - 1 = 0 from rfl, Nat.zero_testBit]
    cases i with
    | zero =>
      have z : decide ((S - 1) % 2 = 1) = false := decide_eq_false (by omega)
      rw [Nat.testBit_zero (S - 1), z, Bool.and_false]
    | succ i =>
      have e : (S - 1).testBit (i + 1) = S.testBit (i + 1) := by rw [← Nat.testBit_div_two, ← Nat.testBit_div_two, show (S - 1) / 2 = S / 2 by omega]
      rw [e]
      cases c : S.testBit (i + 1) with
      | false => rw [Bool.and_false]
      | true => rw [decide_eq_true (g_tb_lt hn c)]; rfl
  | succ b ih =>
    intro n S hn h hl
    have h0 := g_tb0n (hl 0 (by omega))
    have hz := g_nz0 h
    have bn := g_tb_lt hn h
    obtain ⟨n, rfl⟩ : ∃ k, n = k + 1 := ⟨n - 1, by omega⟩
    have pn : 2 ^ (n + 1) = 2 * 2 ^ n := by rw [Nat.pow_succ]; omega
    have i := ih n (S / 2) (by omega) (by rw [Nat.testBit_div_two]; exact h) (fun j hj => by rw [Nat.testBit_div_two]; exact hl (j + 1) (by omega))
    have d := g_and_d (S ^^^ (2 ^ (n + 1) - 1)) (S - 1)
    have m := g_and_m (S ^^^ (2 ^ (n + 1) - 1)) (S - 1)
    have q := Nat.one_le_two_pow (n := n)
    have q2 := Nat.one_le_two_pow (n := b)
    have p : 2 ^ (b + 1) = 2 * 2 ^ b := by rw [Nat.pow_succ]; omega
    rw [g_xor_d, show (2 ^ (n + 1) - 1) / 2 = 2 ^ n - 1 by omega, show (S - 1) / 2 = S / 2 - 1 by omega, i] at d
    rw [g_xor_m, h0, show (2 ^ (n + 1) - 1) % 2 = 1 by omega, show (S - 1) % 2 = 1 by omega, show ((0 : Nat) ^^^ 1) &&& 1 = 1 from rfl] at m
    exact g_d2 (by rw [d]; omega) (by rw [m]; omega)
def g_mu0 : bs_Mm := fun _ _ => .int 0
theorem g_tz1 : ∀ b, b < 24 → FJ6_numberOfTrailingZeros_0f7a4_j34 g_mu0 (nI (2 ^ (b + 1) - 1)) (nI 1) = some (nI (b + 1)) ∨ 16 ≤ b := by decide +kernel
theorem sf_tz {S b : Nat} (mu : bs_Mm) (hS : S < 65536) (h : S.testBit b = true) (hl : ∀ j, j < b → S.testBit j = false) : FJ6_numberOfTrailingZeros_0f7a4 mu (nI S) = some (nI b) := by
  have hb : b < 16 := g_tb_lt (n := 16) hS h
  have hz := g_nz0 h
  have e : (nI S ^^^ (-1)) &&& (nI S - nI 1) = nI (2 ^ b - 1) := by
    rw [fn_not, fn_sub (by omega), fa_and, ← g_tzm b 32 S (by omega) h hl]
  have pb : 2 ^ b ≤ 2 ^ 15 := Nat.pow_le_pow_right (by decide) (by omega)
  have q := Nat.one_le_two_pow (n := b)
  unfold FJ6_numberOfTrailingZeros_0f7a4
  rw [e]
  by_cases z : b = 0
  · subst z
    rfl
  · have p : 2 ^ 1 ≤ 2 ^ b := Nat.pow_le_pow_right (by decide) (show 1 ≤ b by omega)
    have : (65536 : Int32) = nI 65536 := rfl
    rw [if_pos (by rw [fn_0lt (by omega)]; omega), this, if_pos ((nI_leI (by omega) (by omega)).mpr (by omega))]
    have t := (g_tz1 (b - 1) (by omega)).resolve_right (by omega)
    rw [show b - 1 + 1 = b by omega] at t
    exact t
