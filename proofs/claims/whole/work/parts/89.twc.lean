/-! TWICE: the class's walk over all sets -/
def g_gr (i : Nat) : Nat := i ^^^ (i / 2)
theorem g_gr_d (i : Nat) : g_gr i / 2 = g_gr (i / 2) := g_xor_d i (i / 2)
theorem g_gr_m (i : Nat) : g_gr i % 2 = i % 2 ^^^ (i / 2) % 2 := g_xor_m i (i / 2)
theorem g_gr_lt {i n : Nat} (h : i < 2 ^ n) : g_gr i < 2 ^ n := g_xor_lt h (by omega)
theorem g_gr_st : ∀ b i, i.testBit b = true → (∀ j, j < b → i.testBit j = false) → g_gr i = g_gr (i - 1) ^^^ 2 ^ b := by
  intro b
  induction b with
  | zero =>
    intro i h _
    have h1 := g_tb0 h
    have d := g_xor_d (g_gr (i - 1)) (2 ^ 0)
    have m := g_xor_m (g_gr (i - 1)) (2 ^ 0)
    rw [g_gr_d, show (i - 1) / 2 = i / 2 by omega, show (2 : Nat) ^ 0 / 2 = 0 from rfl, Nat.xor_zero] at d
    rw [g_gr_m, show (i - 1) / 2 = i / 2 by omega, show (i - 1) % 2 = 0 by omega, Nat.zero_xor] at m
    refine g_d2 (by rw [d, g_gr_d]) ?_
    rw [m, g_gr_m, h1]
    rcases g_m01 (i / 2) with e | e <;> rw [e] <;> rfl
  | succ b ih =>
    intro i h hl
    have h0 := g_tb0n (hl 0 (by omega))
    have hz := g_nz0 h
    have i1 := ih (i / 2) (by rw [Nat.testBit_div_two]; exact h) (fun j hj => by rw [Nat.testBit_div_two]; exact hl (j + 1) (by omega))
    have p : 2 ^ (b + 1) = 2 * 2 ^ b := by rw [Nat.pow_succ]; omega
    have d := g_xor_d (g_gr (i - 1)) (2 ^ (b + 1))
    have m := g_xor_m (g_gr (i - 1)) (2 ^ (b + 1))
    rw [g_gr_d, show (i - 1) / 2 = i / 2 - 1 by omega, show 2 ^ (b + 1) / 2 = 2 ^ b by omega, ← i1] at d
    rw [g_gr_m, show (i - 1) / 2 = i / 2 - 1 by omega, show (i - 1) % 2 = 1 by omega, show 2 ^ (b + 1) % 2 = 0 by omega, Nat.xor_zero] at m
    refine g_d2 (by rw [d, g_gr_d]) ?_
    rw [m, g_gr_m, h0]
    rcases g_m01 (i / 2) with e | e
    · rw [e, show (i / 2 - 1) % 2 = 1 by omega]
      rfl
    · rw [e, show (i / 2 - 1) % 2 = 0 by omega]
      rfl
theorem g_gr_on : ∀ n T, T < 2 ^ n → ∃ i, i < 2 ^ n ∧ g_gr i = T := by
  intro n
  induction n with
  | zero =>
    intro T h
    have : T = 0 := by
      have : T < 1 := h
      omega
    exact ⟨0, by decide, by rw [this]; rfl⟩
  | succ n ih =>
    intro T h
    have p : 2 ^ (n + 1) = 2 * 2 ^ n := by rw [Nat.pow_succ]; omega
    obtain ⟨k, k1, k2⟩ := ih (T / 2) (by omega)
    have c2 : ∀ a b : Nat, a < 2 → b < 2 → ∃ c, c < 2 ∧ c ^^^ b = a := by
      intro a b ha hb
      have ha : a = 0 ∨ a = 1 := by omega
      have hb : b = 0 ∨ b = 1 := by omega
      rcases ha with rfl | rfl <;> rcases hb with rfl | rfl
      · exact ⟨0, by decide, rfl⟩
      · exact ⟨1, by decide, rfl⟩
      · exact ⟨1, by decide, rfl⟩
      · exact ⟨0, by decide, rfl⟩
    obtain ⟨c, hc, hc2⟩ := c2 (T % 2) (k % 2) (by omega) (by omega)
    have e : (2 * k + c) / 2 = k := by omega
    refine ⟨2 * k + c, by omega, g_d2 ?_ ?_⟩
    · rw [g_gr_d, e, k2]
    · rw [g_gr_m, e, show (2 * k + c) % 2 = c by omega, hc2]
theorem g_om_tg {G : bs_G} {b : Nat} (hb : b < g_nu G) (T : Nat) : g_om G (T ^^^ 2 ^ b) (g_nu G) = g_om G T (g_nu G) ^^^ g_eb G b := by
  cases c : T.testBit b with
  | true =>
    have := g_om_rm (G := G) c (g_nu G)
    rw [if_pos hb] at this
    rw [this, Nat.xor_assoc, Nat.xor_self, Nat.xor_zero]
  | false =>
    have c2 : (T ^^^ 2 ^ b).testBit b = true := by rw [Nat.testBit_xor, c, Nat.testBit_two_pow_self]; rfl
    have := g_om_rm (G := G) c2 (g_nu G)
    rw [if_pos hb, g_xx] at this
    exact this
/-- what is twice over leaves at most two odd points -/
def g_tk (G : bs_G) (T : Nat) : Prop := pc_n (g_od G (g_nu G) ^^^ g_om G T (g_nu G)) 32 ≤ 2
def kT (G : bs_G) (l : Nat) : Prop := (l = 1000000 ∨ ∃ T, T < 2 ^ g_nu G ∧ T ≠ 0 ∧ g_tk G T ∧ l = g_wt G T (g_nu G)) ∧ ∀ T, T < 2 ^ g_nu G → T ≠ 0 → g_tk G T → l ≤ g_wt G T (g_nu G)
