/-! MADE: what the class's table keeps of a set, against the set without its lowest -/
theorem g_sm_rm {S b : Nat} (hb : S.testBit b = true) (h : Nat → Nat) : ∀ n, g_sm (fun i => if g_bt S i = 1 then h i else 0) n = g_sm (fun i => if g_bt (S ^^^ 2 ^ b) i = 1 then h i else 0) n + (if b < n then h b else 0) := by
  intro n
  induction n with
  | zero => rfl
  | succ n ih =>
    simp only [g_sm]
    rw [ih]
    by_cases e : b = n
    · subst e
      rw [if_pos (show g_bt S b = 1 by rw [g_bt_tb]; exact hb), if_neg (show ¬ g_bt (S ^^^ 2 ^ b) b = 1 by rw [g_bt_tb, g_rm_e hb]; decide), if_neg (by omega), if_pos (by omega)]
    · have q : (g_bt (S ^^^ 2 ^ b) n = 1) = (g_bt S n = 1) := by
        rw [g_bt_tb, g_bt_tb, g_rm hb]
        simp [e]
      have r : (if b < n + 1 then h b else 0) = if b < n then h b else 0 := by
        by_cases l : b < n
        · rw [if_pos l, if_pos (by omega)]
        · rw [if_neg l, if_neg (by omega)]
      rw [r]
      by_cases c : g_bt S n = 1
      · have c2 : g_bt (S ^^^ 2 ^ b) n = 1 := by rw [q]; exact c
        rw [if_pos c, if_pos c2]
        omega
      · have c2 : ¬ g_bt (S ^^^ 2 ^ b) n = 1 := by rw [q]; exact c
        rw [if_neg c, if_neg c2]
        omega
theorem g_wt_rm {G : bs_G} {S b : Nat} (hb : S.testBit b = true) (h : b < g_nu G) : g_wt G S (g_nu G) = g_wt G (S ^^^ 2 ^ b) (g_nu G) + g_le G b := by
  have := g_sm_rm hb (g_le G) (g_nu G)
  rw [if_pos h] at this
  exact this
theorem pc_bt (S n : Nat) : pc_n S n = g_sm (fun i => if g_bt S i = 1 then 1 else 0) n := by
  refine g_sm_cg _ fun i _ => ?_
  show S / 2 ^ i % 2 = _
  have e : g_bt S i = S / 2 ^ i % 2 := Nat.and_one_is_mod _
  rw [← e]
  rcases g_bt_c S i with c | c <;> rw [c] <;> rfl
theorem pc_rm {S b : Nat} (hb : S.testBit b = true) (h : b < 32) : pc_n S 32 = pc_n (S ^^^ 2 ^ b) 32 + 1 := by
  have := g_sm_rm hb (fun _ => 1) 32
  rw [if_pos h] at this
  rw [pc_bt, pc_bt]
  exact this
/-- the odd points of a set, as bits -/
def g_om (G : bs_G) (R : Nat) : Nat → Nat
  | 0 => 0
  | n + 1 => if R.testBit n = true then g_om G R n ^^^ g_eb G n else g_om G R n
theorem g_om_rm {G : bs_G} {S b : Nat} (hb : S.testBit b = true) : ∀ n, g_om G S n = g_om G (S ^^^ 2 ^ b) n ^^^ (if b < n then g_eb G b else 0) := by
  intro n
  induction n with
  | zero =>
    rw [if_neg (Nat.not_lt_zero b), Nat.xor_zero]
    rfl
  | succ n ih =>
    simp only [g_om]
    rw [ih]
    by_cases e : b = n
    · subst e
      rw [if_pos hb, if_neg (show ¬ (S ^^^ 2 ^ b).testBit b = true by rw [g_rm_e hb]; decide), if_neg (by omega), if_pos (by omega), Nat.xor_zero]
    · have q : (S ^^^ 2 ^ b).testBit n = S.testBit n := by rw [g_rm hb]; simp [e]
      have r : (if b < n + 1 then g_eb G b else 0) = if b < n then g_eb G b else 0 := by
        by_cases l : b < n
        · rw [if_pos l, if_pos (by omega)]
        · rw [if_neg l, if_neg (by omega)]
      rw [r, q]
      by_cases c : S.testBit n = true
      · rw [if_pos c, if_pos c, Nat.xor_assoc, Nat.xor_assoc, Nat.xor_comm (g_eb G n)]
      · rw [if_neg c, if_neg c]
theorem g_om_0 (G : bs_G) : ∀ n, g_om G 0 n = 0 := by
  intro n
  induction n with
  | zero => rfl
  | succ n ih => rw [g_om, if_neg (by rw [Nat.zero_testBit]; decide), ih]
theorem g_om_lt {G : bs_G} (hG : g_ok G) (R : Nat) : ∀ n, n ≤ g_nu G → g_om G R n < 2 ^ 30 := by
  intro n
  induction n with
  | zero => intro _; exact Nat.two_pow_pos 30
  | succ n ih =>
    intro hn
    have q := g_bn hG
    have b := g_bd hG (i := n) (by omega)
    have h1 : 2 ^ g_fr G n < 2 ^ 30 := Nat.pow_lt_pow_right (by decide) (by omega)
    have h2 : 2 ^ g_to G n < 2 ^ 30 := Nat.pow_lt_pow_right (by decide) (by omega)
    have a := ih (by omega)
    rw [g_om]
    split
    · exact g_xor_lt a (g_xor_lt h1 h2)
    · exact a
theorem g_b_om (G : bs_G) (R p n : Nat) : g_b (g_om G R n) p = g_es G p R n % 2 := by
  induction n with
  | zero => show 0 / 2 ^ p % 2 = 0; simp
  | succ n ih =>
    rw [g_om]
    by_cases c : R.testBit n = true
    · have c1 : g_bt R n = 1 := by rw [g_bt_tb]; exact c
      rw [if_pos c, g_b_xor, ih, g_b_eb, g_es_1 c1]
      omega
    · have c1 : g_bt R n ≠ 1 := fun h => c (by rw [g_bt_tb] at h; exact h)
      rw [if_neg c, ih, g_es_0 c1]
theorem pc_om {G : bs_G} (hG : g_ok G) (R : Nat) : pc_n (g_om G R (g_nu G)) 32 = g_on G R (g_np G) := by
  have q := g_bn hG
  have e : pc_n (g_om G R (g_nu G)) 32 = g_sm (fun p => g_es G p R (g_nu G) % 2) 32 := g_sm_cg _ fun p _ => g_b_om G R p (g_nu G)
  have z : ∀ p, g_np G ≤ p → (fun p => g_es G p R (g_nu G) % 2) p = 0 := by
    intro p hp
    have : ∀ n, n ≤ g_nu G → g_es G p R n = 0 := by
      intro n
      induction n with
      | zero => intro _; rfl
      | succ n ih =>
        intro hn
        have b := g_bd hG (i := n) (by omega)
        by_cases c : g_bt R n = 1
        · rw [g_es_1 c, ih (by omega), g_if0 (by omega), g_if0 (by omega)]
        · rw [g_es_0 c, ih (by omega)]
    show g_es G p R (g_nu G) % 2 = 0
    rw [this _ (Nat.le_refl _)]
  have e2 := g_sm_zr (h := fun p => g_es G p R (g_nu G) % 2) (n := g_np G) (32 - g_np G) z
  rw [show g_np G + (32 - g_np G) = 32 by omega] at e2
  rw [e, e2]
  rfl
/-- the points of a set, as bits -/
def g_tm (G : bs_G) (R : Nat) : Nat → Nat
  | 0 => 0
  | n + 1 => if R.testBit n = true then (g_tm G R n ||| 2 ^ g_fr G n) ||| 2 ^ g_to G n else g_tm G R n
theorem g_tm_c {G : bs_G} {R p : Nat} : ∀ n, (g_tm G R n).testBit p = true ↔ ∃ i, i < n ∧ R.testBit i = true ∧ (g_fr G i = p ∨ g_to G i = p) := by
  intro n
  induction n with
  | zero =>
    constructor
    · intro h
      rw [g_tm, Nat.zero_testBit] at h
      cases h
    · rintro ⟨i, h, -⟩
      omega
  | succ n ih =>
    rw [g_tm]
    by_cases c : R.testBit n = true
    · rw [if_pos c, Nat.testBit_or, Nat.testBit_or, Nat.testBit_two_pow, Nat.testBit_two_pow]
      constructor
      · intro h
        by_cases h1 : g_fr G n = p
        · exact ⟨n, by omega, c, Or.inl h1⟩
        · by_cases h2 : g_to G n = p
          · exact ⟨n, by omega, c, Or.inr h2⟩
          · rw [decide_eq_false h1, decide_eq_false h2, Bool.or_false, Bool.or_false] at h
            obtain ⟨i, i1, i2⟩ := ih.mp h
            exact ⟨i, by omega, i2⟩
      · rintro ⟨i, i1, i2, i3⟩
        by_cases e : i = n
        · subst e
          rcases i3 with h | h <;> simp [h]
        · have := ih.mpr ⟨i, by omega, i2, i3⟩
          rw [this]
          rfl
    · rw [if_neg c]
      constructor
      · intro h
        obtain ⟨i, i1, i2⟩ := ih.mp h
        exact ⟨i, by omega, i2⟩
      · rintro ⟨i, i1, i2, i3⟩
        refine ih.mpr ⟨i, ?_, i2, i3⟩
        have : i ≠ n := fun e => c (by rw [← e]; exact i2)
        omega
theorem g_tm_rm {G : bs_G} {S b : Nat} (hb : S.testBit b = true) (h : b < g_nu G) : g_tm G S (g_nu G) = (g_tm G (S ^^^ 2 ^ b) (g_nu G) ||| 2 ^ g_fr G b) ||| 2 ^ g_to G b := by
  refine g_sub_eq (fun p hp => ?_) (fun p hp => ?_)
  · obtain ⟨i, i1, i2, i3⟩ := (g_tm_c _).mp hp
    rw [Nat.testBit_or, Nat.testBit_or, Nat.testBit_two_pow, Nat.testBit_two_pow]
    by_cases e : b = i
    · subst e
      rcases i3 with h | h <;> simp [h]
    · rw [(g_tm_c _).mpr ⟨i, i1, g_rm_y hb i2 e, i3⟩]
      rfl
  · rw [Nat.testBit_or, Nat.testBit_or, Nat.testBit_two_pow, Nat.testBit_two_pow] at hp
    by_cases h1 : g_fr G b = p
    · exact (g_tm_c _).mpr ⟨b, h, hb, Or.inl h1⟩
    · by_cases h2 : g_to G b = p
      · exact (g_tm_c _).mpr ⟨b, h, hb, Or.inr h2⟩
      · rw [decide_eq_false h1, decide_eq_false h2, Bool.or_false, Bool.or_false] at hp
        obtain ⟨i, i1, i2, i3⟩ := (g_tm_c _).mp hp
        exact (g_tm_c _).mpr ⟨i, i1, g_rm_s hb i i2, i3⟩
theorem g_tm_0 (G : bs_G) : ∀ n, g_tm G 0 n = 0 := by
  intro n
  induction n with
  | zero => rfl
  | succ n ih => rw [g_tm, if_neg (by rw [Nat.zero_testBit]; decide), ih]
theorem g_tm_lt {G : bs_G} (hG : g_ok G) (R : Nat) : g_tm G R (g_nu G) < 2 ^ 30 := by
  have q := g_bn hG
  refine g_lt_of fun p hp => ?_
  obtain ⟨i, i1, -, i3⟩ := (g_tm_c _).mp hp
  have := g_bd hG i1
  rcases i3 with h | h <;> omega
theorem g_tm_tch {G : bs_G} {R i : Nat} (hi : i < g_nu G) : ¬ (g_tm G R (g_nu G) &&& g_tm G (2 ^ i) (g_nu G) = 0) ↔ g_tch G i R = true := by
  rw [g_tch_c]
  constructor
  · intro h
    obtain ⟨p, hp⟩ := g_nz h
    rw [Nat.testBit_and] at hp
    have h1 : (g_tm G R (g_nu G)).testBit p = true := by revert hp; cases (g_tm G R (g_nu G)).testBit p <;> simp
    have h2 : (g_tm G (2 ^ i) (g_nu G)).testBit p = true := by revert hp; cases (g_tm G (2 ^ i) (g_nu G)).testBit p <;> simp
    obtain ⟨o, o1, o2, o3⟩ := (g_tm_c _).mp h1
    obtain ⟨j, j1, j2, j3⟩ := (g_tm_c _).mp h2
    rw [Nat.testBit_two_pow] at j2
    have e := of_decide_eq_true j2
    subst e
    refine ⟨o, o1, o2, ?_⟩
    unfold g_shr
    rcases o3 with o3 | o3 <;> rcases j3 with j3 | j3 <;> omega
  · rintro ⟨o, o1, o2, o3⟩ z
    have no : ∀ p, (g_fr G o = p ∨ g_to G o = p) → (g_fr G i = p ∨ g_to G i = p) → False := by
      intro p h1 h2
      have a := (g_tm_c (G := G) (R := R) (p := p) (g_nu G)).mpr ⟨o, o1, o2, h1⟩
      have b := (g_tm_c (G := G) (R := 2 ^ i) (p := p) (g_nu G)).mpr ⟨i, hi, Nat.testBit_two_pow_self, h2⟩
      have c : (g_tm G R (g_nu G) &&& g_tm G (2 ^ i) (g_nu G)).testBit p = true := by rw [Nat.testBit_and, a, b]; rfl
      rw [z, Nat.zero_testBit] at c
      cases c
    rcases o3 with h | h | h | h
    · exact no _ (Or.inl rfl) (Or.inl h.symm)
    · exact no _ (Or.inl rfl) (Or.inr h.symm)
    · exact no _ (Or.inr rfl) (Or.inl h.symm)
    · exact no _ (Or.inr rfl) (Or.inr h.symm)
