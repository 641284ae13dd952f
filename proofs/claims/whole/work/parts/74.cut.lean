/-! MADE: the parts of a set, one after another; the fewest ways -/
theorem g_and_d (a b : Nat) : (a &&& b) / 2 = a / 2 &&& b / 2 := by
  have := Nat.and_div_two_pow (a := a) (b := b) (n := 1)
  exact this
theorem g_and_m (a b : Nat) : (a &&& b) % 2 = a % 2 &&& b % 2 := by
  have := Nat.and_mod_two_pow (a := a) (b := b) (n := 1)
  exact this
theorem g_sub_d {T S : Nat} (h : g_sub T S) : g_sub (T / 2) (S / 2) ∧ T % 2 ≤ S % 2 := by
  constructor
  · intro i hi
    rw [Nat.testBit_div_two] at hi ⊢
    exact h (i + 1) hi
  · have := h 0
    rw [Nat.testBit_zero, Nat.testBit_zero] at this
    have h2 : T % 2 = 1 → S % 2 = 1 := fun e => of_decide_eq_true (this (decide_eq_true e))
    omega
theorem g_sub_and {T S : Nat} (h : g_sub T S) : T &&& S = T := by
  apply Nat.eq_of_testBit_eq
  intro i
  rw [Nat.testBit_and]
  cases e : T.testBit i with
  | false => rfl
  | true => rw [h i e]; rfl
/-- below a part of a set, the greatest other -/
theorem g_nxt : ∀ n S t T, t < 2 ^ n → g_sub t S → g_sub T S → T < t → T ≤ (t - 1) &&& S := by
  intro n
  induction n with
  | zero => intro S t T h; intro _ _ h2; have : t < 1 := h; omega
  | succ n ih =>
    intro S t T ht hs hT hl
    obtain ⟨s1, s2⟩ := g_sub_d hs
    obtain ⟨t1, t2⟩ := g_sub_d hT
    have p : 2 ^ (n + 1) = 2 * 2 ^ n := by rw [Nat.pow_succ]; omega
    have d := g_and_d (t - 1) S
    have m := g_and_m (t - 1) S
    by_cases b : t % 2 = 1
    · have e : (t - 1) / 2 = t / 2 := by omega
      rw [e, g_sub_and s1] at d
      omega
    · have e : (t - 1) / 2 = t / 2 - 1 := by omega
      have e2 : (t - 1) % 2 = 1 := by omega
      rw [e] at d
      rw [e2] at m
      have m2 : 1 &&& S % 2 = S % 2 := by
        have : S % 2 = 0 ∨ S % 2 = 1 := by omega
        rcases this with r | r <;> rw [r] <;> rfl
      rw [m2] at m
      by_cases q : T / 2 < t / 2
      · have := ih (S / 2) (t / 2) (T / 2) (by omega) s1 t1 q
        omega
      · omega
theorem g_nxt_s (t S : Nat) : g_sub ((t - 1) &&& S) S := by
  intro i hi
  rw [Nat.testBit_and] at hi
  revert hi
  cases S.testBit i <;> simp
theorem g_nxt_lt {t S : Nat} (h : 0 < t) : (t - 1) &&& S < t := by
  have := Nat.and_le_left (n := t - 1) (m := S)
  omega
/-- cut into so many parts, of which each is one way; the first takes the lowest -/
def g_cut (W : Nat → Prop) : Nat → Nat → Prop
  | 0, S => S = 0
  | k + 1, S => ∃ b T, S.testBit b = true ∧ (∀ j, j < b → S.testBit j = false) ∧ T.testBit b = true ∧ g_sub T S ∧ W T ∧ g_cut W k (S ^^^ T)
theorem g_dif {S T : Nat} (h : g_sub T S) (i : Nat) : (S ^^^ T).testBit i = (S.testBit i && !T.testBit i) := by
  rw [Nat.testBit_xor]
  cases e : T.testBit i with
  | false => simp
  | true => rw [h i e]; rfl
theorem g_dif_s {S T : Nat} (h : g_sub T S) : g_sub (S ^^^ T) S := by
  intro i hi
  rw [g_dif h] at hi
  revert hi
  cases S.testBit i <;> simp
theorem g_dif_lt {S T b : Nat} (h : g_sub T S) (hb : T.testBit b = true) : S ^^^ T < S := by
  have le : S ^^^ T ≤ S := Nat.le_of_testBit (g_dif_s h)
  have ne : S ^^^ T ≠ S := by
    intro e
    have d := g_dif h b
    rw [e, h b hb, hb] at d
    cases d
  omega
theorem g_low_u {S b c : Nat} (hb : S.testBit b = true) (hbl : ∀ j, j < b → S.testBit j = false) (hc : S.testBit c = true) (hcl : ∀ j, j < c → S.testBit j = false) : b = c := by
  by_cases l : b < c
  · have := hcl b l
    rw [hb] at this
    cases this
  · by_cases l2 : c < b
    · have := hbl c l2
      rw [hc] at this
      cases this
    · omega
theorem g_cut_ct {W : Nat → Prop} : ∀ k S n, S < 2 ^ n → g_cut W k S → k ≤ g_ct S n := by
  intro k
  induction k with
  | zero => intro S n _ _; exact Nat.zero_le _
  | succ k ih =>
    rintro S n hS ⟨b, T, b1, b2, t1, t2, t3, t4⟩
    have lt := g_dif_lt t2 t1
    have a := ih (S ^^^ T) n (by omega) t4
    have z : (S ^^^ T).testBit b = false := by rw [g_dif t2, t1, b1]; rfl
    have := g_ct_lt (g_dif_s t2) z b1 n (g_tb_lt hS b1)
    omega
theorem g_cut_n {W : Nat → Prop} {k S n : Nat} (hS : S < 2 ^ n) (h : g_cut W k S) : k ≤ n := Nat.le_trans (g_cut_ct k S n hS h) (g_ct_le S n)
/-- v is the fewest, or c where there is no way -/
def g_fw (W : Nat → Prop) (c S v : Nat) : Prop := (g_cut W v S ∧ v < c ∧ ∀ j, j < v → ¬ g_cut W j S) ∨ (v = c ∧ ∀ j, ¬ g_cut W j S)
theorem g_fw_0 (W : Nat → Prop) {c : Nat} (h : 0 < c) : g_fw W c 0 0 := Or.inl ⟨rfl, h, fun j hj => by omega⟩
theorem g_fw_le {W : Nat → Prop} {c S v : Nat} (h : g_fw W c S v) : v ≤ c := by
  rcases h with h | h
  · have := h.2.1; omega
  · have := h.1; omega
theorem g_fw_min {W : Nat → Prop} {c S v j : Nat} (h : g_fw W c S v) (hj : g_cut W j S) : v ≤ j := by
  rcases h with h | h
  · refine Classical.byContradiction fun e => h.2.2 j (by omega) hj
  · exact absurd hj (h.2 j)
theorem g_fw_u {W : Nat → Prop} {c d S v w : Nat} (h : g_fw W c S v) (h2 : g_fw W d S w) : (v < c ↔ w < d) ∧ (v < c → v = w) := by
  rcases h with h | h <;> rcases h2 with i | i
  · have a := g_fw_min (Or.inl h : g_fw W c S v) i.1
    have b := g_fw_min (Or.inl i : g_fw W d S w) h.1
    have := h.2.1
    have := i.2.1
    refine ⟨⟨fun _ => by omega, fun _ => by omega⟩, fun _ => by omega⟩
  · exact absurd h.1 (i.2 v)
  · exact absurd i.1 (h.2 w)
  · have := h.1
    have := i.1
    refine ⟨⟨fun _ => by omega, fun _ => by omega⟩, fun _ => by omega⟩
theorem g_fw_cut {W : Nat → Prop} {c S v : Nat} (h : g_fw W c S v) (l : v < c) : g_cut W v S := by
  rcases h with h | h
  · exact h.1
  · have := h.1; omega
/-- so it is found from the sets below -/
theorem g_fw_st {W : Nat → Prop} {c n S b l : Nat} {A : Nat → Nat} (hS : S < 2 ^ n) (hn : n < c) (hb : S.testBit b = true) (hlow : ∀ j, j < b → S.testBit j = false) (hA : ∀ R, R < S → g_fw W c R (A R)) (h1 : l = c ∨ ∃ T, T.testBit b = true ∧ g_sub T S ∧ W T ∧ l = 1 + A (S ^^^ T) ∧ l < c) (h2 : ∀ T, T.testBit b = true → g_sub T S → W T → l ≤ 1 + A (S ^^^ T)) : g_fw W c S l := by
  have low : ∀ j, g_cut W j S → l ≤ j := by
    intro j hj
    match j, hj with
    | 0, e => 
      have e : S = 0 := e
      exact absurd e (g_nz0 hb)
    | i + 1, ⟨b', T, b1, b2, t1, t2, t3, t4⟩ =>
      have e := g_low_u hb hlow b1 b2
      subst e
      have := g_fw_min (hA _ (g_dif_lt t2 t1)) t4
      have := h2 T t1 t2 t3
      omega
  rcases h1 with h1 | ⟨T, t1, t2, t3, t4, t5⟩
  · refine Or.inr ⟨h1, fun j hj => ?_⟩
    have := low j hj
    have := g_cut_n hS hj
    omega
  · refine Or.inl ⟨?_, t5, fun j hj hc => by have := low j hc; omega⟩
    have := g_fw_cut (hA _ (g_dif_lt t2 t1)) (by omega)
    rw [t4, Nat.add_comm]
    exact ⟨b, T, hb, hlow, t1, t2, t3, this⟩
