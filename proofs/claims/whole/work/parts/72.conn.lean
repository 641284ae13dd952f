/-! MADE: what hangs together -/
theorem g_rm {S i : Nat} (h : S.testBit i = true) (j : Nat) : (S ^^^ 2 ^ i).testBit j = (S.testBit j && !decide (i = j)) := by
  rw [Nat.testBit_xor, Nat.testBit_two_pow]
  by_cases e : i = j
  · subst e
    rw [h]
    simp
  · simp [e]
theorem g_rm_y {S i j : Nat} (h : S.testBit i = true) (hj : S.testBit j = true) (hn : i ≠ j) : (S ^^^ 2 ^ i).testBit j = true := by
  rw [g_rm h, hj]
  simp [hn]
theorem g_rm_e {S i : Nat} (h : S.testBit i = true) : (S ^^^ 2 ^ i).testBit i = false := by
  rw [g_rm h]
  simp
theorem g_rm_s {S i : Nat} (h : S.testBit i = true) : g_sub (S ^^^ 2 ^ i) S := by
  intro j hj
  rw [g_rm h] at hj
  revert hj
  cases S.testBit j <;> simp
theorem g_rm_ne {S i j : Nat} (h : S.testBit i = true) (hj : (S ^^^ 2 ^ i).testBit j = true) : i ≠ j := by
  intro e
  subst e
  rw [g_rm_e h] at hj
  cases hj
theorem g_nz {T : Nat} (h : T ≠ 0) : ∃ i, T.testBit i = true := by
  refine Classical.byContradiction fun c => h ?_
  apply Nat.eq_of_testBit_eq
  intro i
  rw [Nat.zero_testBit]
  cases e : T.testBit i with
  | false => rfl
  | true => exact absurd ⟨i, e⟩ c
theorem g_nz0 {T i : Nat} (h : T.testBit i = true) : T ≠ 0 := by
  intro e
  subst e
  rw [Nat.zero_testBit] at h
  cases h
theorem g_xx (S k : Nat) : (S ^^^ k) ^^^ k = S := by rw [Nat.xor_assoc, Nat.xor_self, Nat.xor_zero]
/-- no proper part of it is cut off from the rest -/
def g_cn (G : bs_G) (S : Nat) : Prop := S ≠ 0 ∧ ∀ T, g_sub T S → T ≠ 0 → (∀ b, S.testBit b = true → g_tch G b T = true → T.testBit b = true) → T = S
theorem g_cn_1 (G : bs_G) (k : Nat) : g_cn G (2 ^ k) := by
  have e : ∀ i, (2 ^ k).testBit i = true ↔ k = i := fun i => by rw [Nat.testBit_two_pow]; simp
  refine ⟨g_nz0 ((e k).mpr rfl), fun T hT hz _ => g_sub_eq hT fun i hi => ?_⟩
  obtain ⟨j, hj⟩ := g_nz hz
  have h1 := (e j).mp (hT j hj)
  have h2 := (e i).mp hi
  rw [← h2, h1]
  exact hj
theorem g_cn_add {G : bs_G} {S i : Nat} (hS : S < 2 ^ g_nu G) (hi : S.testBit i = true) (h : g_cn G (S ^^^ 2 ^ i)) (ht : g_tch G i (S ^^^ 2 ^ i) = true) : g_cn G S := by
  refine ⟨g_nz0 hi, fun T hT hz hc => ?_⟩
  have inT : (∃ j, T.testBit j = true ∧ i ≠ j) := by
    refine Classical.byContradiction fun c => ?_
    have ti : T.testBit i = true := by
      obtain ⟨j, hj⟩ := g_nz hz
      by_cases e : i = j
      · rw [e]; exact hj
      · exact absurd ⟨j, hj, e⟩ c
    obtain ⟨o, o1, o2, o3⟩ := g_tch_c.mp ht
    have oS := g_rm_s hi o o2
    have iN : i < g_nu G := g_tb_lt hS hi
    have oT := hc o oS (g_tch_c.mpr ⟨i, iN, ti, g_shr_sy o3⟩)
    exact c ⟨o, oT, g_rm_ne hi o2⟩
  have all : ∀ j, (S ^^^ 2 ^ i).testBit j = true → T.testBit j = true := by
    obtain ⟨j0, j1, j2⟩ := inT
    have tb : ∀ j, (T &&& (S ^^^ 2 ^ i)).testBit j = true ↔ T.testBit j = true ∧ (S ^^^ 2 ^ i).testBit j = true := fun j => by rw [Nat.testBit_and]; simp
    have e := h.2 (T &&& (S ^^^ 2 ^ i)) (fun j hj => ((tb j).mp hj).2) (g_nz0 ((tb j0).mpr ⟨j1, g_rm_y hi (hT j0 j1) j2⟩)) (fun b b1 b2 => by
      obtain ⟨o, o1, o2, o3⟩ := g_tch_c.mp b2
      exact (tb b).mpr ⟨hc b (g_rm_s hi b b1) (g_tch_c.mpr ⟨o, o1, ((tb o).mp o2).1, o3⟩), b1⟩)
    intro j hj
    rw [← e] at hj
    exact ((tb j).mp hj).1
  refine g_sub_eq hT fun j hj => ?_
  by_cases e : i = j
  · obtain ⟨o, o1, o2, o3⟩ := g_tch_c.mp ht
    rw [← e]
    exact hc i hi (g_tch_c.mpr ⟨o, o1, all o o2, o3⟩)
  · exact all j (g_rm_y hi hj e)
theorem g_cn_leaf {G : bs_G} {S : Nat} (hS : S < 2 ^ g_nu G) (h : g_cn G S) : ∀ d T, g_ct S (g_nu G) - g_ct T (g_nu G) ≤ d → g_sub T S → g_cn G T → T ≠ S → ∃ i, S.testBit i = true ∧ g_cn G (S ^^^ 2 ^ i) ∧ g_tch G i (S ^^^ 2 ^ i) = true := by
  intro d
  induction d with
  | zero =>
    intro T hd hT hc hn
    obtain ⟨k, k1, k2⟩ := g_sub_ne hT (fun e => hn e.symm)
    have := g_ct_lt hT k1 k2 (g_nu G) (g_tb_lt hS k2)
    omega
  | succ d ih =>
    intro T hd hT hc hn
    have : ∃ b, S.testBit b = true ∧ g_tch G b T = true ∧ T.testBit b = false := by
      refine Classical.byContradiction fun c => hn (h.2 T hT hc.1 fun b b1 b2 => ?_)
      cases e : T.testBit b with
      | true => rfl
      | false => exact absurd ⟨b, b1, b2, e⟩ c
    obtain ⟨b, b1, b2, b3⟩ := this
    have ub : (T ^^^ 2 ^ b).testBit b = true := by rw [Nat.testBit_xor, b3, Nat.testBit_two_pow]; simp
    have us : g_sub (T ^^^ 2 ^ b) S := by
      intro j hj
      rw [Nat.testBit_xor, Nat.testBit_two_pow] at hj
      by_cases e : b = j
      · rw [← e]; exact b1
      · refine hT j ?_
        revert hj
        simp [e]
    by_cases e : T ^^^ 2 ^ b = S
    · refine ⟨b, b1, ?_, ?_⟩ <;> rw [← e, g_xx]
      · exact hc
      · exact b2
    · have un : T ^^^ 2 ^ b < 2 ^ g_nu G := g_lt_of fun i hi => g_tb_lt hS (us i hi)
      have bn : b < g_nu G := g_tb_lt hS b1
      have ts : g_sub T (T ^^^ 2 ^ b) := by
        intro j hj
        have : b ≠ j := by
          intro e
          rw [e, hj] at b3
          cases b3
        rw [Nat.testBit_xor, hj, Nat.testBit_two_pow]
        simp [this]
      have c1 := g_ct_lt ts b3 ub (g_nu G) bn
      have c2 := g_ct_mono us (g_nu G)
      exact ih (T ^^^ 2 ^ b) (by omega) us (g_cn_add un ub (by rw [g_xx]; exact hc) (by rw [g_xx]; exact b2)) e
/-- one of several hangs together with the rest, which does so too -/
theorem g_cn_rec {G : bs_G} {S k : Nat} (hS : S < 2 ^ g_nu G) (hk : S.testBit k = true) (hn : S ≠ 2 ^ k) : g_cn G S ↔ ∃ i, S.testBit i = true ∧ g_cn G (S ^^^ 2 ^ i) ∧ g_tch G i (S ^^^ 2 ^ i) = true := by
  constructor
  · intro h
    exact g_cn_leaf hS h _ (2 ^ k) (Nat.le_refl _) (fun i hi => by rw [Nat.testBit_two_pow] at hi; rw [← of_decide_eq_true hi]; exact hk) (g_cn_1 G k) (fun e => hn e.symm)
  · rintro ⟨i, h1, h2, h3⟩
    exact g_cn_add hS h1 h2 h3
/-- so the model tells it: what grows out of the first is all -/
theorem g_cn_first {G : bs_G} {R Q k : Nat} (hR : R < 2 ^ g_nu G) (k1 : R.testBit k = true) (q1 : Q.testBit k = true) (q2 : ∀ b, b < g_nu G → R.testBit b = true → g_tch G b Q = true → Q.testBit b = true) (q3 : ∀ (A : Nat → Prop), A k → (∀ b i, R.testBit b = true → A i → g_shr G i b → A b) → ∀ i, Q.testBit i = true → A i) : Q = R ↔ g_cn G R := by
  constructor
  · intro e
    refine ⟨g_nz0 k1, fun T hT hz hc => ?_⟩
    cases c : T.testBit k with
    | true =>
      refine g_sub_eq hT fun i hi => ?_
      refine q3 (fun i => T.testBit i = true) c (fun b i b1 b2 b3 => ?_) i (by rw [e]; exact hi)
      exact hc b b1 (g_tch_c.mpr ⟨i, g_tb_lt hR (hT i b2), b2, b3⟩)
    | false =>
      obtain ⟨j, hj⟩ := g_nz hz
      have := q3 (fun i => R.testBit i = true ∧ T.testBit i = false) ⟨k1, c⟩ (fun b i b1 b2 b3 => ⟨b1, ?_⟩) j (by rw [e]; exact hT j hj)
      · exact absurd (this.2.symm.trans hj) (by decide)
      · cases d : T.testBit b with
        | false => rfl
        | true =>
          have := hc i b2.1 (g_tch_c.mpr ⟨b, g_tb_lt hR b1, d, g_shr_sy b3⟩)
          exact absurd (b2.2.symm.trans this) (by decide)
  · intro h
    exact h.2 Q (q3 (fun i => R.testBit i = true) k1 (fun b _ b1 _ _ => b1)) (g_nz0 q1) (fun b b1 b2 => q2 b (g_tb_lt hR b1) b1 b2)
