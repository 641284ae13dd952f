/-! PARTS (own): labels of points; how many labels what is not lost bears -/
def g_gl (G : bs_G) (L : Nat) : Nat → Nat → Nat
  | 0 => fun p => p
  | n + 1 => if L.testBit n = false ∧ g_gl G L n (g_fr G n) ≠ g_gl G L n (g_to G n) then fun p => if g_gl G L n p = g_gl G L n (g_to G n) then g_gl G L n (g_fr G n) else g_gl G L n p else g_gl G L n
theorem g_gl_y {G : bs_G} {L n : Nat} (h : L.testBit n = false) (h2 : g_gl G L n (g_fr G n) ≠ g_gl G L n (g_to G n)) : g_gl G L (n + 1) = fun p => if g_gl G L n p = g_gl G L n (g_to G n) then g_gl G L n (g_fr G n) else g_gl G L n p := by rw [g_gl, if_pos ⟨h, h2⟩]
theorem g_gl_l {G : bs_G} {L n : Nat} (h : L.testBit n = true) : g_gl G L (n + 1) = g_gl G L n := by rw [g_gl, if_neg (by rw [h]; simp)]
theorem g_gl_e {G : bs_G} {L n : Nat} (h : g_gl G L n (g_fr G n) = g_gl G L n (g_to G n)) : g_gl G L (n + 1) = g_gl G L n := by rw [g_gl, if_neg (fun z => z.2 h)]
theorem g_gl_st {G : bs_G} {L n p q : Nat} (h : g_gl G L n p = g_gl G L n q) : g_gl G L (n + 1) p = g_gl G L (n + 1) q := by
  rw [g_gl]
  split
  · show (if g_gl G L n p = _ then _ else _) = (if g_gl G L n q = _ then _ else _)
    rw [h]
  · exact h
theorem g_gl_b {G : bs_G} {L i : Nat} (hi : L.testBit i = false) : ∀ n, i < n → g_gl G L n (g_fr G i) = g_gl G L n (g_to G i) := by
  intro n
  induction n with
  | zero => intro h; omega
  | succ n ih =>
    intro h
    by_cases e : i = n
    · subst e
      by_cases c : g_gl G L i (g_fr G i) = g_gl G L i (g_to G i)
      · rw [g_gl_e c]; exact c
      · rw [g_gl_y hi c]
        show (if _ = _ then _ else _) = (if _ = _ then _ else _)
        rw [if_neg c, if_pos rfl]
    · exact g_gl_st (ih (by omega))
/-- labels that any other labels which are the same along all bubbles are coarser than -/
theorem g_gl_m {G : bs_G} {L : Nat} {κ : Nat → Nat} : ∀ n, (∀ i, i < n → L.testBit i = false → κ (g_fr G i) = κ (g_to G i)) → ∀ p q, g_gl G L n p = g_gl G L n q → κ p = κ q := by
  intro n
  induction n with
  | zero => intro _ p q h; have h : p = q := h; rw [h]
  | succ n ih =>
    intro hk p q h
    have ih := ih (fun i hi => hk i (by omega))
    by_cases c : L.testBit n = false ∧ g_gl G L n (g_fr G n) ≠ g_gl G L n (g_to G n)
    · have hn := hk n (by omega) c.1
      rw [g_gl_y c.1 c.2] at h
      have h : (if g_gl G L n p = g_gl G L n (g_to G n) then g_gl G L n (g_fr G n) else g_gl G L n p) = (if g_gl G L n q = g_gl G L n (g_to G n) then g_gl G L n (g_fr G n) else g_gl G L n q) := h
      by_cases a : g_gl G L n p = g_gl G L n (g_to G n) <;> by_cases b : g_gl G L n q = g_gl G L n (g_to G n)
      · exact ih _ _ (a.trans b.symm)
      · rw [if_pos a, if_neg b] at h
        rw [ih _ _ a, ← hn]
        exact ih _ _ h
      · rw [if_neg a, if_pos b] at h
        rw [ih _ _ b, ← hn]
        exact ih _ _ h
      · rw [if_neg a, if_neg b] at h
        exact ih _ _ h
    · rw [g_gl, if_neg c] at h
      exact ih _ _ h
theorem g_gl_lt {G : bs_G} (hG : g_ok G) {L p : Nat} (hp : p < g_np G) : ∀ n, n ≤ g_nu G → g_gl G L n p < g_np G := by
  intro n
  induction n generalizing p with
  | zero => intro _; exact hp
  | succ n ih =>
    intro hn
    have b := g_bd hG (i := n) (by omega)
    rw [g_gl]
    split
    · show (if _ = _ then _ else _) < _
      split
      · exact ih b.1 (by omega)
      · exact ih hp (by omega)
    · exact ih hp (by omega)
/-- is there one below n -/
def g_ex (P : Nat → Bool) : Nat → Bool
  | 0 => false
  | n + 1 => g_ex P n || P n
theorem g_ex_c {P : Nat → Bool} : ∀ n, g_ex P n = true ↔ ∃ i, i < n ∧ P i = true := by
  intro n
  induction n with
  | zero => exact ⟨fun h => (by cases h), fun ⟨i, h, _⟩ => (by omega)⟩
  | succ n ih =>
    rw [g_ex, Bool.or_eq_true, ih]
    constructor
    · rintro (⟨i, h1, h2⟩ | h)
      · exact ⟨i, by omega, h2⟩
      · exact ⟨n, by omega, h⟩
    · rintro ⟨i, h1, h2⟩
      by_cases e : i = n
      · subst e; exact Or.inr h2
      · exact Or.inl ⟨i, by omega, h2⟩
/-- label c is borne by the ends of a bubble in W -/
def g_us (G : bs_G) (W : Nat) (lab : Nat → Nat) (c : Nat) : Bool := g_ex (fun i => W.testBit i && (decide (lab (g_fr G i) = c) || decide (lab (g_to G i) = c))) (g_nu G)
theorem g_us_c {G : bs_G} {W c : Nat} {lab : Nat → Nat} : g_us G W lab c = true ↔ ∃ i, i < g_nu G ∧ W.testBit i = true ∧ (lab (g_fr G i) = c ∨ lab (g_to G i) = c) := by
  unfold g_us
  rw [g_ex_c]
  constructor
  · rintro ⟨i, h1, h2⟩
    rw [Bool.and_eq_true, Bool.or_eq_true, decide_eq_true_iff, decide_eq_true_iff] at h2
    exact ⟨i, h1, h2.1, h2.2⟩
  · rintro ⟨i, h1, h2, h3⟩
    refine ⟨i, h1, ?_⟩
    rw [Bool.and_eq_true, Bool.or_eq_true, decide_eq_true_iff, decide_eq_true_iff]
    exact ⟨h2, h3⟩
def g_dl (G : bs_G) (W : Nat) (lab : Nat → Nat) : Nat → Nat := g_sm (fun c => g_if (g_us G W lab c = true))
/-- FALLS -/
def g_pa (G : bs_G) (W L : Nat) : Nat := g_dl G W (g_gl G L (g_nu G)) (g_np G)
theorem g_if_congr {p q : Prop} [Decidable p] [Decidable q] (h : p ↔ q) : g_if p = g_if q := by
  by_cases c : p
  · rw [g_if1 c, g_if1 (h.mp c)]
  · rw [g_if0 c, g_if0 (fun z => c (h.mpr z))]
theorem g_dl_merge {G : bs_G} (hG : g_ok G) {W L n : Nat} (hW : g_co G W L) (hn : n < g_nu G) (h : L.testBit n = false) (h2 : g_gl G L n (g_fr G n) ≠ g_gl G L n (g_to G n)) : g_dl G W (g_gl G L n) (g_np G) = g_dl G W (g_gl G L (n + 1)) (g_np G) + 1 := by
  have b := g_bd hG hn
  have wn : W.testBit n = true := by rw [hW.2.2 n hn, h]; rfl
  refine g_sm_at (i := g_gl G L n (g_to G n)) ?_ (fun c hc => ?_) _ (g_gl_lt hG b.2.1 n (by omega))
  · have u1 : g_us G W (g_gl G L n) (g_gl G L n (g_to G n)) = true := g_us_c.mpr ⟨n, hn, wn, Or.inr rfl⟩
    have u2 : ¬ g_us G W (g_gl G L (n + 1)) (g_gl G L n (g_to G n)) = true := by
      rw [g_us_c]
      rintro ⟨i, i1, i2, i3⟩
      rw [g_gl_y h h2] at i3
      have k : ∀ p, (if g_gl G L n p = g_gl G L n (g_to G n) then g_gl G L n (g_fr G n) else g_gl G L n p) ≠ g_gl G L n (g_to G n) := by
        intro p
        split
        · exact h2
        · assumption
      exact i3.elim (k _) (k _)
    rw [g_if1 u1, g_if0 u2]
  · refine g_if_congr ?_
    rw [g_us_c, g_us_c, g_gl_y h h2]
    have k : ∀ p, (if g_gl G L n p = g_gl G L n (g_to G n) then g_gl G L n (g_fr G n) else g_gl G L n p) = c ↔ (g_gl G L n p = c ∨ (g_gl G L n p = g_gl G L n (g_to G n) ∧ g_gl G L n (g_fr G n) = c)) := by
      intro p
      split
      · rename_i z
        constructor
        · intro h; exact Or.inr ⟨z, h⟩
        · rintro (h | h)
          · exact absurd (h.symm.trans z) hc
          · exact h.2
      · rename_i z
        constructor
        · intro h; exact Or.inl h
        · rintro (h | h)
          · exact h
          · exact absurd h.1 z
    constructor
    · rintro ⟨i, i1, i2, i3⟩
      refine ⟨i, i1, i2, ?_⟩
      rcases i3 with i3 | i3
      · exact Or.inl ((k _).mpr (Or.inl i3))
      · exact Or.inr ((k _).mpr (Or.inl i3))
    · rintro ⟨i, i1, i2, i3⟩
      rcases i3 with i3 | i3
      · rcases (k _).mp i3 with j | ⟨-, j⟩
        · exact ⟨i, i1, i2, Or.inl j⟩
        · exact ⟨n, hn, wn, Or.inl j⟩
      · rcases (k _).mp i3 with j | ⟨-, j⟩
        · exact ⟨i, i1, i2, Or.inr j⟩
        · exact ⟨n, hn, wn, Or.inl j⟩
theorem g_lv_pos {G : bs_G} {L p : Nat} : ∀ n, 0 < g_lv G L p n ↔ ∃ i, i < n ∧ L.testBit i = false ∧ (g_fr G i = p ∨ g_to G i = p) := by
  intro n
  induction n with
  | zero => exact ⟨fun h => absurd h (Nat.lt_irrefl 0), fun ⟨i, h, _⟩ => (by omega)⟩
  | succ n ih =>
    have e : ∀ (P : Prop), (∃ i, i < n + 1 ∧ L.testBit i = false ∧ (g_fr G i = p ∨ g_to G i = p)) ↔ ((∃ i, i < n ∧ L.testBit i = false ∧ (g_fr G i = p ∨ g_to G i = p)) ∨ (L.testBit n = false ∧ (g_fr G n = p ∨ g_to G n = p))) := by
      intro _
      constructor
      · rintro ⟨i, h1, h2⟩
        by_cases z : i = n
        · subst z; exact Or.inr h2
        · exact Or.inl ⟨i, by omega, h2⟩
      · rintro (⟨i, h1, h2⟩ | h)
        · exact ⟨i, by omega, h2⟩
        · exact ⟨n, by omega, h⟩
    rw [e True, ← ih]
    cases c : L.testBit n with
    | true => rw [g_lv_1 c]; simp
    | false =>
      rw [g_lv_0 c]
      by_cases h1 : g_fr G n = p <;> by_cases h2 : g_to G n = p
      · rw [g_if1 h1, g_if1 h2]; simp [h1, h2]
      · rw [g_if1 h1, g_if0 h2]; simp [h1, h2]
      · rw [g_if0 h1, g_if1 h2]; simp [h1, h2]
      · rw [g_if0 h1, g_if0 h2]; simp [h1, h2]
theorem g_dl_0 {G : bs_G} {W L : Nat} (hW : g_co G W L) : g_dl G W (g_gl G L 0) (g_np G) = g_sm (fun p => g_if (0 < g_lv G L p (g_nu G))) (g_np G) := by
  refine g_sm_cg _ fun c _ => g_if_congr ?_
  rw [g_us_c, g_lv_pos]
  constructor
  · rintro ⟨i, h1, h2, h3⟩
    refine ⟨i, h1, ?_, h3⟩
    rw [hW.2.2 i h1] at h2
    cases c : L.testBit i with
    | false => rfl
    | true => rw [c] at h2; cases h2
  · rintro ⟨i, h1, h2, h3⟩
    exact ⟨i, h1, by rw [hW.2.2 i h1, h2]; rfl, h3⟩
