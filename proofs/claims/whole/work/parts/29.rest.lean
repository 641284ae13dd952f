/-! REST (own): a balloon's need -/
def g_cb (G : bs_G) (b : Nat) : Nat → Nat := g_sm (fun i => g_if (g_bo G i = b))
def g_lb (G : bs_G) (b : Nat) : Nat → Nat := g_sm (fun i => if g_bo G i = b then g_le G i else 0)
def g_nd (G : bs_G) (b st : Nat) : Nat → Nat := g_sm (fun i => if g_bo G i = b then g_le G i + st * g_tw G i else 0)
theorem g_cb_mono {G : bs_G} (h : g_ok G) {b : Nat} : ∀ n, n < g_nu G → 0 < g_cb G b n → b ≤ g_bo G n := by
  intro n
  induction n with
  | zero => intro _ h0; exact absurd h0 (Nat.lt_irrefl 0)
  | succ n ih =>
    intro hn h0
    have hm := h.2.2.2.2.2.2.2 n hn
    by_cases e : g_bo G n = b
    · omega
    · have : g_cb G b (n + 1) = g_cb G b n := by simp only [g_cb, g_sm, g_if0 e, Nat.add_zero]
      rw [this] at h0
      have := ih (by omega) h0
      omega
/-- the twists of a balloon: one less than its bubbles -/
theorem g_tb {G : bs_G} (h : g_ok G) {b : Nat} : ∀ n, n ≤ g_nu G → g_sm (fun i => if g_bo G i = b then g_tw G i else 0) n + g_if (0 < g_cb G b n ∧ ¬ (n < g_nu G ∧ g_bo G n = b)) = g_cb G b n := by
  intro n
  induction n with
  | zero => intro _; simp [g_sm, g_cb, g_if]
  | succ n ih =>
    intro hn
    have hi := ih (by omega)
    have hm := g_cb_mono h (b := b) n (by omega)
    by_cases e : g_bo G n = b
    · have c1 : g_cb G b (n + 1) = g_cb G b n + 1 := by simp only [g_cb, g_sm, g_if1 e]
      have t1 : g_sm (fun i => if g_bo G i = b then g_tw G i else 0) (n + 1) = g_sm (fun i => if g_bo G i = b then g_tw G i else 0) n + g_tw G n := by simp only [g_sm, if_pos e]
      rw [g_if0 (fun z => z.2 ⟨by omega, e⟩)] at hi
      rw [t1, c1]
      by_cases z : n + 1 < g_nu G ∧ g_bo G (n + 1) = b
      · rw [g_if0 (fun y => y.2 z), show g_tw G n = 1 from g_if1 ⟨z.1, by omega⟩]
        omega
      · rw [g_if1 ⟨by omega, z⟩, show g_tw G n = 0 from g_if0 (fun y => z ⟨y.1, by omega⟩)]
        omega
    · have c1 : g_cb G b (n + 1) = g_cb G b n := by simp only [g_cb, g_sm, g_if0 e, Nat.add_zero]
      have t1 : g_sm (fun i => if g_bo G i = b then g_tw G i else 0) (n + 1) = g_sm (fun i => if g_bo G i = b then g_tw G i else 0) n := by simp only [g_sm, if_neg e, Nat.add_zero]
      rw [t1, c1]
      by_cases z : 0 < g_cb G b n
      · rw [g_if1 ⟨z, fun y => e y.2⟩] at hi
        have h1 := hm z
        rw [g_if1 ⟨z, fun y => by have := h.2.2.2.2.2.2.2 n y.1; omega⟩]
        exact hi
      · rw [g_if0 (fun y => z y.1)] at hi ⊢
        exact hi
theorem g_nd_eq {G : bs_G} (h : g_ok G) (b st : Nat) : g_nd G b st (g_nu G) = g_lb G b (g_nu G) + st * (g_cb G b (g_nu G) - 1) := by
  have h1 : ∀ n, g_nd G b st n = g_lb G b n + st * g_sm (fun i => if g_bo G i = b then g_tw G i else 0) n := by
    intro n
    induction n with
    | zero => simp [g_nd, g_lb, g_sm]
    | succ n ih =>
      have e1 : g_nd G b st (n + 1) = g_nd G b st n + (if g_bo G n = b then g_le G n + st * g_tw G n else 0) := rfl
      have e2 : g_lb G b (n + 1) = g_lb G b n + (if g_bo G n = b then g_le G n else 0) := rfl
      have e3 : g_sm (fun i => if g_bo G i = b then g_tw G i else 0) (n + 1) = g_sm (fun i => if g_bo G i = b then g_tw G i else 0) n + (if g_bo G n = b then g_tw G n else 0) := rfl
      rw [e1, e2, e3, ih, Nat.mul_add]
      by_cases e : g_bo G n = b
      · rw [if_pos e, if_pos e, if_pos e]; omega
      · rw [if_neg e, if_neg e, if_neg e]; omega
  have h2 := g_tb h (b := b) (g_nu G) (Nat.le_refl _)
  rw [h1]
  by_cases z : 0 < g_cb G b (g_nu G)
  · rw [g_if1 ⟨z, fun y => absurd y.1 (Nat.lt_irrefl _)⟩] at h2
    rw [show g_sm (fun i => if g_bo G i = b then g_tw G i else 0) (g_nu G) = g_cb G b (g_nu G) - 1 by omega]
  · rw [g_if0 (fun y => z y.1)] at h2
    rw [show g_sm (fun i => if g_bo G i = b then g_tw G i else 0) (g_nu G) = g_cb G b (g_nu G) - 1 by omega]
