/-! ALIKE: the class's kinds: a number for what lies between two points -/
/-- the table of kinds: kn of them; what each stands behind (0: nothing), its length, what each counts -/
def al_K (kn : Nat) (B L : Nat → Nat) (C : Nat → Nat → Nat) : Prop := (∀ l, C 0 l = 0) ∧ (∀ i, i < kn → B i ≤ i) ∧ (∀ i, i < kn → ∀ l, C (i + 1) l = C (B i) l + g_if (L i = l)) ∧ (∀ i, i < kn → ∀ j, B i = j + 1 → L j ≤ L i) ∧ ∀ i j, i < kn → j < kn → B i = B j → L i = L j → i = j
theorem al_K_mx {kn : Nat} {B L : Nat → Nat} {C : Nat → Nat → Nat} (h : al_K kn B L C) : ∀ k i, i < k → i < kn → ∀ l, L i < l → C (i + 1) l = 0 := by
  intro k
  induction k with
  | zero => intro i hi; omega
  | succ k ih =>
    intro i hi hk l hl
    have b := h.2.1 i hk
    rw [h.2.2.1 i hk l, g_if0 (by omega)]
    by_cases z : B i = 0
    · rw [z, h.1 l]
    · have e : B i = (B i - 1) + 1 := by omega
      have m := h.2.2.2.1 i hk (B i - 1) e
      rw [e]
      exact ih (B i - 1) (by omega) (by omega) l (by omega)
theorem al_K_inj {kn : Nat} {B L : Nat → Nat} {C : Nat → Nat → Nat} (h : al_K kn B L C) : ∀ k a b, a ≤ k → a ≤ kn → b ≤ kn → (∀ l, C a l = C b l) → a = b := by
  intro k
  induction k with
  | zero =>
    intro a b ha hk hb e
    have a0 : a = 0 := by omega
    subst a0
    by_cases z : b = 0
    · exact z.symm
    · have c := e (L (b - 1))
      have d := h.2.2.1 (b - 1) (by omega) (L (b - 1))
      rw [show b - 1 + 1 = b by omega, g_if1 rfl] at d
      rw [h.1, d] at c
      omega
  | succ k ih =>
    intro a b ha hk hb e
    by_cases z : a = 0
    · exact ih a b (by omega) hk hb e
    · by_cases y : b = 0
      · have c := e (L (a - 1))
        have d := h.2.2.1 (a - 1) (by omega) (L (a - 1))
        rw [show a - 1 + 1 = a by omega, g_if1 rfl] at d
        rw [y, h.1, d] at c
        omega
      · obtain ⟨i, hi⟩ : ∃ i, a = i + 1 := ⟨a - 1, by omega⟩
        obtain ⟨j, hj⟩ : ∃ j, b = j + 1 := ⟨b - 1, by omega⟩
        subst hi
        subst hj
        have d1 := h.2.2.1 i (by omega)
        have d2 := h.2.2.1 j (by omega)
        have ll : L i = L j := by
          by_cases p : L i < L j
          · have c := e (L j)
            rw [al_K_mx h _ i (Nat.lt_succ_self _) (by omega) _ p, d2, g_if1 rfl] at c
            omega
          · by_cases q : L j < L i
            · have c := e (L i)
              rw [al_K_mx h _ j (Nat.lt_succ_self _) (by omega) _ q, d1, g_if1 rfl] at c
              omega
            · omega
        have b1 := h.2.1 i (by omega)
        have b2 := h.2.1 j (by omega)
        have bb : B i = B j := by
          refine ih (B i) (B j) (by omega) (by omega) (by omega) fun l => ?_
          have c := e l
          rw [d1, d2, ll] at c
          omega
        rw [h.2.2.2.2 i j (by omega) (by omega) bb ll]
/-- a kind more -/
theorem al_K_up {kn b l : Nat} {B L : Nat → Nat} {C : Nat → Nat → Nat} (h : al_K kn B L C) (hb : b ≤ kn) (hl : ∀ j, b = j + 1 → L j ≤ l) (hn : ∀ i, i < kn → ¬ (B i = b ∧ L i = l)) : al_K (kn + 1) (bs_fn B kn b) (bs_fn L kn l) (fun k z => if k = kn + 1 then C b z + g_if (l = z) else C k z) := by
  obtain ⟨h1, h2, h3, h4, h5⟩ := h
  refine ⟨fun z => ?_, fun i hi => ?_, fun i hi z => ?_, fun i hi j hj => ?_, fun i j hi hj e1 e2 => ?_⟩
  · show (if 0 = kn + 1 then _ else C 0 z) = 0
    rw [if_neg (by omega)]
    exact h1 z
  · by_cases e : i = kn
    · subst e
      rw [bs_fn_s]
      exact hb
    · rw [bs_fn_n e]
      exact h2 i (by omega)
  · show (if i + 1 = kn + 1 then C b z + g_if (l = z) else C (i + 1) z) = (if bs_fn B kn b i = kn + 1 then C b z + g_if (l = z) else C (bs_fn B kn b i) z) + g_if (bs_fn L kn l i = z)
    by_cases e : i = kn
    · subst e
      rw [if_pos rfl, bs_fn_s, bs_fn_s, if_neg (by omega)]
    · have := h2 i (by omega)
      rw [if_neg (by omega), bs_fn_n e, bs_fn_n e, if_neg (by omega)]
      exact h3 i (by omega) z
  · by_cases e : i = kn
    · subst e
      rw [bs_fn_s] at hj ⊢
      rw [bs_fn_n (by omega)]
      exact hl j hj
    · rw [bs_fn_n e] at hj ⊢
      have := h2 i (by omega)
      rw [bs_fn_n (by omega)]
      exact h4 i (by omega) j hj
  · by_cases ei : i = kn
    · by_cases ej : j = kn
      · omega
      · subst ei
        rw [bs_fn_s, bs_fn_n ej] at e1 e2
        exact absurd ⟨e1.symm, e2.symm⟩ (hn j (by omega))
    · by_cases ej : j = kn
      · subst ej
        rw [bs_fn_s, bs_fn_n ei] at e1 e2
        exact absurd ⟨e1, e2⟩ (hn i (by omega))
      · rw [bs_fn_n ei, bs_fn_n ej] at e1 e2
        exact h5 i j (by omega) (by omega) e1 e2
/-- a kind's number in the class's rows: one less -/
def al_i (k : Nat) : Int32 := if k = 0 then -1 else nI (k - 1)
theorem al_i_0 : al_i 0 = -1 := rfl
theorem al_i_s (k : Nat) : al_i (k + 1) = nI k := by
  unfold al_i
  rw [if_neg (by omega), Nat.add_sub_cancel]
theorem al_i_eq {a b : Nat} (ha : a < 2 ^ 30) (hb : b < 2 ^ 30) : (al_i a = al_i b) = (a = b) := by
  have m : ∀ k, k < 2 ^ 30 → nI k ≠ -1 := by
    intro k hk e
    have e := congrArg Int32.toInt e
    rw [nI_toInt (by omega)] at e
    have : (-1 : Int32).toInt = -1 := by decide
    omega
  refine propext ⟨fun h => ?_, fun h => by rw [h]⟩
  by_cases z : a = 0
  · by_cases y : b = 0
    · omega
    · rw [z, show b = b - 1 + 1 by omega, al_i_s, al_i_0] at h
      exact absurd h.symm (m _ (by omega))
  · by_cases y : b = 0
    · rw [y, show a = a - 1 + 1 by omega, al_i_s, al_i_0] at h
      exact absurd h (m _ (by omega))
    · rw [show a = a - 1 + 1 by omega, show b = b - 1 + 1 by omega, al_i_s, al_i_s] at h
      have := (nI_eq (show a - 1 < 2 ^ 31 by omega) (show b - 1 < 2 ^ 31 by omega)).mp h
      omega
