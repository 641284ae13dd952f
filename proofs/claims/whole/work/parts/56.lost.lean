/-! WHAT IS LOST (own): the least closed set; the class's way to it, the model's way to it -/
def g_sub (A B : Nat) : Prop := ∀ i, A.testBit i = true → B.testBit i = true
theorem g_sub_eq {A B : Nat} (h1 : g_sub A B) (h2 : g_sub B A) : A = B := by
  apply Nat.eq_of_testBit_eq
  intro i
  cases ha : A.testBit i with
  | true => exact (h1 i ha).symm
  | false =>
    cases hb : B.testBit i with
    | true => rw [h2 i hb] at ha; cases ha
    | false => rfl
theorem g_sub_rfl (A : Nat) : g_sub A A := fun _ h => h
theorem g_sub_tr {A B C : Nat} (h1 : g_sub A B) (h2 : g_sub B C) : g_sub A C := fun i h => h2 i (h1 i h)
theorem g_tb_lt {A n i : Nat} (h : A < 2 ^ n) (hi : A.testBit i = true) : i < n := by
  apply Nat.lt_of_not_le
  intro hn
  have := Nat.testBit_lt_two_pow (Nat.lt_of_lt_of_le h (Nat.pow_le_pow_right (by decide) hn))
  rw [this] at hi
  cases hi
theorem g_tb_or (A k i : Nat) : (A ||| 2 ^ k).testBit i = (A.testBit i || decide (k = i)) := by
  rw [Nat.testBit_or, Nat.testBit_two_pow]
theorem g_lt_of {A n : Nat} (h : ∀ i, A.testBit i = true → i < n) : A < 2 ^ n := by
  apply Nat.lt_pow_two_of_testBit
  intro i hi
  cases e : A.testBit i with
  | false => rfl
  | true => have := h i e; omega
theorem g_or_lt {A n k : Nat} (h : A < 2 ^ n) (hk : k < n) : A ||| 2 ^ k < 2 ^ n := Nat.or_lt_two_pow h (Nat.pow_lt_pow_right (by decide) hk)
theorem g_sm_mono {h k : Nat → Nat} : ∀ n, (∀ i, i < n → h i ≤ k i) → g_sm h n ≤ g_sm k n := by
  intro n
  induction n with
  | zero => intro _; exact Nat.le_refl _
  | succ n ih =>
    intro e
    have h1 := ih (fun i hi => e i (by omega))
    have h2 := e n (by omega)
    simp only [g_sm]
    omega
/-- the ends at p of what is not lost -/
def g_lv (G : bs_G) (L p : Nat) : Nat → Nat := g_sm (fun i => if L.testBit i = true then 0 else g_if (g_fr G i = p) + g_if (g_to G i = p))
theorem g_lv_anti {G : bs_G} {A B : Nat} (h : g_sub A B) (p n : Nat) : g_lv G B p n ≤ g_lv G A p n := by
  apply g_sm_mono
  intro i _
  by_cases ha : A.testBit i = true
  · rw [if_pos ha, if_pos (h i ha)]; exact Nat.le_refl _
  · rw [if_neg ha]
    split
    · exact Nat.zero_le _
    · exact Nat.le_refl _
def g_hl (G : bs_G) (L i : Nat) : Bool := (decide (0 < i ∧ g_tw G (i - 1) = 1 ∧ g_lv G L (g_fr G i) (g_nu G) < 3) && L.testBit (i - 1)) || (decide (g_tw G i = 1 ∧ g_lv G L (g_to G i) (g_nu G) < 3) && L.testBit (i + 1))
theorem g_hl_c {G : bs_G} {L i : Nat} : g_hl G L i = true ↔ (0 < i ∧ g_tw G (i - 1) = 1 ∧ g_lv G L (g_fr G i) (g_nu G) < 3 ∧ L.testBit (i - 1) = true) ∨ (g_tw G i = 1 ∧ g_lv G L (g_to G i) (g_nu G) < 3 ∧ L.testBit (i + 1) = true) := by
  unfold g_hl
  rw [Bool.or_eq_true, Bool.and_eq_true, Bool.and_eq_true, decide_eq_true_iff, decide_eq_true_iff]
  constructor
  · rintro (⟨⟨a, b, c⟩, d⟩ | ⟨⟨a, b⟩, c⟩)
    · exact Or.inl ⟨a, b, c, d⟩
    · exact Or.inr ⟨a, b, c⟩
  · rintro (⟨a, b, c, d⟩ | ⟨a, b, c⟩)
    · exact Or.inl ⟨⟨a, b, c⟩, d⟩
    · exact Or.inr ⟨⟨a, b⟩, c⟩
theorem g_hl_mono {G : bs_G} {A B i : Nat} (h : g_sub A B) (e : g_hl G A i = true) : g_hl G B i = true := by
  rw [g_hl_c] at e ⊢
  rcases e with ⟨a, b, c, d⟩ | ⟨a, b, c⟩
  · exact Or.inl ⟨a, b, Nat.lt_of_le_of_lt (g_lv_anti h _ _) c, h _ d⟩
  · exact Or.inr ⟨a, Nat.lt_of_le_of_lt (g_lv_anti h _ _) b, h _ c⟩
def g_cl (G : bs_G) (C : Nat) : Prop := ∀ i, i < g_nu G → g_hl G C i = true → C.testBit i = true
/-- one pass of the class -/
def g_ps (G : bs_G) (L : Nat) : Nat → Nat
  | 0 => L
  | n + 1 => if (g_ps G L n).testBit n = false ∧ g_hl G (g_ps G L n) n = true then g_ps G L n ||| 2 ^ n else g_ps G L n
theorem g_ps_st (G : bs_G) (L n : Nat) : g_sub (g_ps G L n) (g_ps G L (n + 1)) := by
  intro i h
  rw [g_ps]
  split
  · rw [g_tb_or, h]; rfl
  · exact h
theorem g_ps_le (G : bs_G) (L : Nat) : ∀ r n, g_sub (g_ps G L n) (g_ps G L (n + r)) := by
  intro r
  induction r with
  | zero => intro n; exact g_sub_rfl _
  | succ r ih => intro n; exact g_sub_tr (ih n) (g_ps_st G L (n + r))
theorem g_ps_sub (G : bs_G) (L n : Nat) : g_sub L (g_ps G L n) := by
  have h := g_ps_le G L n 0
  rw [Nat.zero_add] at h
  exact h
theorem g_ps_min {G : bs_G} {L C : Nat} (hC : g_cl G C) (h : g_sub L C) : ∀ n, n ≤ g_nu G → g_sub (g_ps G L n) C := by
  intro n
  induction n with
  | zero => intro _; exact h
  | succ n ih =>
    intro hn i hi
    have h1 := ih (by omega)
    rw [g_ps] at hi
    split at hi
    · rename_i c
      rw [g_tb_or] at hi
      cases e : (g_ps G L n).testBit i with
      | true => exact h1 i e
      | false =>
        rw [e, Bool.false_or, decide_eq_true_iff] at hi
        subst hi
        exact hC n (by omega) (g_hl_mono h1 c.2)
    · exact h1 i hi
theorem g_ps_lt {G : bs_G} {L : Nat} (h : L < 2 ^ g_nu G) : ∀ n, n ≤ g_nu G → g_ps G L n < 2 ^ g_nu G := by
  intro n
  induction n with
  | zero => intro _; exact h
  | succ n ih =>
    intro hn
    rw [g_ps]
    split
    · exact g_or_lt (ih (by omega)) (by omega)
    · exact ih (by omega)
theorem g_ps_fix {G : bs_G} {L : Nat} (h : g_ps G L (g_nu G) = L) : g_cl G L := by
  intro i hi hh
  have e : g_ps G L i = L := by
    refine g_sub_eq ?_ (g_ps_sub G L i)
    have := g_ps_le G L (g_nu G - i) i
    rw [show i + (g_nu G - i) = g_nu G by omega, h] at this
    exact this
  cases c : L.testBit i with
  | true => rfl
  | false =>
    have e2 : (g_ps G L (i + 1)).testBit i = true := by
      rw [g_ps, e, if_pos ⟨c, hh⟩, g_tb_or]
      simp
    have := g_ps_le G L (g_nu G - (i + 1)) (i + 1)
    rw [show i + 1 + (g_nu G - (i + 1)) = g_nu G by omega, h] at this
    rw [this i e2] at c
    cases c
/-- how many are in a set -/
def g_ct (L : Nat) : Nat → Nat := g_sm (fun i => g_if (L.testBit i = true))
theorem g_ct_le (L n : Nat) : g_ct L n ≤ n := g_sm1 (fun _ => g_if_le _) n
theorem g_ct_mono {A B : Nat} (h : g_sub A B) (n : Nat) : g_ct A n ≤ g_ct B n := by
  apply g_sm_mono
  intro i _
  by_cases a : A.testBit i = true
  · rw [g_if1 a, g_if1 (h i a)]; exact Nat.le_refl _
  · rw [g_if0 a]; exact Nat.zero_le _
theorem g_ct_lt {A B : Nat} (h : g_sub A B) {k : Nat} (h1 : A.testBit k = false) (h2 : B.testBit k = true) : ∀ n, k < n → g_ct A n < g_ct B n := by
  intro n
  induction n with
  | zero => intro h; omega
  | succ n ih =>
    intro hk
    have hm := g_ct_mono h n
    show g_ct A n + g_if (A.testBit n = true) < g_ct B n + g_if (B.testBit n = true)
    by_cases e : k = n
    · subst e
      rw [g_if0 (by rw [h1]; decide), g_if1 h2]
      omega
    · have := ih (by omega)
      have h3 : g_if (A.testBit n = true) ≤ g_if (B.testBit n = true) := by
        by_cases a : A.testBit n = true
        · rw [g_if1 a, g_if1 (h n a)]; exact Nat.le_refl _
        · rw [g_if0 a]; exact Nat.zero_le _
      omega
theorem g_sub_ne {A B : Nat} (h : g_sub A B) (hn : ¬ B = A) : ∃ k, A.testBit k = false ∧ B.testBit k = true := by
  apply Classical.byContradiction
  intro z
  apply hn
  refine g_sub_eq (fun i hi => ?_) h
  cases e : A.testBit i with
  | true => rfl
  | false => exact absurd ⟨i, e, hi⟩ z
def g_li (G : bs_G) : Nat → Nat → Nat
  | 0, L => L
  | r + 1, L => if g_ps G L (g_nu G) = L then L else g_li G r (g_ps G L (g_nu G))
theorem g_li_sub (G : bs_G) : ∀ r L, g_sub L (g_li G r L) := by
  intro r
  induction r with
  | zero => intro L; exact g_sub_rfl L
  | succ r ih =>
    intro L
    rw [g_li]
    split
    · exact g_sub_rfl L
    · exact g_sub_tr (g_ps_sub G L _) (ih _)
theorem g_li_min {G : bs_G} {C : Nat} (hC : g_cl G C) : ∀ r L, g_sub L C → g_sub (g_li G r L) C := by
  intro r
  induction r with
  | zero => intro L h; exact h
  | succ r ih =>
    intro L h
    rw [g_li]
    split
    · exact h
    · exact ih _ (g_ps_min hC h _ (Nat.le_refl _))
theorem g_li_lt {G : bs_G} : ∀ r L, L < 2 ^ g_nu G → g_li G r L < 2 ^ g_nu G := by
  intro r
  induction r with
  | zero => intro L h; exact h
  | succ r ih =>
    intro L h
    rw [g_li]
    split
    · exact h
    · exact ih _ (g_ps_lt h _ (Nat.le_refl _))
theorem g_ps_ct {G : bs_G} {L : Nat} (h : L < 2 ^ g_nu G) (hn : ¬ g_ps G L (g_nu G) = L) : g_ct L (g_nu G) < g_ct (g_ps G L (g_nu G)) (g_nu G) := by
  obtain ⟨k, k1, k2⟩ := g_sub_ne (g_ps_sub G L (g_nu G)) hn
  exact g_ct_lt (g_ps_sub G L _) k1 k2 _ (g_tb_lt (g_ps_lt h _ (Nat.le_refl _)) k2)
theorem g_li_cl {G : bs_G} : ∀ r L, L < 2 ^ g_nu G → g_nu G < r + g_ct L (g_nu G) → g_cl G (g_li G r L) := by
  intro r
  induction r with
  | zero => intro L _ h; have := g_ct_le L (g_nu G); omega
  | succ r ih =>
    intro L hl h
    rw [g_li]
    split
    · rename_i c; exact g_ps_fix c
    · rename_i c
      have := g_ps_ct hl c
      exact ih _ (g_ps_lt hl _ (Nat.le_refl _)) (by omega)
/-- the least closed set over F -/
def g_lc (G : bs_G) (F : Nat) : Nat := g_li G (g_nu G + 1) F
theorem g_lc_cl {G : bs_G} {F : Nat} (h : F < 2 ^ g_nu G) : g_cl G (g_lc G F) := g_li_cl _ _ h (by omega)
theorem g_lc_sub (G : bs_G) (F : Nat) : g_sub F (g_lc G F) := g_li_sub G _ F
theorem g_lc_min {G : bs_G} {F C : Nat} (hC : g_cl G C) (h : g_sub F C) : g_sub (g_lc G F) C := g_li_min hC _ _ h
theorem g_lc_lt {G : bs_G} {F : Nat} (h : F < 2 ^ g_nu G) : g_lc G F < 2 ^ g_nu G := g_li_lt _ _ h
/-- a balloon's bubbles follow each other -/
def g_ch (G : bs_G) : Prop := ∀ i, g_tw G i = 1 → g_fr G (i + 1) = g_to G i
/-- W is what is left of the lost L -/
def g_co (G : bs_G) (W L : Nat) : Prop := W < 2 ^ g_nu G ∧ L < 2 ^ g_nu G ∧ ∀ i, i < g_nu G → W.testBit i = !L.testBit i
theorem g_co_es {G : bs_G} {W L : Nat} (h : g_co G W L) (p : Nat) : g_es G p W (g_nu G) = g_lv G L p (g_nu G) := by
  apply g_sm_cg
  intro i hi
  have e := h.2.2 i hi
  have e2 : g_bt W i = (W.testBit i).toNat := by
    rw [← g_b_t]
    unfold g_bt g_b
    rw [Nat.and_one_is_mod]
  cases c : L.testBit i with
  | true =>
    rw [c] at e
    rw [e2, e]
    rfl
  | false =>
    rw [c] at e
    rw [e2, e]
    rfl
theorem g_co_lv {G : bs_G} {W C : Nat} (hW : ∀ i, i < g_nu G → W.testBit i = false → C.testBit i = true) (p : Nat) : g_lv G C p (g_nu G) ≤ g_es G p W (g_nu G) := by
  apply g_sm_mono
  intro i hi
  have e2 : g_bt W i = (W.testBit i).toNat := by
    rw [← g_b_t]
    unfold g_bt g_b
    rw [Nat.and_one_is_mod]
  cases c : W.testBit i with
  | true =>
    rw [e2, c, if_pos (show true.toNat = 1 from rfl)]
    split
    · exact Nat.zero_le _
    · exact Nat.le_refl _
  | false => rw [if_pos (hW i hi c)]; exact Nat.zero_le _
/-- where the model takes two away -/
def g_mx (G : bs_G) (W n : Nat) : Prop := g_tw G n = 1 ∧ W.testBit n ≠ W.testBit (n + 1) ∧ g_es G (g_to G n) W (g_nu G) < 3
def g_m3 (W n : Nat) : Nat := W &&& (3 * 2 ^ n ^^^ 4294967295)
theorem g_m3_tb {W n i : Nat} (hW : W < 2 ^ 24) (hn : n < 24) : (g_m3 W n).testBit i = (W.testBit i && !(decide (i = n ∨ i = n + 1))) := by
  unfold g_m3
  rw [Nat.testBit_and]
  cases c : W.testBit i with
  | false => rfl
  | true =>
    have hi := g_tb_lt hW c
    rw [Bool.true_and, Bool.true_and, Nat.testBit_xor]
    have e1 : (4294967295 : Nat).testBit i = true := by
      have := Nat.testBit_two_pow_sub_one 32 i
      rw [show (2 : Nat) ^ 32 - 1 = 4294967295 from rfl] at this
      rw [this]
      simp
      omega
    rw [e1, Nat.mul_comm, Nat.testBit_two_pow_mul]
    have e3 : ∀ k, (3 : Nat).testBit k = decide (k = 0 ∨ k = 1) := by
      intro k
      match k with
      | 0 => rfl
      | 1 => rfl
      | k + 2 =>
        have : (3 : Nat).testBit (k + 2) = false := Nat.testBit_lt_two_pow (Nat.lt_of_lt_of_le (show 3 < 2 ^ 2 by decide) (Nat.pow_le_pow_right (by decide) (by omega)))
        rw [this]
        simp
    rw [e3]
    by_cases h1 : n ≤ i
    · by_cases h2 : i = n ∨ i = n + 1
      · have : i - n = 0 ∨ i - n = 1 := by omega
        simp [h1, h2, this]
      · have : ¬ (i - n = 0 ∨ i - n = 1) := by omega
        simp [h1, h2, this]
    · have : ¬ (i = n ∨ i = n + 1) := by omega
      simp [h1, this]
theorem g_mx_b {G : bs_G} (hc : g_ch G) {C W n : Nat} (hC : g_cl G C) (hW : ∀ i, i < g_nu G → W.testBit i = false → C.testBit i = true) (h : g_mx G W n) : C.testBit n = true ∧ C.testBit (n + 1) = true := by
  obtain ⟨h1, h2, h3⟩ := h
  obtain ⟨-, h4, -⟩ := g_tw_in (G := G) (i := n) (by omega)
  have h5 := Nat.lt_of_le_of_lt (g_co_lv hW (g_to G n)) h3
  cases a : W.testBit n with
  | true =>
    have b : W.testBit (n + 1) = false := by
      cases b : W.testBit (n + 1) with
      | false => rfl
      | true => rw [a, b] at h2; exact absurd rfl h2
    have c1 := hW _ h4 b
    refine ⟨hC n (by omega) ?_, c1⟩
    rw [g_hl_c]
    exact Or.inr ⟨h1, h5, c1⟩
  | false =>
    have c1 := hW _ (by omega) a
    refine ⟨c1, hC (n + 1) h4 ?_⟩
    rw [g_hl_c]
    refine Or.inl ⟨by omega, h1, ?_, c1⟩
    rw [hc n h1]
    exact h5
theorem g_mx_cl {G : bs_G} (hc : g_ch G) {W L : Nat} (h : g_co G W L) (hx : ∀ n, n < g_nu G → ¬ g_mx G W n) : g_cl G L := by
  intro i hi hh
  cases c : L.testBit i with
  | true => rfl
  | false =>
    exfalso
    have wi : W.testBit i = true := by rw [h.2.2 i hi, c]; rfl
    rw [g_hl_c] at hh
    rcases hh with ⟨a, b, d, e⟩ | ⟨a, d, e⟩
    · have w2 : W.testBit (i - 1) = false := by rw [h.2.2 (i - 1) (by omega), e]; rfl
      refine hx (i - 1) (by omega) ⟨b, ?_, ?_⟩
      · rw [show i - 1 + 1 = i by omega, wi, w2]; decide
      · have := hc (i - 1) b
        rw [show i - 1 + 1 = i by omega] at this
        rw [g_co_es h, ← this]
        exact d
    · have h4 := (g_tw_in (G := G) (i := i) (by omega)).2.1
      have w2 : W.testBit (i + 1) = false := by rw [h.2.2 (i + 1) h4, e]; rfl
      refine hx i hi ⟨a, ?_, ?_⟩
      · rw [wi, w2]; decide
      · rw [g_co_es h]; exact d
/-- what is left when the model can take nothing more away -/
theorem g_left_eq {G : bs_G} (hc : g_ch G) {F W : Nat} (hF : F < 2 ^ g_nu G) (hW : W < 2 ^ g_nu G) (h1 : ∀ i, i < g_nu G → F.testBit i = true → W.testBit i = false) (h2 : ∀ C, g_cl G C → g_sub F C → ∀ i, i < g_nu G → W.testBit i = false → C.testBit i = true) (hx : ∀ n, n < g_nu G → ¬ g_mx G W n) : g_co G W (g_lc G F) := by
  refine ⟨hW, g_lc_lt hF, ?_⟩
  have hL : g_co G W (2 ^ g_nu G - 1 ^^^ W) := by
    have q : (2 ^ g_nu G - 1) < 2 ^ g_nu G := by have := Nat.one_le_two_pow (n := g_nu G); omega
    refine ⟨hW, Nat.xor_lt_two_pow q hW, fun i hi => ?_⟩
    rw [Nat.testBit_xor, Nat.testBit_two_pow_sub_one]
    cases W.testBit i <;> simp [hi]
  have cl := g_mx_cl hc hL hx
  have s1 : g_sub F (2 ^ g_nu G - 1 ^^^ W) := by
    intro i hi
    have hn := g_tb_lt hF hi
    have a := hL.2.2 i hn
    rw [h1 i hn hi] at a
    cases b : (2 ^ g_nu G - 1 ^^^ W).testBit i with
    | true => rfl
    | false => rw [b] at a; cases a
  intro i hi
  have a := hL.2.2 i hi
  cases b : (g_lc G F).testBit i with
  | true =>
    have := g_lc_min cl s1 i b
    rw [this] at a
    exact a
  | false =>
    cases w : W.testBit i with
    | true => rfl
    | false =>
      have := h2 _ (g_lc_cl hF) (g_lc_sub G F) i hi w
      rw [b] at this
      cases this
