/-! ALIKE: the class's search -/
theorem al_i_1 (k : Nat) : al_i k + nI 1 = nI k := by
  by_cases z : k = 0
  · rw [z]
    decide
  · rw [show k = k - 1 + 1 by omega, al_i_s, fn_add]
theorem al_i_n {k : Nat} (hk : k < 2 ^ 30) : (al_i k = -1) = (k = 0) := by
  have h := al_i_eq hk (show 0 < 2 ^ 30 by decide)
  rw [al_i_0] at h
  exact h
def al_Tc (G H : bs_G) (d q : Nat) (r : Nat → Nat) : Prop := al_T G H d q r ∧ g_en G d = g_en H q
/-- what the search stands on: two figures, their kinds -/
def al_env (x f h kn : Nat) (G H : bs_G) (B L : Nat → Nat) (C c1 c2 : Nat → Nat → Nat) (mu : bs_Mm) : Prop := (fg_isF x f = true ∧ fg_isF x h = true ∧ bs_rv (mu (x + 30) 7) = some f ∧ bs_rv (mu (x + 30) 8) = some h ∧ bs_iv (mu (x + 30) 6) = nI (g_np G)) ∧ cFv f G mu ∧ cFv h H mu ∧ (al_K kn B L C ∧ kn ≤ 48) ∧ al_row mu (x + 32) c1 ∧ al_row mu (x + 33) c2 ∧ (∀ p q, p < 8 → q < 8 → c1 p q ≤ kn ∧ ∀ z, C (c1 p q) z = al_b G p q z (g_nu G)) ∧ ∀ p q, p < 8 → q < 8 → c2 p q ≤ kn ∧ ∀ z, C (c2 p q) z = al_b H p q z (g_nu H)
theorem al_env_of {x f h kn : Nat} {G H : bs_G} {B L : Nat → Nat} {C c1 c2 : Nat → Nat → Nat} {mu mu' : bs_Mm} (hx : x + 63 ≤ f ∧ x + 63 ≤ h) (H0 : al_env x f h kn G H B L C c1 c2 mu) (e : ∀ a, a ≠ x + 31 → mu' a = mu a) : al_env x f h kn G H B L C c1 c2 mu' := by
  obtain ⟨⟨h1, h2, h3, h4, h5⟩, h6, h7, h8, h9, h10, h11, h12⟩ := H0
  refine ⟨⟨h1, h2, by rw [e _ (by omega)]; exact h3, by rw [e _ (by omega)]; exact h4, by rw [e _ (by omega)]; exact h5⟩, cFv_of h6 (fun k _ => e _ (by omega)), cFv_of h7 (fun k _ => e _ (by omega)), h8, fun p q hp hq => by rw [e _ (by omega)]; exact h9 p q hp hq, fun p q hp hq => by rw [e _ (by omega)]; exact h10 p q hp hq, h11, h12⟩
theorem al_env_k {x f h kn : Nat} {G H : bs_G} {B L : Nat → Nat} {C c1 c2 : Nat → Nat → Nat} {mu : bs_Mm} (E : al_env x f h kn G H B L C c1 c2 mu) {p q p' q' : Nat} (hp : p < 8) (hq : q < 8) (hp' : p' < 8) (hq' : q' < 8) : (al_i (c1 p q) = al_i (c2 p' q')) = ∀ z, al_b G p q z (g_nu G) = al_b H p' q' z (g_nu H) := by
  obtain ⟨-, -, -, ⟨h8, h8b⟩, -, -, h11, h12⟩ := E
  obtain ⟨a1, a2⟩ := h11 p q hp hq
  obtain ⟨b1, b2⟩ := h12 p' q' hp' hq'
  rw [al_i_eq (by omega) (by omega)]
  refine propext ⟨fun h z => ?_, fun h => ?_⟩
  · rw [← a2 z, ← b2 z, h]
  · exact al_K_inj h8 _ _ _ (Nat.le_refl _) a1 b1 (fun z => by rw [a2 z, b2 z, h z])
set_option maxHeartbeats 1000000 in
theorem sf_fits {x f h kn d q : Nat} {G H : bs_G} {B L : Nat → Nat} {C c1 c2 : Nat → Nat → Nat} {mu : bs_Mm} {r : Nat → Nat} (hG : g_ok G) (hH : g_ok H) (hn : g_np G = g_np H ∧ g_np G ≤ 8) (E : al_env x f h kn G H B L C c1 c2 mu) (hd : d < g_np G) (hq : q < g_np G) (hr : ∀ j, j < d → bs_iv (mu (x + 31) j) = nI (r j) ∧ r j < g_np G) : ∃ a, FX4_fits x mu (nI d) (nI q) = some a ∧ ((a = nI 1 ∧ al_Tc G H d q r) ∨ (a = nI 0 ∧ ¬ al_Tc G H d q r)) := by
  obtain ⟨⟨h1, h2, h3, h4, h5⟩, h6, h7, h8, h9, h10, h11, h12⟩ := id E
  have k0 := al_env_k E (show d < 8 by omega) (show d < 8 by omega) (show q < 8 by omega) (show q < 8 by omega)
  have r1 := h9 d d (by omega) (by omega)
  have r2 := h10 q q (by omega) (by omega)
  unfold FX4_fits
  simp (disch := omega) only [fg_gd_t, fg_bd_s, fg_b2_s, fg_wr_s, fg_let_s, fn_add, fn_sub, fn_mul, fn_cl, fn_lt, fn_le, fn_eq, fn_eq0, fn_lt0, fn_0le, fn_0lt, fn_le0, fn_in, fn_shl, fn_shr, fa_and, fa_or, bs_xorI, if_true, if_false, r1, r2]
  by_cases c : al_i (c1 d d) = al_i (c2 q q)
  · have e1 := h6.2.2.2.2.2.2.2.2.2 d hd
    have e2 := h7.2.2.2.2.2.2.2.2.2 q (by omega)
    have b1 := g_be hG d
    have b2 := g_be hH q
    rw [if_pos c, h3, h4]
    simp (disch := omega) only [fg_gd_t, fg_bd_s, fg_b2_s, fg_wr_s, fg_let_s, fn_add, fn_sub, fn_mul, fn_cl, fn_lt, fn_le, fn_eq, fn_eq0, fn_lt0, fn_0le, fn_0lt, fn_le0, fn_in, fn_shl, fn_shr, fa_and, fa_or, bs_xorI, if_true, if_false, fg_oq_s, h1, h2, e1, e2]
    by_cases y : g_en G d = g_en H q
    · rw [if_pos y]
      have key : (fg_lp (FX4_fits_b52 x f h mu (nI d) (nI q)) fg_fu (nI 0) = some (.inl ()) ∧ ∀ p, p < d → ∀ z, al_b G d p z (g_nu G) = al_b H q (r p) z (g_nu H)) ∨ (fg_lp (FX4_fits_b52 x f h mu (nI d) (nI q)) fg_fu (nI 0) = some (.inr (nI 0)) ∧ ¬ ∀ p, p < d → ∀ z, al_b G d p z (g_nu G) = al_b H q (r p) z (g_nu H)) := by
        refine Exists.elim (fg_lp_i (body := FX4_fits_b52 x f h mu (nI d) (nI q)) (fun w s => ∃ p, s = nI p ∧ p + w = d ∧ ∀ o, o < p → ∀ z, al_b G d o z (g_nu G) = al_b H q (r o) z (g_nu H)) (fun t => (t = .inl () ∧ ∀ p, p < d → ∀ z, al_b G d p z (g_nu G) = al_b H q (r p) z (g_nu H)) ∨ (t = .inr (nI 0) ∧ ¬ ∀ p, p < d → ∀ z, al_b G d p z (g_nu G) = al_b H q (r p) z (g_nu H))) (fun w s hI => ?_) fg_fu d (nI 0) ⟨0, rfl, by omega, fun o ho => by omega⟩ (fg_fu_lt (by omega))) (fun t ht => ?_)
        · obtain ⟨p, e, hw, hh⟩ := hI
          subst e
          by_cases z : d ≤ p
          · refine Or.inr ⟨.inl (), ?_, Or.inl ⟨rfl, fun o ho => hh o (by omega)⟩⟩
            unfold FX4_fits_b52
            simp (disch := omega) only [fg_gd_t, fg_bd_s, fg_b2_s, fg_wr_s, fg_let_s, fn_add, fn_sub, fn_mul, fn_cl, fn_lt, fn_le, fn_eq, fn_eq0, fn_lt0, fn_0le, fn_0lt, fn_le0, fn_in, fn_shl, fn_shr, fa_and, fa_or, bs_xorI, if_true, if_false, if_pos z]
          · obtain ⟨m1, m2⟩ := hr p (by omega)
            have r3 := h9 d p (by omega) (by omega)
            have r4 := h10 q (r p) (by omega) (by omega)
            have k1 := al_env_k E (show d < 8 by omega) (show p < 8 by omega) (show q < 8 by omega) (show r p < 8 by omega)
            by_cases y2 : al_i (c1 d p) = al_i (c2 q (r p))
            · refine Or.inl ⟨nI (p + 1), w - 1, ?_, by omega, p + 1, rfl, by omega, fun o ho => ?_⟩
              · unfold FX4_fits_b52
                simp (disch := omega) only [fg_gd_t, fg_bd_s, fg_b2_s, fg_wr_s, fg_let_s, fn_add, fn_sub, fn_mul, fn_cl, fn_lt, fn_le, fn_eq, fn_eq0, fn_lt0, fn_0le, fn_0lt, fn_le0, fn_in, fn_shl, fn_shr, fa_and, fa_or, bs_xorI, if_true, if_false, if_neg z, m1, r3, r4, if_pos y2]
              · by_cases e : o = p
                · subst e
                  rw [k1] at y2
                  exact y2
                · exact hh o (by omega)
            · refine Or.inr ⟨.inr (nI 0), ?_, Or.inr ⟨rfl, fun hz => y2 (by rw [k1]; exact hz p (by omega))⟩⟩
              unfold FX4_fits_b52
              simp (disch := omega) only [fg_gd_t, fg_bd_s, fg_b2_s, fg_wr_s, fg_let_s, fn_add, fn_sub, fn_mul, fn_cl, fn_lt, fn_le, fn_eq, fn_eq0, fn_lt0, fn_0le, fn_0lt, fn_le0, fn_in, fn_shl, fn_shr, fa_and, fa_or, bs_xorI, if_true, if_false, if_neg z, m1, r3, r4, if_neg y2]
        · rcases ht.2 with ⟨t1, t2⟩ | ⟨t1, t2⟩
          · exact Or.inl ⟨by rw [← t1]; exact ht.1, t2⟩
          · exact Or.inr ⟨by rw [← t1]; exact ht.1, t2⟩
      rcases key with ⟨t1, t2⟩ | ⟨t1, t2⟩
      · rw [t1]
        exact ⟨nI 1, rfl, Or.inl ⟨rfl, ⟨by rw [k0] at c; exact c, t2⟩, y⟩⟩
      · rw [t1]
        exact ⟨nI 0, rfl, Or.inr ⟨rfl, fun hz => t2 hz.1.2⟩⟩
    · rw [if_neg y]
      exact ⟨nI 0, rfl, Or.inr ⟨rfl, fun hz => y hz.2⟩⟩
  · rw [if_neg c]
    exact ⟨nI 0, rfl, Or.inr ⟨rfl, fun hz => c (by rw [k0]; exact hz.1.1)⟩⟩
theorem sf_nextF {x f h kn d lo U : Nat} {G H : bs_G} {B L : Nat → Nat} {C c1 c2 : Nat → Nat → Nat} {mu : bs_Mm} {r : Nat → Nat} (hG : g_ok G) (hH : g_ok H) (hn : g_np G = g_np H ∧ g_np G ≤ 8) (E : al_env x f h kn G H B L C c1 c2 mu) (hd : d < g_np G) (hl : lo ≤ g_np G) (hU : U < 2 ^ 24) (hr : ∀ j, j < d → bs_iv (mu (x + 31) j) = nI (r j) ∧ r j < g_np G) : ∃ k, FX4_nextFitting x mu (nI d) (nI lo) (nI U) = some (al_i k) ∧ ((k = 0 ∧ ∀ o, lo ≤ o → o < g_np G → U.testBit o = false → ¬ al_Tc G H d o r) ∨ ∃ q, k = q + 1 ∧ lo ≤ q ∧ q < g_np G ∧ U.testBit q = false ∧ al_Tc G H d q r ∧ ∀ o, lo ≤ o → o < q → U.testBit o = false → ¬ al_Tc G H d o r) := by
  have h5 := E.1.2.2.2.2
  unfold FX4_nextFitting
  refine Exists.elim (fg_lp_i (body := FX4_nextFitting_b3 x mu (nI d) (nI lo) (nI U)) (fun w s => ∃ p, s = nI p ∧ p + w = g_np G ∧ lo ≤ p ∧ ∀ o, lo ≤ o → o < p → U.testBit o = false → ¬ al_Tc G H d o r) (fun t => (t = .inl () ∧ ∀ o, lo ≤ o → o < g_np G → U.testBit o = false → ¬ al_Tc G H d o r) ∨ ∃ q, t = .inr (nI q) ∧ lo ≤ q ∧ q < g_np G ∧ U.testBit q = false ∧ al_Tc G H d q r ∧ ∀ o, lo ≤ o → o < q → U.testBit o = false → ¬ al_Tc G H d o r) (fun w s hI => ?_) fg_fu (g_np G - lo) (nI lo) ⟨lo, rfl, by omega, Nat.le_refl _, fun o h1 h2 => by omega⟩ (fg_fu_lt (by omega))) (fun t ht => ?_)
  · obtain ⟨p, e, hw, hp, hh⟩ := hI
    subst e
    by_cases z : g_np G ≤ p
    · refine Or.inr ⟨.inl (), ?_, Or.inl ⟨rfl, fun o h1 h2 => hh o h1 (by omega)⟩⟩
      unfold FX4_nextFitting_b3
      simp (disch := omega) only [fg_gd_t, fg_bd_s, fg_b2_s, fg_wr_s, fg_let_s, fn_add, fn_sub, fn_mul, fn_cl, fn_lt, fn_le, fn_eq, fn_eq0, fn_lt0, fn_0le, fn_0lt, fn_le0, fn_in, fn_shl, fn_shr, fa_and, fa_or, bs_xorI, if_true, if_false, h5, if_pos z]
    · cases c : U.testBit p with
      | true =>
        have b1 : ¬ nI (U &&& 2 ^ p) = (0 : Int32) := by rw [fn_bit0 (by omega), c]; decide
        refine Or.inl ⟨nI (p + 1), w - 1, ?_, by omega, p + 1, rfl, by omega, by omega, fun o h1 h2 h3 => ?_⟩
        · unfold FX4_nextFitting_b3
          simp (disch := omega) only [fg_gd_t, fg_bd_s, fg_b2_s, fg_wr_s, fg_let_s, fn_add, fn_sub, fn_mul, fn_cl, fn_lt, fn_le, fn_eq, fn_eq0, fn_lt0, fn_0le, fn_0lt, fn_le0, fn_in, fn_shl, fn_shr, fa_and, fa_or, bs_xorI, if_true, if_false, h5, if_neg z, if_neg b1]
        · by_cases e : o = p
          · rw [e, c] at h3
            cases h3
          · exact hh o h1 (by omega) h3
      | false =>
        have b1 : nI (U &&& 2 ^ p) = (0 : Int32) := by rw [fn_bit0 (by omega)]; exact c
        obtain ⟨a, a1, a2⟩ := sf_fits hG hH hn E hd (show p < g_np G by omega) hr
        rcases a2 with ⟨a3, a4⟩ | ⟨a3, a4⟩
        · subst a3
          refine Or.inr ⟨.inr (nI p), ?_, Or.inr ⟨p, rfl, hp, by omega, c, a4, hh⟩⟩
          unfold FX4_nextFitting_b3
          simp (disch := omega) only [fg_gd_t, fg_bd_s, fg_b2_s, fg_wr_s, fg_let_s, fn_add, fn_sub, fn_mul, fn_cl, fn_lt, fn_le, fn_eq, fn_eq0, fn_lt0, fn_0le, fn_0lt, fn_le0, fn_in, fn_shl, fn_shr, fa_and, fa_or, bs_xorI, if_true, if_false, h5, if_neg z, if_pos b1, a1]
          rfl
        · subst a3
          refine Or.inl ⟨nI (p + 1), w - 1, ?_, by omega, p + 1, rfl, by omega, by omega, fun o h1 h2 h3 => ?_⟩
          · unfold FX4_nextFitting_b3
            simp (disch := omega) only [fg_gd_t, fg_bd_s, fg_b2_s, fg_wr_s, fg_let_s, fn_add, fn_sub, fn_mul, fn_cl, fn_lt, fn_le, fn_eq, fn_eq0, fn_lt0, fn_0le, fn_0lt, fn_le0, fn_in, fn_shl, fn_shr, fa_and, fa_or, bs_xorI, if_true, if_false, h5, if_neg z, if_pos b1, a1]
          · by_cases e : o = p
            · rw [e]; exact a4
            · exact hh o h1 (by omega) h3
  · obtain ⟨t1, t2⟩ := ht
    rw [t1]
    rcases t2 with ⟨t3, t4⟩ | ⟨q, t3, t4⟩
    · subst t3
      exact ⟨0, rfl, Or.inl ⟨rfl, t4⟩⟩
    · subst t3
      exact ⟨q + 1, by rw [al_i_s]; rfl, Or.inr ⟨q, rfl, t4⟩⟩
/-- what is used by the first i of a row (numbers one more) -/
def al_u (R : Nat → Nat) : Nat → Nat
  | 0 => 0
  | i + 1 => al_u R i ||| 2 ^ (R i - 1)
theorem al_u_m {R : Nat → Nat} {q : Nat} : ∀ i, (al_u R i).testBit q = true → ∃ j, j < i ∧ R j - 1 = q := by
  intro i
  induction i with
  | zero => intro h; rw [al_u, Nat.zero_testBit] at h; cases h
  | succ i ih =>
    intro h
    rw [al_u, g_tb_or] at h
    by_cases e : R i - 1 = q
    · exact ⟨i, by omega, e⟩
    · rw [decide_eq_false e, Bool.or_false] at h
      obtain ⟨j, h1, h2⟩ := ih h
      exact ⟨j, by omega, h2⟩
theorem al_u_y {R : Nat → Nat} : ∀ i j, j < i → (al_u R i).testBit (R j - 1) = true := by
  intro i
  induction i with
  | zero => intro j h; omega
  | succ i ih =>
    intro j h
    rw [al_u, g_tb_or]
    by_cases e : j = i
    · rw [e, decide_eq_true rfl, Bool.or_true]
    · rw [ih j (by omega)]
      rfl
theorem al_u_cg {R R' : Nat → Nat} : ∀ i, (∀ j, j < i → R j = R' j) → al_u R i = al_u R' i := by
  intro i
  induction i with
  | zero => intro _; rfl
  | succ i ih =>
    intro h
    rw [al_u, al_u, ih (fun j hj => h j (by omega)), h i (by omega)]
theorem al_u_lt {R : Nat → Nat} {n : Nat} (h0 : 0 < n) : ∀ i, (∀ j, j < i → R j ≤ n) → al_u R i < 2 ^ n := by
  intro i
  induction i with
  | zero => intro _; exact Nat.two_pow_pos n
  | succ i ih =>
    intro h
    have := h i (by omega)
    exact Nat.or_lt_two_pow (ih (fun j hj => h j (by omega))) (Nat.pow_lt_pow_right (by decide) (by omega))
theorem al_u_ct {R : Nat → Nat} {n : Nat} : ∀ i, (∀ j, j < i → 1 ≤ R j ∧ R j ≤ n ∧ (al_u R j).testBit (R j - 1) = false) → g_ct (al_u R i) n = i := by
  intro i
  induction i with
  | zero => intro _; exact g_sm_z _ (fun j _ => g_if0 (by rw [al_u, Nat.zero_testBit]; decide))
  | succ i ih =>
    intro h
    obtain ⟨a, b, c⟩ := h i (by omega)
    rw [al_u, al_ct_or c (by omega), ih (fun j hj => h j (by omega))]
/-- how many trials are left -/
def al_N : Nat → Nat
  | 0 => 0
  | k + 1 => 1 + (k + 1) * (1 + al_N k)
def al_c (n : Nat) (R : Nat → Nat) (i : Nat) : Nat := g_sm (fun q => g_if (R i ≤ q ∧ (al_u R i).testBit q = false)) n
def al_w (n : Nat) (R : Nat → Nat) : Nat → Nat := g_sm (fun i => 1 + al_c n R i * (1 + al_N (n - i - 1)))
theorem al_lt {h k : Nat → Nat} {q : Nat} (hq : h q < k q) : ∀ n, (∀ i, i < n → h i ≤ k i) → q < n → g_sm h n < g_sm k n := by
  intro n
  induction n with
  | zero => intro _ h; omega
  | succ n ih =>
    intro hh hn
    simp only [g_sm]
    by_cases e : q = n
    · subst e
      have := g_sm_mono (h := h) (k := k) q (fun i hi => hh i (by omega))
      omega
    · have := ih (fun i hi => hh i (by omega)) (by omega)
      have := hh n (by omega)
      omega
theorem al_c0 {n i : Nat} {R : Nat → Nat} (h0 : R i = 0) (h : ∀ j, j < i → 1 ≤ R j ∧ R j ≤ n ∧ (al_u R j).testBit (R j - 1) = false) : al_c n R i + i = n := by
  have c := al_u_ct i h
  have : ∀ m, g_sm (fun q => g_if (R i ≤ q ∧ (al_u R i).testBit q = false)) m + g_ct (al_u R i) m = m := by
    intro m
    induction m with
    | zero => rfl
    | succ m ih =>
      show g_sm (fun q => g_if (R i ≤ q ∧ (al_u R i).testBit q = false)) m + g_if (R i ≤ m ∧ (al_u R i).testBit m = false) + (g_ct (al_u R i) m + g_if ((al_u R i).testBit m = true)) = m + 1
      cases d : (al_u R i).testBit m with
      | true => rw [g_if0 (fun z => absurd z.2 (by decide)), g_if1 rfl]; omega
      | false => rw [g_if1 ⟨by omega, rfl⟩, g_if0 (by decide)]; omega
  have := this n
  unfold al_c
  omega
theorem al_cs {n i q : Nat} {R R' : Nat → Nat} (hj : ∀ j, j < i → R' j = R j) (hR : R' i = q + 1) (h1 : R i ≤ q) (h2 : q < n) (h3 : (al_u R i).testBit q = false) : al_c n R' i + 1 ≤ al_c n R i := by
  unfold al_c
  rw [al_u_cg (R := R') (R' := R) i hj, hR]
  refine al_lt (q := q) ?_ n (fun p _ => ?_) h2
  · rw [g_if0 (fun z => by omega), g_if1 ⟨h1, h3⟩]
    exact Nat.zero_lt_one
  · by_cases c : q + 1 ≤ p ∧ (al_u R i).testBit p = false
    · rw [g_if1 c, g_if1 ⟨by omega, c.2⟩]
      exact Nat.le_refl _
    · rw [g_if0 c]
      exact Nat.zero_le _
theorem al_w_cg {n : Nat} {R R' : Nat → Nat} (d : Nat) (h : ∀ j, j < d → R j = R' j) : al_w n R d = al_w n R' d := g_sm_cg d fun i hi => by
  unfold al_c
  rw [al_u_cg i (fun j hj => h j (by omega)), h i hi]
