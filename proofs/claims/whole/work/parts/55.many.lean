/-! MANY (own): both sides -/
def g_b (n p : Nat) : Nat := n / 2 ^ p % 2
theorem g_b_t (n p : Nat) : g_b n p = (n.testBit p).toNat := by
  unfold g_b
  rw [Nat.testBit_eq_decide_div_mod_eq]
  by_cases h : n / 2 ^ p % 2 = 1
  · simp [h]
  · have : n / 2 ^ p % 2 = 0 := by omega
    simp [this]
theorem g_b_xor (a b p : Nat) : g_b (a ^^^ b) p = (g_b a p + g_b b p) % 2 := by
  rw [g_b_t, g_b_t, g_b_t, Nat.testBit_xor]
  cases a.testBit p <;> cases b.testBit p <;> rfl
theorem g_b_pow (k p : Nat) : g_b (2 ^ k) p = g_if (k = p) := by
  rw [g_b_t, Nat.testBit_two_pow]
  by_cases h : k = p <;> simp [h, g_if]
theorem g_b_eb (G : bs_G) (i p : Nat) : g_b (g_eb G i) p = (g_if (g_fr G i = p) + g_if (g_to G i = p)) % 2 := by
  unfold g_eb
  rw [g_b_xor, g_b_pow, g_b_pow]
theorem g_b_od (G : bs_G) (p n : Nat) : g_b (g_od G n) p = g_sm (fun i => g_if (g_fr G i = p) + g_if (g_to G i = p)) n % 2 := by
  induction n with
  | zero => show 0 / 2 ^ p % 2 = 0; simp
  | succ n ih =>
    show g_b (g_od G n ^^^ g_eb G n) p = (g_sm _ n + (g_if (g_fr G n = p) + g_if (g_to G n = p))) % 2
    rw [g_b_xor, ih, g_b_eb]
    omega
theorem g_xor_lt {a b n : Nat} (ha : a < 2 ^ n) (hb : b < 2 ^ n) : a ^^^ b < 2 ^ n := Nat.xor_lt_two_pow ha hb
theorem g_od_lt {G : bs_G} (hG : g_ok G) : ∀ n, n ≤ g_nu G → g_od G n < 2 ^ 30 := by
  intro n
  induction n with
  | zero => intro _; exact Nat.two_pow_pos 30
  | succ n ih =>
    intro hn
    have b := g_bd hG (i := n) (by omega)
    have h1 : 2 ^ g_fr G n < 2 ^ 30 := Nat.pow_lt_pow_right (by decide) (by omega)
    have h2 : 2 ^ g_to G n < 2 ^ 30 := Nat.pow_lt_pow_right (by decide) (by omega)
    exact g_xor_lt (ih (by omega)) (g_xor_lt h1 h2)
theorem g_sm_cg {h k : Nat → Nat} : ∀ n, (∀ i, i < n → h i = k i) → g_sm h n = g_sm k n := by
  intro n
  induction n with
  | zero => intro _; rfl
  | succ n ih => intro e; simp only [g_sm]; rw [ih (fun i hi => e i (by omega)), e n (by omega)]
theorem g_sm_zr {h : Nat → Nat} {n : Nat} : ∀ r, (∀ i, n ≤ i → h i = 0) → g_sm h (n + r) = g_sm h n := by
  intro r
  induction r with
  | zero => intro _; rfl
  | succ r ih => intro e; rw [← Nat.add_assoc]; simp only [g_sm]; rw [ih e, e _ (by omega)]; rfl
theorem g_pc_od {G : bs_G} (hG : g_ok G) : pc_n (g_od G (g_nu G)) 32 = g_on G (2 ^ g_nu G - 1) (g_np G) := by
  have q := g_bn hG
  have e : pc_n (g_od G (g_nu G)) 32 = g_sm (fun p => g_en G p % 2) 32 := g_sm_cg _ fun p _ => g_b_od G p (g_nu G)
  have z : ∀ p, g_np G ≤ p → (fun p => g_en G p % 2) p = 0 := by
    intro p hp
    have : ∀ n, n ≤ g_nu G → g_sm (fun i => g_if (g_fr G i = p) + g_if (g_to G i = p)) n = 0 := by
      intro n
      induction n with
      | zero => intro _; rfl
      | succ n ih =>
        intro hn
        have b := g_bd hG (i := n) (by omega)
        simp only [g_sm]
        rw [ih (by omega), g_if0 (by omega), g_if0 (by omega)]
    show g_en G p % 2 = 0
    unfold g_en
    rw [this _ (Nat.le_refl _)]
  have e2 := g_sm_zr (h := fun p => g_en G p % 2) (n := g_np G) (32 - g_np G) z
  rw [show g_np G + (32 - g_np G) = 32 by omega] at e2
  rw [e, e2]
  exact g_sm_cg _ fun p _ => by show g_en G p % 2 = g_es G p _ _ % 2; rw [g_es_all]
/-- what many answers of a figure -/
def k_many (G : bs_G) (a : Int32) : Int32 := if a = nI 0 then nI (g_nb G) else if a = nI 1 then nI (g_nu G) else if a = nI 2 then nI (g_np G) else if a = nI 3 then nI (g_sm (g_tw G) (g_nu G)) else if a = nI 4 then nI (g_sm (g_sl G) (g_nu G)) else if a = nI 5 then nI (g_on G (2 ^ g_nu G - 1) (g_np G)) else -1
theorem g_sl_last {G : bs_G} {n : Nat} (h : g_nu G = n + 1) : g_sm (g_sl G) (n + 1) = g_sm (g_sl G) n := by
  have : g_sl G n = 0 := by
    unfold g_sl
    refine g_if0 fun z => ?_
    have := g_tw_in (G := G) (i := n) (by omega)
    omega
  simp only [g_sm]
  rw [this]
  rfl
theorem sf_slack {x f k : Nat} {mu : bs_Mm} {G : bs_G} (hV : cFv f G mu) (hG : g_ok G) (hk : k < g_nu G) : FX1_slackTwistsUpTo x f mu (nI k) = some (nI (g_sm (g_sl G) k)) := by
  have q0 := g_bn hG
  unfold FX1_slackTwistsUpTo
  rw [fg_lp_n (fun i => (nI (g_sm (g_sl G) i), nI i)) (nI (g_sm (g_sl G) k)) k (by rfl) (fun i hi => ?_) ?_ (fg_fu_lt (by omega))]
  · rfl
  · unfold FX1_slackTwistsUpTo_b4
    simp (disch := omega) only [fg_gd_t, fg_bd_s, fg_b2_s, fg_wr_s, fg_let_s, fn_add, fn_sub, fn_mul, fn_cl, fn_lt, fn_le, fn_eq, fn_eq0, fn_lt0, fn_0le, fn_0lt, fn_le0, fn_in, fn_shl, fn_shr, fa_and, fa_or, bs_xorI, if_true, if_false, Nat.le_refl]
  · unfold FX1_slackTwistsUpTo_b4
    have b1 := g_bd hG (i := i) (by omega)
    have b2 := g_bd hG (i := i + 1) (by omega)
    have b3 := g_be hG (g_to G i)
    simp (disch := omega) only [fg_gd_t, fg_bd_s, fg_b2_s, fg_wr_s, fg_let_s, fn_add, fn_sub, fn_mul, fn_cl, fn_lt, fn_le, fn_eq, fn_eq0, fn_lt0, fn_0le, fn_0lt, fn_le0, fn_in, fn_shl, fn_shr, fa_and, fa_or, bs_xorI, if_true, if_false, if_neg (show ¬ k ≤ i by omega), hV.2.1, if_neg (show ¬ g_nu G ≤ i + 1 by omega), hV.2.2.2.2.2.2.2.2.1 i (by omega), hV.2.2.2.2.2.2.2.2.1 (i + 1) (by omega), hV.2.2.2.2.2.2.2.1 i (by omega), hV.2.2.2.2.2.2.2.2.2 (g_to G i) (by omega)]
    have e : g_sm (g_sl G) (i + 1) = g_sm (g_sl G) i + g_sl G i := rfl
    by_cases c : g_bo G i = g_bo G (i + 1)
    · rw [if_pos c]
      have t : g_tw G i = 1 := g_if1 ⟨by omega, c⟩
      by_cases c2 : 3 ≤ g_en G (g_to G i)
      · rw [if_pos c2, e, g_sl, g_if0 (by omega)]; rfl
      · rw [if_neg c2, e, g_sl, g_if1 ⟨t, by omega⟩]
    · rw [if_neg c, e, g_sl, g_if0 (fun z => c (g_tw_in (by omega)).2.2)]; rfl
theorem sf_slackA {x f : Nat} {mu : bs_Mm} {G : bs_G} (hV : cFv f G mu) (hG : g_ok G) : FX1_slackTwistsUpTo x f mu (nI (g_nu G) - nI 1) = some (nI (g_sm (g_sl G) (g_nu G))) := by
  have q0 := g_bn hG
  match h : g_nu G with
  | n + 1 =>
    rw [fn_sub (by omega), g_sl_last h]
    exact sf_slack hV hG (by omega)
  | 0 =>
    unfold FX1_slackTwistsUpTo
    rw [fg_lp_n (fun _ => (nI 0, nI 0)) (nI 0) 0 (by rfl) (fun i hi => by omega) ?_ (fg_fu_lt (by decide))]
    · rfl
    · unfold FX1_slackTwistsUpTo_b4
      have : nI 0 - nI 1 ≤ nI 0 := by decide
      simp only [if_pos this]
theorem sf_many {x fc j : Nat} {FG : Nat → bs_G} {mu : bs_Mm} (hF : cFG x fc FG mu) (hj : j < fc) (a : Int32) : FX11_many x mu (nI j) a = some (k_many (FG j) a) := by
  have hf := hF.1
  have hV := (hF.2.2 j hj).2
  have hG := (hF.2.2 j hj).1
  have ho := g_od_lt hG _ (Nat.le_refl _)
  unfold FX11_many k_many
  rw [sf_figY hF.2.1 hf hj, fg_bd_s, fg_oq_s, fg_isF_y (by omega), fg_gd_t, hV.1, hV.2.1, hV.2.2.1, sf_twists hV hG, sf_slackA hV hG, sf_oddP hV hG]
  simp only [fg_bd_s]
  rw [pc_bits mu (by omega), g_pc_od hG]
  simp only [fg_bd_s]
  repeat' split
  all_goals rfl
theorem sf_manyN {x fc : Nat} {mu : bs_Mm} (hc : bs_iv (mu x 13) = nI fc) {b : Int32} (hb : b < 0 ∨ nI fc ≤ b) (a : Int32) : FX11_many x mu b a = some (-1) := by
  unfold FX11_many
  rw [sf_figN hc hb]
  rfl
theorem tf_manyN {m fc : Nat} {mu : bs_Mm} (hc : bs_iv (mu m 20) = nI fc) (h : fc ≤ 12) {b : Int32} (hb : b < 0 ∨ nI fc ≤ b) (a : Int32) : FX12_many m mu b a = some (-1) := by
  unfold FX12_many
  rw [tf_figN hc h hb]
  rfl
theorem tf_many {m fc g : Nat} {FG : Nat → bs_G} {mu : bs_Mm} (hF : mFG m fc FG mu) (hg : g < fc) (a : Int32) : FX12_many m mu (nI g) a = some (k_many (FG g) a) := by
  have hf := hF.1
  have hV := (hF.2.2 g hg).2
  have hG := (hF.2.2 g hg).1
  have q0 := g_bn hG
  have hg13 : g < 13 := by omega
  have q1 := g_all_lt hG
  unfold FX12_many k_many
  rw [tf_figY hF.2.1 hf hg, fg_bd_s, if_neg (by decide)]
  rcases fn_any (n := 6) a (by decide) with h | ⟨k, hk, rfl⟩
  · have e : FX12_in m mu a (nI 0) (nI 5) = some 0 := by
      rw [show nI 5 = nI 6 - nI 1 from rfl]
      exact tf_inN (by decide) h
    have n : ∀ k, k < 6 → ¬ a = nI k := by
      intro k hk z
      subst z
      rcases h with h | h
      · rw [fn_lt0 (by omega)] at h; exact h
      · rw [fn_le (by decide) (by omega)] at h; omega
    rw [e, fg_bd_s, if_pos rfl, if_neg (n 0 (by decide)), if_neg (n 1 (by decide)), if_neg (n 2 (by decide)), if_neg (n 3 (by decide)), if_neg (n 4 (by decide)), if_neg (n 5 (by decide))]
  · rw [tf_inY (by omega) (by omega) (by decide), fg_bd_s, if_neg (by decide)]
    rw [fg_lp_n (fun i => (nI (g_sm (g_tw (FG g)) i), nI (g_sm (g_sl (FG g)) i), nI i)) (nI (g_sm (g_tw (FG g)) (g_nu (FG g))), nI (g_sm (g_sl (FG g)) (g_nu (FG g)))) (g_nu (FG g)) (by rfl) (fun i hi => ?_) ?_ (fg_fu_lt (by omega))]
    · rw [fg_bd_s, tf_all hV hg13 hG, fg_bd_s, tf_odd hV hg13 hG (by omega)]
      simp (disch := omega) only [fg_gd_t, fg_bd_s, fg_b2_s, fg_wr_s, fg_let_s, fn_add, fn_sub, fn_mul, fn_cl, fn_lt, fn_le, fn_eq, fn_eq0, fn_lt0, fn_0le, fn_0lt, fn_le0, fn_in, fn_shl, fn_shr, fa_and, fa_or, bs_xorI, if_true, if_false, hV.1, hV.2.1, hV.2.2.1]
      repeat' split
      all_goals first | rfl | omega
    · unfold FX12_many_b27
      simp (disch := omega) only [fg_gd_t, fg_bd_s, fg_b2_s, fg_wr_s, fg_let_s, fn_add, fn_sub, fn_mul, fn_cl, fn_lt, fn_le, fn_eq, fn_eq0, fn_lt0, fn_0le, fn_0lt, fn_le0, fn_in, fn_shl, fn_shr, fa_and, fa_or, bs_xorI, if_true, if_false, hV.2.1, Nat.le_refl]

    · unfold FX12_many_b27 FX12_many_j54_L27
      have b1 := g_tw_le (FG g) i
      have b2 := g_if_le (g_en (FG g) (g_to (FG g) i) < 3)
      have e1 : g_sm (g_tw (FG g)) (i + 1) = g_sm (g_tw (FG g)) i + g_tw (FG g) i := rfl
      have e2 : g_sm (g_sl (FG g)) (i + 1) = g_sm (g_sl (FG g)) i + g_sl (FG g) i := rfl
      simp (disch := omega) only [fg_gd_t, fg_bd_s, fg_b2_s, fg_wr_s, fg_let_s, fn_add, fn_sub, fn_mul, fn_cl, fn_lt, fn_le, fn_eq, fn_eq0, fn_lt0, fn_0le, fn_0lt, fn_le0, fn_in, fn_shl, fn_shr, fa_and, fa_or, bs_xorI, if_true, if_false, hV.2.1, if_neg (show ¬ g_nu (FG g) ≤ i by omega), tf_isTw hV hg13 hG (show i < 2 ^ 29 by omega), tf_isSl hV hg13 hG hi, e1, e2]
      by_cases c : g_tw (FG g) i = 0
      · have z : g_sl (FG g) i = 0 := g_if0 (fun z => by have := z.1; omega)
        rw [if_pos c, z, c, if_pos rfl]
      · rw [if_neg c]
        have t := (g_tw_in c).1
        by_cases c2 : g_en (FG g) (g_to (FG g) i) < 3
        · rw [g_if1 c2, g_sl, g_if1 ⟨t, c2⟩, t]; rfl
        · rw [g_if0 c2, g_sl, g_if0 (fun z => c2 z.2), t]; rfl