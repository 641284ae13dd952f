/-! WHAT IS LOST (own), as functions: the class's lostWith, the model's leftOf -/
theorem g_and0 (L i : Nat) : (L &&& 2 ^ i = 0) = (L.testBit i = false) := by
  apply propext
  constructor
  · intro h
    cases c : L.testBit i with
    | false => rfl
    | true =>
      have : (L &&& 2 ^ i).testBit i = true := by rw [Nat.testBit_and, c, Nat.testBit_two_pow_self]; rfl
      rw [h, Nat.zero_testBit] at this
      cases this
  · intro h
    apply Nat.eq_of_testBit_eq
    intro k
    rw [Nat.testBit_and, Nat.testBit_two_pow, Nat.zero_testBit]
    by_cases e : i = k
    · subst e; rw [h]; rfl
    · simp [e]
theorem fn_bit0 {L i : Nat} (h : L < 2 ^ 31) : (nI (L &&& 2 ^ i) = 0) = (L.testBit i = false) := by
  rw [fn_eq0 (Nat.lt_of_le_of_lt Nat.and_le_left h), g_and0]
theorem cFv_of {f : Nat} {G : bs_G} {mu mu' : bs_Mm} (h : cFv f G mu) (e : ∀ k, k ≤ 6 → mu' (f + k) = mu (f + k)) : cFv f G mu' := by
  have e0 : mu' f = mu f := e 0 (by decide)
  obtain ⟨h1, h2, h3, h4, h5, h6, h7, h8, h9, h10⟩ := h
  exact ⟨by rw [e0]; exact h1, by rw [e0]; exact h2, by rw [e0]; exact h3, by rw [e0]; exact h4, h5.of (e 1 (by decide)), h6.of (e 2 (by decide)), h7.of (e 3 (by decide)), h8.of (e 4 (by decide)), h9.of (e 5 (by decide)), h10.of (e 6 (by decide))⟩
theorem g_lv_1 {G : bs_G} {L p i : Nat} (h : L.testBit i = true) : g_lv G L p (i + 1) = g_lv G L p i := by
  show g_lv G L p i + (if L.testBit i = true then 0 else _) = _
  rw [if_pos h, Nat.add_zero]
theorem g_lv_0 {G : bs_G} {L p i : Nat} (h : L.testBit i = false) : g_lv G L p (i + 1) = g_lv G L p i + (g_if (g_fr G i = p) + g_if (g_to G i = p)) := by
  show g_lv G L p i + (if L.testBit i = true then 0 else _) = _
  rw [if_neg (by rw [h]; decide)]
theorem g_lv_le (G : bs_G) (L p n : Nat) : g_lv G L p n ≤ 2 * n := g_sm_le (fun i => by
  have h1 := g_if_le (g_fr G i = p)
  have h2 := g_if_le (g_to G i = p)
  split <;> omega) _
theorem sf_live {x f L : Nat} {mu : bs_Mm} {G : bs_G} (hx : x + 63 ≤ f) (hV : cFv f G mu) (hG : g_ok G) (hL : L < 2 ^ 30) : ∃ mu', FX5_countLive x mu f (nI L) = some mu' ∧ (∀ a, a ≠ x + 28 → mu' a = mu a) ∧ bs_rw mu' (x + 28) 30 (fun p => g_lv G L p (g_nu G)) := by
  have q0 := g_bn hG
  unfold FX5_countLive
  rw [fg_wf_s]
  refine Exists.elim (fg_lp_i (body := FX5_countLive_b10 x f (nI L)) (fun r s => ∃ i, s.1 = nI i ∧ i + r = g_nu G ∧ (∀ a, a ≠ x + 28 → s.2 a = mu a) ∧ bs_rw s.2 (x + 28) 30 (fun p => g_lv G L p i)) (fun t => (∀ a, a ≠ x + 28 → t a = mu a) ∧ bs_rw t (x + 28) 30 (fun p => g_lv G L p (g_nu G))) (fun r s hI => ?_) fg_fu (g_nu G) (nI 0, bs_fi mu (x + 28) 30 (.int (nI 0))) ⟨0, rfl, by omega, fun a ha => by show bs_fi mu (x + 28) 30 (.int (nI 0)) a = mu a; funext j; simp [bs_fi, ha], fun p hp => by show bs_iv (bs_fi mu (x + 28) 30 (.int (nI 0)) (x + 28) p) = nI 0; simp [bs_fi, hp, bs_iv]⟩ (fg_fu_lt (by omega))) (fun t ht => ?_)
  · obtain ⟨iv, mu1⟩ := s
    obtain ⟨i, e, hr, hfr, hrow⟩ := hI
    have e : iv = nI i := e
    subst e
    have hfr : ∀ a, a ≠ x + 28 → mu1 a = mu a := hfr
    have hrow : bs_rw mu1 (x + 28) 30 (fun p => g_lv G L p i) := hrow
    have hV1 : cFv f G mu1 := cFv_of hV (fun k _ => hfr _ (by omega))
    by_cases c : g_nu G ≤ i
    · refine Or.inr ⟨mu1, ?_, hfr, ?_⟩
      · unfold FX5_countLive_b10
        simp (disch := omega) only [fg_gd_t, fg_bd_s, fg_b2_s, fg_wr_s, fg_let_s, fn_add, fn_sub, fn_mul, fn_cl, fn_lt, fn_le, fn_eq, fn_eq0, fn_lt0, fn_0le, fn_0lt, fn_le0, fn_in, fn_shl, fn_shr, fa_and, fa_or, bs_xorI, if_true, if_false, hV1.2.1, if_pos c]
      · have e : i = g_nu G := by omega
        rw [← e]
        exact hrow
    · refine Or.inl ?_
      have b := g_bd hG (i := i) (by omega)
      have r3 := hV1.2.2.2.2.2.2.1 i (by omega)
      have r4 := hV1.2.2.2.2.2.2.2.1 i (by omega)
      cases cb : L.testBit i with
      | true =>
        refine ⟨(nI (i + 1), mu1), r - 1, ?_, by omega, i + 1, rfl, by omega, hfr, fun p hp => by show bs_iv (mu1 (x + 28) p) = nI (g_lv G L p (i + 1)); rw [g_lv_1 cb]; exact hrow p hp⟩
        unfold FX5_countLive_b10
        simp (disch := omega) only [fg_gd_t, fg_bd_s, fg_b2_s, fg_wr_s, fg_let_s, fn_add, fn_sub, fn_mul, fn_cl, fn_lt, fn_le, fn_eq, fn_eq0, fn_lt0, fn_0le, fn_0lt, fn_le0, fn_in, fn_shl, fn_shr, fa_and, fa_or, bs_xorI, if_true, if_false, hV1.2.1, if_neg c, fn_bit0, cb, Bool.true_eq_false]
      | false =>
        have k1 := g_lv_le G L (g_fr G i) i
        have k2 := g_lv_le G L (g_to G i) i
        have row1 := hrow.up (g_fr G i) (g_lv G L (g_fr G i) i + 1)
        have row2 := row1.up (g_to G i) (bs_fn (fun p => g_lv G L p i) (g_fr G i) (g_lv G L (g_fr G i) i + 1) (g_to G i) + 1)
        refine ⟨(nI (i + 1), bs_up (bs_up mu1 (x + 28) (g_fr G i) (.int (nI (g_lv G L (g_fr G i) i + 1)))) (x + 28) (g_to G i) (.int (nI (bs_fn (fun p => g_lv G L p i) (g_fr G i) (g_lv G L (g_fr G i) i + 1) (g_to G i) + 1)))), r - 1, ?_, by omega, i + 1, rfl, by omega, fun a ha => ?_, fun p hp => ?_⟩
        · unfold FX5_countLive_b10
          simp (disch := omega) only [fg_gd_t, fg_bd_s, fg_b2_s, fg_wr_s, fg_let_s, fn_add, fn_sub, fn_mul, fn_cl, fn_lt, fn_le, fn_eq, fn_eq0, fn_lt0, fn_0le, fn_0lt, fn_le0, fn_in, fn_shl, fn_shr, fa_and, fa_or, bs_xorI, if_true, if_false, hV1.2.1, if_neg c, fn_bit0, cb, r3, r4, hrow (g_fr G i) (by omega), row1 (g_to G i) (by omega), bs_up_f]
        · show bs_up (bs_up mu1 _ _ _) _ _ _ a = mu a
          rw [bs_up_f ha, bs_up_f ha]
          exact hfr a ha
        · rw [row2 p hp]
          show nI _ = nI (g_lv G L p (i + 1))
          rw [g_lv_0 cb]
          congr 1
          simp only [bs_fn]
          by_cases h1 : p = g_to G i <;> by_cases h2 : p = g_fr G i
          · subst h1; rw [if_pos rfl, if_pos h2, g_if1 h2.symm, g_if1 rfl, ← h2]
          · subst h1; rw [if_pos rfl, if_neg h2, g_if0 (fun z => h2 z.symm), g_if1 rfl]
          · subst h2; rw [if_neg h1, if_pos rfl, g_if1 rfl, g_if0 (fun z => h1 z.symm)]
          · rw [if_neg h1, if_neg h2, g_if0 (fun z => h2 z.symm), g_if0 (fun z => h1 z.symm)]; rfl
  · obtain ⟨h1, h2⟩ := ht
    rw [h1]; exact ⟨t, rfl, h2⟩
theorem sf_h53 {x f i L : Nat} {mu : bs_Mm} {G : bs_G} (hV : cFv f G mu) (hG : g_ok G) (hi : i < g_nu G) (hL : L < 2 ^ 30) (hrow : bs_rw mu (x + 28) 30 (fun p => g_lv G L p (g_nu G))) : FX5_hangsLoose_j53 x f mu (nI i) (nI L) = some (nI (g_if (g_tw G i = 1 ∧ g_lv G L (g_to G i) (g_nu G) < 3 ∧ L.testBit (i + 1) = true))) := by
  have q0 := g_bn hG
  have b := g_bd hG hi
  have b1 := g_tw_le G i
  have b2 := g_lv_le G L (g_to G i) (g_nu G)
  unfold FX5_hangsLoose_j53 FX5_hangsLoose_j75 FX5_hangsLoose_j76
  simp (disch := omega) only [fg_gd_t, fg_bd_s, fg_b2_s, fg_wr_s, fg_let_s, fn_add, fn_sub, fn_mul, fn_cl, fn_lt, fn_le, fn_eq, fn_eq0, fn_lt0, fn_0le, fn_0lt, fn_le0, fn_in, fn_shl, fn_shr, fa_and, fa_or, bs_xorI, if_true, if_false, sf_twB hV hG (show i < 2 ^ 30 by omega)]
  by_cases c : g_tw G i = 0
  · rw [if_pos c, g_if0 (by omega)]
  · have t := (g_tw_in c).1
    simp (disch := omega) only [fg_gd_t, fg_bd_s, fg_b2_s, fg_wr_s, fg_let_s, fn_add, fn_sub, fn_mul, fn_cl, fn_lt, fn_le, fn_eq, fn_eq0, fn_lt0, fn_0le, fn_0lt, fn_le0, fn_in, fn_shl, fn_shr, fa_and, fa_or, bs_xorI, if_true, if_false, if_neg c, fn_bit0]
    cases d : L.testBit (i + 1) with
    | false => rw [if_pos rfl, g_if0 (by simp)]
    | true =>
      simp (disch := omega) only [fg_gd_t, fg_bd_s, fg_b2_s, fg_wr_s, fg_let_s, fn_add, fn_sub, fn_mul, fn_cl, fn_lt, fn_le, fn_eq, fn_eq0, fn_lt0, fn_0le, fn_0lt, fn_le0, fn_in, fn_shl, fn_shr, fa_and, fa_or, bs_xorI, if_true, if_false, hV.2.2.2.2.2.2.2.1 i hi, hrow (g_to G i) (by omega), Bool.true_eq_false]
      by_cases e : 3 ≤ g_lv G L (g_to G i) (g_nu G)
      · rw [if_neg (by decide), if_pos e, g_if0 (by omega)]
      · rw [if_neg (by decide), if_neg e, g_if1 ⟨t, by omega, trivial⟩]
theorem sf_hangs {x f i L : Nat} {mu : bs_Mm} {G : bs_G} (hV : cFv f G mu) (hG : g_ok G) (hi : i < g_nu G) (hL : L < 2 ^ 30) (hrow : bs_rw mu (x + 28) 30 (fun p => g_lv G L p (g_nu G))) : FX5_hangsLoose x mu f (nI i) (nI L) = some (nI (g_if (g_hl G L i = true))) := by
  have q0 := g_bn hG
  have b := g_bd hG hi
  have b2 := g_lv_le G L (g_fr G i) (g_nu G)
  have e0 : ¬ (0 < i ∧ g_tw G (i - 1) = 1 ∧ g_lv G L (g_fr G i) (g_nu G) < 3 ∧ L.testBit (i - 1) = true) → g_if (g_hl G L i = true) = g_if (g_tw G i = 1 ∧ g_lv G L (g_to G i) (g_nu G) < 3 ∧ L.testBit (i + 1) = true) := by
    intro h
    by_cases k : g_tw G i = 1 ∧ g_lv G L (g_to G i) (g_nu G) < 3 ∧ L.testBit (i + 1) = true
    · rw [g_if1 k, g_if1 (g_hl_c.mpr (Or.inr k))]
    · rw [g_if0 k, g_if0 (fun z => (g_hl_c.mp z).elim h k)]
  unfold FX5_hangsLoose FX5_hangsLoose_j28
  by_cases c0 : i = 0
  · simp (disch := omega) only [fg_gd_t, fg_bd_s, fg_b2_s, fg_wr_s, fg_let_s, fn_add, fn_sub, fn_mul, fn_cl, fn_lt, fn_le, fn_eq, fn_eq0, fn_lt0, fn_0le, fn_0lt, fn_le0, fn_in, fn_shl, fn_shr, fa_and, fa_or, bs_xorI, if_true, if_false, if_pos c0, FX5_hangsLoose_j29]
    rw [sf_h53 hV hG hi hL hrow, e0 (by omega)]
  · have b1 := g_tw_le G (i - 1)
    simp (disch := omega) only [fg_gd_t, fg_bd_s, fg_b2_s, fg_wr_s, fg_let_s, fn_add, fn_sub, fn_mul, fn_cl, fn_lt, fn_le, fn_eq, fn_eq0, fn_lt0, fn_0le, fn_0lt, fn_le0, fn_in, fn_shl, fn_shr, fa_and, fa_or, bs_xorI, if_true, if_false, if_neg c0, sf_twB hV hG (show i - 1 < 2 ^ 30 by omega)]
    by_cases c : g_tw G (i - 1) = 0
    · simp (disch := omega) only [fg_gd_t, fg_bd_s, fg_b2_s, fg_wr_s, fg_let_s, fn_add, fn_sub, fn_mul, fn_cl, fn_lt, fn_le, fn_eq, fn_eq0, fn_lt0, fn_0le, fn_0lt, fn_le0, fn_in, fn_shl, fn_shr, fa_and, fa_or, bs_xorI, if_true, if_false, if_pos c, FX5_hangsLoose_j29]
      rw [sf_h53 hV hG hi hL hrow, e0 (by omega)]
    · have t := (g_tw_in c).1
      simp (disch := omega) only [fg_gd_t, fg_bd_s, fg_b2_s, fg_wr_s, fg_let_s, fn_add, fn_sub, fn_mul, fn_cl, fn_lt, fn_le, fn_eq, fn_eq0, fn_lt0, fn_0le, fn_0lt, fn_le0, fn_in, fn_shl, fn_shr, fa_and, fa_or, bs_xorI, if_true, if_false, if_neg c, fn_bit0]
      cases d : L.testBit (i - 1) with
      | false =>
        simp (disch := omega) only [fg_gd_t, fg_bd_s, fg_b2_s, fg_wr_s, fg_let_s, fn_add, fn_sub, fn_mul, fn_cl, fn_lt, fn_le, fn_eq, fn_eq0, fn_lt0, fn_0le, fn_0lt, fn_le0, fn_in, fn_shl, fn_shr, fa_and, fa_or, bs_xorI, if_true, if_false, FX5_hangsLoose_j29]
        rw [sf_h53 hV hG hi hL hrow, e0 (by simp [d])]
      | true =>
        simp (disch := omega) only [fg_gd_t, fg_bd_s, fg_b2_s, fg_wr_s, fg_let_s, fn_add, fn_sub, fn_mul, fn_cl, fn_lt, fn_le, fn_eq, fn_eq0, fn_lt0, fn_0le, fn_0lt, fn_le0, fn_in, fn_shl, fn_shr, fa_and, fa_or, bs_xorI, if_true, if_false, FX5_hangsLoose_j29, Bool.true_eq_false, hV.2.2.2.2.2.2.1 i hi, hrow (g_fr G i) (by omega)]
        rw [if_neg (by decide)]
        by_cases e : 3 ≤ g_lv G L (g_fr G i) (g_nu G)
        · rw [if_pos e, sf_h53 hV hG hi hL hrow, e0 (by omega)]
        · rw [if_neg e, g_if1 (g_hl_c.mpr (Or.inl ⟨by omega, t, by omega, d⟩))]
theorem g_sm_at {h k : Nat → Nat} {i d : Nat} (hi : h i = k i + d) (hj : ∀ j, j ≠ i → h j = k j) : ∀ n, i < n → g_sm h n = g_sm k n + d := by
  intro n
  induction n with
  | zero => intro h; omega
  | succ n ih =>
    intro hn
    simp only [g_sm]
    by_cases e : i = n
    · subst e
      rw [g_sm_cg (h := h) (k := k) i (fun j hj2 => hj j (by omega)), hi]
      omega
    · rw [ih (by omega), hj n (fun z => e z.symm)]
      omega
theorem g_lv_or {G : bs_G} {L i : Nat} (h : L.testBit i = false) (hi : i < g_nu G) (p : Nat) : g_lv G L p (g_nu G) = g_lv G (L ||| 2 ^ i) p (g_nu G) + (g_if (g_fr G i = p) + g_if (g_to G i = p)) := by
  refine g_sm_at (i := i) ?_ (fun j hj => ?_) _ hi
  · rw [if_neg (by rw [h]; decide), if_pos (by rw [g_tb_or]; simp), Nat.zero_add]
  · rw [g_tb_or]
    have : decide (i = j) = false := decide_eq_false (fun z => hj z.symm)
    rw [this, Bool.or_false]
theorem sf_pass {x f L : Nat} {l2 l4 l5 : Int32} {mu : bs_Mm} {G : bs_G} (hx : x + 63 ≤ f) (hV : cFv f G mu) (hG : g_ok G) (hL : L < 2 ^ g_nu G) (hrow : bs_rw mu (x + 28) 30 (fun p => g_lv G L p (g_nu G))) : ∃ mu', fg_lp (FX5_lostWith_b37_L16 x f l2 l4 l5) fg_fu (nI L, nI 0, mu) = some (nI (g_ps G L (g_nu G)), mu') ∧ (∀ a, a ≠ x + 28 → mu' a = mu a) ∧ bs_rw mu' (x + 28) 30 (fun p => g_lv G (g_ps G L (g_nu G)) p (g_nu G)) := by
  have q0 := g_bn hG
  have q1 : 2 ^ g_nu G ≤ 2 ^ 24 := Nat.pow_le_pow_right (by decide) q0.2.1
  refine Exists.elim (fg_lp_i (body := FX5_lostWith_b37_L16 x f l2 l4 l5) (fun r s => ∃ i, s.1 = nI (g_ps G L i) ∧ s.2.1 = nI i ∧ i + r = g_nu G ∧ (∀ a, a ≠ x + 28 → s.2.2 a = mu a) ∧ bs_rw s.2.2 (x + 28) 30 (fun p => g_lv G (g_ps G L i) p (g_nu G))) (fun t => t.1 = nI (g_ps G L (g_nu G)) ∧ (∀ a, a ≠ x + 28 → t.2 a = mu a) ∧ bs_rw t.2 (x + 28) 30 (fun p => g_lv G (g_ps G L (g_nu G)) p (g_nu G))) (fun r s hI => ?_) fg_fu (g_nu G) (nI L, nI 0, mu) ⟨0, rfl, rfl, by omega, fun a _ => rfl, hrow⟩ (fg_fu_lt (by omega))) (fun t ht => ?_)
  · obtain ⟨lv, iv, mu1⟩ := s
    obtain ⟨i, e1, e2, hr, hfr, hrow⟩ := hI
    have e1 : lv = nI (g_ps G L i) := e1
    have e2 : iv = nI i := e2
    subst e1
    subst e2
    have hfr : ∀ a, a ≠ x + 28 → mu1 a = mu a := hfr
    have hrow : bs_rw mu1 (x + 28) 30 (fun p => g_lv G (g_ps G L i) p (g_nu G)) := hrow
    have hV1 : cFv f G mu1 := cFv_of hV (fun k _ => hfr _ (by omega))
    by_cases c : g_nu G ≤ i
    · have e : i = g_nu G := by omega
      refine Or.inr ⟨(nI (g_ps G L i), mu1), ?_, ?_, hfr, ?_⟩
      · unfold FX5_lostWith_b37_L16
        simp (disch := omega) only [fg_gd_t, fg_bd_s, fg_b2_s, fg_wr_s, fg_let_s, fn_add, fn_sub, fn_mul, fn_cl, fn_lt, fn_le, fn_eq, fn_eq0, fn_lt0, fn_0le, fn_0lt, fn_le0, fn_in, fn_shl, fn_shr, fa_and, fa_or, bs_xorI, if_true, if_false, hV1.2.1, if_pos c]
      · rw [e]
      · rw [e] at hrow; exact hrow
    · refine Or.inl ?_
      have b := g_bd hG (i := i) (by omega)
      have r3 := hV1.2.2.2.2.2.2.1 i (by omega)
      have r4 := hV1.2.2.2.2.2.2.2.1 i (by omega)
      have pl := g_ps_lt hL i (by omega)
      have hg := sf_hangs hV1 hG (show i < g_nu G by omega) (show g_ps G L i < 2 ^ 30 by omega) hrow
      have b0 := g_if_le (g_hl G (g_ps G L i) i = true)
      cases cb : (g_ps G L i).testBit i with
      | true =>
        have e : g_ps G L (i + 1) = g_ps G L i := by rw [g_ps, if_neg (by rw [cb]; simp)]
        refine ⟨(nI (g_ps G L i), nI (i + 1), mu1), r - 1, ?_, by omega, i + 1, by rw [e], rfl, by omega, hfr, by rw [e]; exact hrow⟩
        unfold FX5_lostWith_b37_L16
        simp (disch := omega) only [fg_gd_t, fg_bd_s, fg_b2_s, fg_wr_s, fg_let_s, fn_add, fn_sub, fn_mul, fn_cl, fn_lt, fn_le, fn_eq, fn_eq0, fn_lt0, fn_0le, fn_0lt, fn_le0, fn_in, fn_shl, fn_shr, fa_and, fa_or, bs_xorI, if_true, if_false, hV1.2.1, if_neg c, fn_bit0, cb, Bool.true_eq_false]
      | false =>
        cases ch : g_hl G (g_ps G L i) i with
        | false =>
          have e : g_ps G L (i + 1) = g_ps G L i := by rw [g_ps, if_neg (by rw [ch]; simp)]
          refine ⟨(nI (g_ps G L i), nI (i + 1), mu1), r - 1, ?_, by omega, i + 1, by rw [e], rfl, by omega, hfr, by rw [e]; exact hrow⟩
          unfold FX5_lostWith_b37_L16
          rw [ch, g_if0 (by decide)] at hg
          simp (disch := omega) only [fg_gd_t, fg_bd_s, fg_b2_s, fg_wr_s, fg_let_s, fn_add, fn_sub, fn_mul, fn_cl, fn_lt, fn_le, fn_eq, fn_eq0, fn_lt0, fn_0le, fn_0lt, fn_le0, fn_in, fn_shl, fn_shr, fa_and, fa_or, bs_xorI, if_true, if_false, hV1.2.1, if_neg c, fn_bit0, cb, hg]
        | true =>
          have e : g_ps G L (i + 1) = g_ps G L i ||| 2 ^ i := by rw [g_ps, if_pos ⟨cb, ch⟩]
          rw [ch, g_if1 rfl] at hg
          have lo := fun p => g_lv_or cb (show i < g_nu G by omega) p
          have lo1 := lo (g_fr G i)
          have lo2 := lo (g_to G i)
          rw [g_if1 rfl] at lo1
          rw [g_if1 (p := g_to G i = g_to G i) rfl] at lo2
          have row1 := hrow.up (g_fr G i) (g_lv G (g_ps G L i) (g_fr G i) (g_nu G) - 1)
          have ge : 1 ≤ bs_fn (fun p => g_lv G (g_ps G L i) p (g_nu G)) (g_fr G i) (g_lv G (g_ps G L i) (g_fr G i) (g_nu G) - 1) (g_to G i) := by
            simp only [bs_fn]
            by_cases z : g_to G i = g_fr G i
            · rw [if_pos z]
              rw [g_if1 z] at lo1
              omega
            · rw [if_neg z]
              omega
          have row2 := row1.up (g_to G i) (bs_fn (fun p => g_lv G (g_ps G L i) p (g_nu G)) (g_fr G i) (g_lv G (g_ps G L i) (g_fr G i) (g_nu G) - 1) (g_to G i) - 1)
          refine ⟨(nI (g_ps G L (i + 1)), nI (i + 1), bs_up (bs_up mu1 (x + 28) (g_fr G i) (.int (nI (g_lv G (g_ps G L i) (g_fr G i) (g_nu G) - 1)))) (x + 28) (g_to G i) (.int (nI (bs_fn (fun p => g_lv G (g_ps G L i) p (g_nu G)) (g_fr G i) (g_lv G (g_ps G L i) (g_fr G i) (g_nu G) - 1) (g_to G i) - 1)))), r - 1, ?_, by omega, i + 1, rfl, rfl, by omega, fun a ha => ?_, fun p hp => ?_⟩
          · unfold FX5_lostWith_b37_L16
            rw [e]
            simp (disch := omega) only [fg_gd_t, fg_bd_s, fg_b2_s, fg_wr_s, fg_let_s, fn_add, fn_sub, fn_mul, fn_cl, fn_lt, fn_le, fn_eq, fn_eq0, fn_lt0, fn_0le, fn_0lt, fn_le0, fn_in, fn_shl, fn_shr, fa_and, fa_or, bs_xorI, if_true, if_false, hV1.2.1, if_neg c, fn_bit0, cb, hg, r3, r4, hrow (g_fr G i) (by omega), row1 (g_to G i) (by omega), bs_up_f]
            rfl
          · show bs_up (bs_up mu1 _ _ _) _ _ _ a = mu a
            rw [bs_up_f ha, bs_up_f ha]
            exact hfr a ha
          · rw [row2 p hp, e]
            congr 1
            have l := lo p
            simp only [bs_fn] at ge ⊢
            by_cases h1 : p = g_to G i <;> by_cases h2 : p = g_fr G i
            · rw [if_pos h1, if_pos (by rw [← h1]; exact h2)]
              rw [g_if1 h2.symm, g_if1 h1.symm, h2] at l
              rw [h2]
              omega
            · rw [if_pos h1, if_neg (by rw [← h1]; exact h2)]
              rw [g_if0 (fun z => h2 z.symm), g_if1 h1.symm] at l
              rw [← h1]
              omega
            · rw [if_neg h1, if_pos h2]
              rw [g_if1 h2.symm, g_if0 (fun z => h1 z.symm), h2] at l
              rw [h2]
              omega
            · rw [if_neg h1, if_neg h2]
              rw [g_if0 (fun z => h2 z.symm), g_if0 (fun z => h1 z.symm)] at l
              omega
  · obtain ⟨h1, h2, h3, h4⟩ := ht
    obtain ⟨t1, t2⟩ := t
    have h2 : t1 = _ := h2
    subst h2
    exact ⟨t2, h1, h3, h4⟩
theorem sf_lost_r {x f : Nat} {l2 : Int32} {G : bs_G} (hx : x + 63 ≤ f) (hG : g_ok G) : ∀ (r k L n : Nat) (bef : Int32) (mu : bs_Mm), cFv f G mu → L < 2 ^ g_nu G → bs_rw mu (x + 28) 30 (fun p => g_lv G L p (g_nu G)) → k + r = g_nu G + 1 → bef ≠ nI L → r + 1 < n → ∃ mu', fg_lp (FX5_lostWith_b16 x f l2) n (nI L, bef, nI k, mu) = some (nI (g_li G r L), mu') ∧ ∀ a, a ≠ x + 28 → mu' a = mu a := by
  have q0 := g_bn hG
  have q1 : 2 ^ g_nu G ≤ 2 ^ 24 := Nat.pow_le_pow_right (by decide) q0.2.1
  intro r
  induction r with
  | zero =>
    intro k L n bef mu hV hL hrow hk hb hn
    match n, hn with
    | n + 1, _ =>
      refine ⟨mu, fg_lp_e ?_, fun _ _ => rfl⟩
      unfold FX5_lostWith_b16
      simp (disch := omega) only [fg_gd_t, fg_bd_s, fg_b2_s, fg_wr_s, fg_let_s, fn_add, fn_sub, fn_mul, fn_cl, fn_lt, fn_le, fn_eq, fn_eq0, fn_lt0, fn_0le, fn_0lt, fn_le0, fn_in, fn_shl, fn_shr, fa_and, fa_or, bs_xorI, if_true, if_false, hV.2.1, if_pos (show g_nu G < k by omega)]
      rfl
  | succ r ih =>
    intro k L n bef mu hV hL hrow hk hb hn
    match n, hn with
    | n + 1, hn =>
      obtain ⟨mu1, p1, p2, p3⟩ := sf_pass (l2 := l2) (l4 := nI L) (l5 := nI k) hx hV hG hL hrow
      have pl := g_ps_lt hL _ (Nat.le_refl _)
      have hV1 : cFv f G mu1 := cFv_of hV (fun j _ => p2 _ (by omega))
      have st : FX5_lostWith_b16 x f l2 (nI L, bef, nI k, mu) = some (.inl (nI (g_ps G L (g_nu G)), nI L, nI (k + 1), mu1)) := by
        unfold FX5_lostWith_b16
        simp (disch := omega) only [fg_gd_t, fg_bd_s, fg_b2_s, fg_wr_s, fg_let_s, fn_add, fn_sub, fn_mul, fn_cl, fn_lt, fn_le, fn_eq, fn_eq0, fn_lt0, fn_0le, fn_0lt, fn_le0, fn_in, fn_shl, fn_shr, fa_and, fa_or, bs_xorI, if_true, if_false, hV.2.1, if_neg (show ¬ g_nu G < k by omega), if_neg hb, p1]
      rw [fg_lp_s st, g_li]
      by_cases e : g_ps G L (g_nu G) = L
      · rw [if_pos e, e]
        match n, hn with
        | n + 1, _ =>
          refine ⟨mu1, fg_lp_e ?_, p2⟩
          unfold FX5_lostWith_b16
          simp (disch := omega) only [fg_gd_t, fg_bd_s, fg_b2_s, fg_wr_s, fg_let_s, fn_add, fn_sub, fn_mul, fn_cl, fn_lt, fn_le, fn_eq, fn_eq0, fn_lt0, fn_0le, fn_0lt, fn_le0, fn_in, fn_shl, fn_shr, fa_and, fa_or, bs_xorI, if_true, if_false, hV1.2.1]
          split <;> rfl
      · rw [if_neg e]
        obtain ⟨mu2, m1, m2⟩ := ih (k + 1) _ n (nI L) mu1 hV1 pl p3 (by omega) (fun z => e ((nI_eq (by omega) (by omega)).mp z).symm) (by omega)
        exact ⟨mu2, m1, fun a ha => by rw [m2 a ha, p2 a ha]⟩
theorem fn_not (n : Nat) : nI n ^^^ (-1) = nI (n ^^^ 4294967295) := by rw [show (-1 : Int32) = nI 4294967295 from rfl, bs_xorI]
theorem nI_mod {a b : Nat} (h : nI a = nI b) : a % 2 ^ 32 = b % 2 ^ 32 := by
  have h2 : (BitVec.ofNat 32 a).toNat = (BitVec.ofNat 32 b).toNat := congrArg (fun v : Int32 => v.toBitVec.toNat) h
  rw [BitVec.toNat_ofNat, BitVec.toNat_ofNat] at h2
  exact h2
theorem fn_not_ne {n : Nat} (hn : n < 2 ^ 31) : nI n ^^^ (-1) ≠ nI n := by
  rw [fn_not]
  intro h
  have h2 := nI_mod h
  have h3 : n ^^^ 4294967295 < 2 ^ 32 := Nat.xor_lt_two_pow (by omega) (by decide)
  rw [Nat.mod_eq_of_lt h3, Nat.mod_eq_of_lt (by omega)] at h2
  have h4 : (n ^^^ 4294967295).testBit 0 = n.testBit 0 := congrArg (fun v => Nat.testBit v 0) h2
  rw [Nat.testBit_xor, show (4294967295 : Nat).testBit 0 = true from rfl] at h4
  generalize n.testBit 0 = b at h4
  cases b <;> cases h4
theorem sf_lost {x f F : Nat} {mu : bs_Mm} {G : bs_G} (hx : x + 63 ≤ f) (hV : cFv f G mu) (hG : g_ok G) (hF : F < 2 ^ g_nu G) : ∃ mu', FX5_lostWith x mu f (nI F) = some (nI (g_lc G F), mu') ∧ ∀ a, a ≠ x + 28 → mu' a = mu a := by
  have q0 := g_bn hG
  have q1 : 2 ^ g_nu G ≤ 2 ^ 24 := Nat.pow_le_pow_right (by decide) q0.2.1
  obtain ⟨mu1, p1, p2, p3⟩ := sf_live hx hV hG (show F < 2 ^ 30 by omega)
  have hV1 : cFv f G mu1 := cFv_of hV (fun j _ => p2 _ (by omega))
  obtain ⟨mu2, m1, m2⟩ := sf_lost_r (l2 := nI F) hx hG (g_nu G + 1) 0 F fg_fu (nI F ^^^ (-1)) mu1 hV1 hF p3 (by omega) (fn_not_ne (by omega)) (fg_fu_lt (by omega))
  refine ⟨mu2, ?_, fun a ha => by rw [m2 a ha, p2 a ha]⟩
  unfold FX5_lostWith
  rw [p1, fg_bd_s, m1]
  rfl
