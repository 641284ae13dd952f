/-! STROKES: the calls; GUEST: both sides -/
theorem sf_strN {x fc : Nat} {mu : bs_Mm} (hc : bs_iv (mu x 13) = nI fc) {a : Int32} (ha : a < 0 ∨ nI fc ≤ a) : FX11_strokes x mu a = some (-1, mu) := by
  unfold FX11_strokes
  rw [sf_figN hc ha]
  rfl
theorem sf_strY {x fc j : Nat} {FG : Nat → bs_G} {mu : bs_Mm} (hF : cFG x fc FG mu) (hj : j < fc) : ∃ mu', FX11_strokes x mu (nI j) = some (nI (g_st (FG j)), mu') ∧ ∀ a, a ≠ x + 28 → a ≠ x + 29 → mu' a = mu a := by
  have hf := hF.1
  obtain ⟨mu1, m1, m2⟩ := sf_strokes (show x + 63 ≤ x + 63 + 7 * j by omega) (hF.2.2 j hj).2 (hF.2.2 j hj).1
  refine ⟨mu1, ?_, m2⟩
  unfold FX11_strokes
  rw [sf_figY hF.2.1 hf hj, fg_bd_s, fg_oq_s, fg_isF_y (by omega), fg_gd_t, m1]
  rfl
theorem tf_strN {m fc : Nat} {mu : bs_Mm} (hc : bs_iv (mu m 20) = nI fc) (h : fc ≤ 12) {a : Int32} (ha : a < 0 ∨ nI fc ≤ a) : FX12_strokes m mu a = some (-1) := by
  unfold FX12_strokes
  rw [tf_figN hc h ha]
  rfl
/-- the guests that were held: kept by the class in four rows, by the model in one -/
def cGU (x rn : Nat) (V : Nat → Nat → Int32) (mu : bs_Mm) : Prop := rn ≤ 30 ∧ bs_iv (mu (x + 50) 4) = nI rn ∧ ∀ i, i < rn → ∀ k, k < 4 → bs_iv (mu (x + 52 + k) i) = V i k
def mGU (m rn : Nat) (V : Nat → Nat → Int32) (mu : bs_Mm) : Prop := rn ≤ 30 ∧ bs_iv (mu m 46) = nI rn ∧ ∀ i, i < rn → ∀ k, k < 4 → bs_iv (mu (m + 31) (4 * i + k)) = V i k
theorem sf_guA {x rn i k : Nat} {V : Nat → Nat → Int32} {mu : bs_Mm} (h : cGU x rn V mu) (hi : i < rn) (hk : k < 4) : FX11_guest x mu (nI i) (nI k) = some (V i k) := by
  obtain ⟨h0, h1, h2⟩ := h
  have r0 := h2 i hi 0 (by decide)
  have r1 := h2 i hi 1 (by decide)
  have r2 := h2 i hi 2 (by decide)
  have r3 := h2 i hi 3 (by decide)
  unfold FX11_guest
  have e : k = 0 ∨ k = 1 ∨ k = 2 ∨ k = 3 := by omega
  rcases e with rfl | rfl | rfl | rfl
  · simp (disch := omega) only [fg_gd_t, fg_bd_s, fg_b2_s, fg_wr_s, fg_let_s, fn_add, fn_sub, fn_mul, fn_cl, fn_lt, fn_le, fn_eq, fn_eq0, fn_lt0, fn_0le, fn_0lt, fn_le0, fn_in, fn_shl, fn_shr, fa_and, fa_or, bs_xorI, if_true, if_false, fn_lt0, if_false, h1, fn_lt, if_pos hi, if_true, fn_in, fg_gd_t, fn_cl]
    exact congrArg some r0
  · simp (disch := omega) only [fg_gd_t, fg_bd_s, fg_b2_s, fg_wr_s, fg_let_s, fn_add, fn_sub, fn_mul, fn_cl, fn_lt, fn_le, fn_eq, fn_eq0, fn_lt0, fn_0le, fn_0lt, fn_le0, fn_in, fn_shl, fn_shr, fa_and, fa_or, bs_xorI, if_true, if_false, fn_lt0, if_false, h1, fn_lt, if_pos hi, if_neg (show ¬ nI 1 = nI 0 by decide), if_true, fn_in, fg_gd_t, fn_cl]
    exact congrArg some r1
  · simp (disch := omega) only [fg_gd_t, fg_bd_s, fg_b2_s, fg_wr_s, fg_let_s, fn_add, fn_sub, fn_mul, fn_cl, fn_lt, fn_le, fn_eq, fn_eq0, fn_lt0, fn_0le, fn_0lt, fn_le0, fn_in, fn_shl, fn_shr, fa_and, fa_or, bs_xorI, if_true, if_false, fn_lt0, if_false, h1, fn_lt, if_pos hi, if_neg (show ¬ nI 2 = nI 0 by decide), if_neg (show ¬ nI 2 = nI 1 by decide), if_true, fn_in, fg_gd_t, fn_cl]
    exact congrArg some r2
  · simp (disch := omega) only [fg_gd_t, fg_bd_s, fg_b2_s, fg_wr_s, fg_let_s, fn_add, fn_sub, fn_mul, fn_cl, fn_lt, fn_le, fn_eq, fn_eq0, fn_lt0, fn_0le, fn_0lt, fn_le0, fn_in, fn_shl, fn_shr, fa_and, fa_or, bs_xorI, if_true, if_false, fn_lt0, if_false, h1, fn_lt, if_pos hi, if_neg (show ¬ nI 3 = nI 0 by decide), if_neg (show ¬ nI 3 = nI 1 by decide), if_neg (show ¬ nI 3 = nI 2 by decide), if_true, fn_in, fg_gd_t, fn_cl]
    exact congrArg some r3
theorem tf_guA {m rn i k : Nat} {V : Nat → Nat → Int32} {mu : bs_Mm} (h : mGU m rn V mu) (hi : i < rn) (hk : k < 4) : FX12_guest m mu (nI i) (nI k) = some (V i k, bs_up mu m 0 (.int (nI 0))) := by
  obtain ⟨h0, h1, h2⟩ := h
  have r := h2 i hi k hk
  unfold FX12_guest FX12_guest_j29
  rw [h1, tf_inZ (by omega) hi, fg_bd_s, if_neg (by decide), tf_inY (Nat.zero_le _) (show k ≤ 3 by omega) (by decide), fg_bd_s, if_neg (by decide)]
  simp (disch := omega) only [fg_gd_t, fg_bd_s, fg_b2_s, fg_wr_s, fg_let_s, fn_add, fn_sub, fn_mul, fn_cl, fn_lt, fn_le, fn_eq, fn_eq0, fn_lt0, fn_0le, fn_0lt, fn_le0, fn_in, fn_shl, fn_shr, fa_and, fa_or, bs_xorI, if_true, if_false, bs_up_eq, bs_iv_i, bs_up_f, r]
  rfl
theorem tf_guT {m rn : Nat} {mu : bs_Mm} (h0 : rn ≤ 30) (h1 : bs_iv (mu m 46) = nI rn) {a w : Int32} (h : (a < 0 ∨ nI rn ≤ a) ∨ (FX12_in m mu a (nI 0) (nI rn - nI 1) = some 1 ∧ FX12_in m mu w (nI 0) (nI 3) = some 0)) : FX12_guest m mu a w = some (nI 0, bs_up mu m 0 (.int (nI 1))) := by
  unfold FX12_guest FX12_guest_j28 FX12_guest_j29
  rcases h with h | ⟨h, h2⟩
  · rw [h1, tf_inN (by omega) h, fg_bd_s, if_pos rfl]
    simp (disch := omega) only [fg_gd_t, fg_bd_s, fg_b2_s, fg_wr_s, fg_let_s, fn_add, fn_sub, fn_mul, fn_cl, fn_lt, fn_le, fn_eq, fn_eq0, fn_lt0, fn_0le, fn_0lt, fn_le0, fn_in, fn_shl, fn_shr, fa_and, fa_or, bs_xorI, if_true, if_false, bs_up_eq, bs_iv_i, if_true]
  · rw [h1, h, fg_bd_s, if_neg (by decide), h2, fg_bd_s, if_pos rfl]
    simp (disch := omega) only [fg_gd_t, fg_bd_s, fg_b2_s, fg_wr_s, fg_let_s, fn_add, fn_sub, fn_mul, fn_cl, fn_lt, fn_le, fn_eq, fn_eq0, fn_lt0, fn_0le, fn_0lt, fn_le0, fn_in, fn_shl, fn_shr, fa_and, fa_or, bs_xorI, if_true, if_false, bs_up_eq, bs_iv_i, if_true]
