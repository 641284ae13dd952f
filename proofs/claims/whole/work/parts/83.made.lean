/-! MADE: the class finds the fewest -/
theorem sf_tell {x f ln jn : Nat} {G : bs_G} {mu : bs_Mm} (hx : x + 63 ≤ f) (hV : cFv f G mu) (hG : g_ok G) (hnu : g_nu G ≤ 10) (ln1 : ln ≤ 200) (jn1 : jn ≤ 9) : ∃ mu', FX3_tellChoices x mu f (nI ln) (nI jn) = some mu' ∧ (∀ a, a ≠ x + 37 → a ≠ x + 38 → a ≠ x + 39 → a ≠ x + 41 → a ≠ x + 42 → mu' a = mu a) ∧ cTB x (2 ^ g_nu G) ln jn G mu' := by
  have q1 : 2 ^ g_nu G ≤ 2 ^ 10 := Nat.pow_le_pow_right (by decide) hnu
  have q2 := Nat.one_le_two_pow (n := g_nu G)
  unfold FX3_tellChoices
  rw [fn_in (show 0 < 1024 by decide) (by decide), fn_cl (show 0 < 2 ^ 31 by decide)]
  simp only [fg_gd_t, fg_wr_s]
  refine Exists.elim (fg_lp_i (body := FX3_tellChoices_b25 x f (nI ln) (nI jn)) (fun r s => ∃ S, s.1 = nI S ∧ S + r = 2 ^ g_nu G ∧ 1 ≤ S ∧ (∀ a, a ≠ x + 37 → a ≠ x + 38 → a ≠ x + 39 → a ≠ x + 41 → a ≠ x + 42 → s.2 a = mu a) ∧ cTB x S ln jn G s.2) (fun mu' => (∀ a, a ≠ x + 37 → a ≠ x + 38 → a ≠ x + 39 → a ≠ x + 41 → a ≠ x + 42 → mu' a = mu a) ∧ cTB x (2 ^ g_nu G) ln jn G mu') (fun r s hI => ?_) fg_fu (2 ^ g_nu G - 1) (nI 1, bs_up (bs_up (bs_up mu (x + 37) 0 (.int (-(nI jn)))) (x + 38) 0 (.int (nI 0))) (x + 39) 0 (.int (nI 0))) ⟨1, rfl, by omega, Nat.le_refl _, fun a h1 h2 h3 _ _ => ?_, ?_, fun R h1 h2 => by omega, fun R hR => ?_, fun R hR => ?_, fun R h1 h2 => by omega, fun R h1 h2 => by omega⟩ (fg_fu_lt (by omega))) (fun t ht => ?_)
  · obtain ⟨sv, mu1⟩ := s
    obtain ⟨S, e1, hr, h1, f1, f2⟩ := hI
    have e1 : sv = nI S := e1
    subst e1
    have f1 : ∀ a, a ≠ x + 37 → a ≠ x + 38 → a ≠ x + 39 → a ≠ x + 41 → a ≠ x + 42 → mu1 a = mu a := f1
    have f2 : cTB x S ln jn G mu1 := f2
    have hV1 : cFv f G mu1 := cFv_of hV (fun k _ => f1 _ (by omega) (by omega) (by omega) (by omega) (by omega))
    by_cases z : 2 ^ g_nu G - 1 < S
    · have e : S = 2 ^ g_nu G := by omega
      refine Or.inr ⟨mu1, ?_, f1, by rw [← e]; exact f2⟩
      unfold FX3_tellChoices_b25
      simp only []
      rw [sf_allB hV1 hG, fg_bd_s, if_pos ((nI_ltI (by omega) (by omega)).mpr z)]
    · obtain ⟨d, e, w1, w2⟩ := sf_tellB hx hV1 hG hnu ln1 jn1 (show S ≠ 0 by omega) (by omega) f2
      refine Or.inl ⟨_, r - 1, w1, by omega, S + 1, rfl, by omega, by omega, fun a h1 h2 h3 h4 h5 => ?_, w2⟩
      exact (cT5_f h1 h2 h3 h4 h5).trans (f1 a h1 h2 h3 h4 h5)
  · show bs_up _ _ _ _ a = mu a
    rw [bs_up_f h3, bs_up_f h2, bs_up_f h1]
  · show bs_iv (bs_up (bs_up (bs_up mu (x + 37) 0 (.int (-(nI jn)))) (x + 38) 0 (.int (nI 0))) (x + 39) 0 (.int (nI 0)) (x + 37) 0) = _
    rw [bs_up_f (by omega), bs_up_f (by omega), bs_up_eq, bs_iv_i]
  · have : R = 0 := by omega
    subst this
    show bs_iv (bs_up (bs_up (bs_up mu (x + 37) 0 (.int (-(nI jn)))) (x + 38) 0 (.int (nI 0))) (x + 39) 0 (.int (nI 0)) (x + 38) 0) = _
    rw [bs_up_f (by omega), bs_up_eq, bs_iv_i, g_tm_0]
  · have : R = 0 := by omega
    subst this
    show bs_iv (bs_up (bs_up (bs_up mu (x + 37) 0 (.int (-(nI jn)))) (x + 38) 0 (.int (nI 0))) (x + 39) 0 (.int (nI 0)) (x + 39) 0) = _
    rw [bs_up_eq, bs_iv_i, g_om_0]
  · rw [ht.1, fg_bd_s]
    exact ⟨t, rfl, ht.2⟩
theorem sf_cfew {x n : Nat} {W : Nat → Prop} {mu : bs_Mm} (hn : n ≤ 10) (hB : ∀ T, T < 2 ^ n → T ≠ 0 → (bs_iv (mu (x + 42) T) = nI 1 ∧ W T) ∨ (bs_iv (mu (x + 42) T) = nI 0 ∧ ¬ W T)) : ∃ mu', FX3_countFewest x mu (nI (2 ^ n - 1)) = some mu' ∧ (∀ a, a ≠ x + 40 → mu' a = mu a) ∧ ∀ R, R < 2 ^ n → ∃ v, bs_iv (mu' (x + 40) R) = nI v ∧ g_fw W 99 R v := by
  have q1 : 2 ^ n ≤ 2 ^ 10 := Nat.pow_le_pow_right (by decide) hn
  have q2 := Nat.one_le_two_pow (n := n)
  unfold FX3_countFewest
  rw [fn_in (show 0 < 1024 by decide) (by decide), fn_cl (show 0 < 2 ^ 31 by decide)]
  simp only [fg_gd_t, fg_wr_s]
  refine Exists.elim (fg_lp_i (body := FX3_countFewest_b9 x (nI (2 ^ n - 1))) (fun r s => ∃ S, s.1 = nI S ∧ S + r = 2 ^ n ∧ 1 ≤ S ∧ (∀ a, a ≠ x + 40 → s.2 a = mu a) ∧ ∀ R, R < S → ∃ v, bs_iv (s.2 (x + 40) R) = nI v ∧ g_fw W 99 R v) (fun mu' => (∀ a, a ≠ x + 40 → mu' a = mu a) ∧ ∀ R, R < 2 ^ n → ∃ v, bs_iv (mu' (x + 40) R) = nI v ∧ g_fw W 99 R v) (fun r s hI => ?_) fg_fu (2 ^ n - 1) (nI 1, bs_up mu (x + 40) 0 (.int (nI 0))) ⟨1, rfl, by omega, Nat.le_refl _, fun a h1 => bs_up_f h1, fun R hR => ⟨0, ?_, ?_⟩⟩ (fg_fu_lt (by omega))) (fun t ht => ?_)
  · obtain ⟨sv, mu1⟩ := s
    obtain ⟨S, e1, hr, h1, f1, f2⟩ := hI
    have e1 : sv = nI S := e1
    subst e1
    have f1 : ∀ a, a ≠ x + 40 → mu1 a = mu a := f1
    have f2 : ∀ R, R < S → ∃ v, bs_iv (mu1 (x + 40) R) = nI v ∧ g_fw W 99 R v := f2
    by_cases z : 2 ^ n - 1 < S
    · have e : S = 2 ^ n := by omega
      refine Or.inr ⟨mu1, ?_, f1, by rw [← e]; exact f2⟩
      unfold FX3_countFewest_b9
      rw [if_pos ((nI_ltI (by omega) (by omega)).mpr z)]
    · obtain ⟨b, b1, b2, b3⟩ := g_low (R := S) (by omega) (by omega)
      have A1 : ∀ R, R < S → bs_iv (mu1 (x + 40) R) = nI (bs_iv (mu1 (x + 40) R)).toNatClampNeg ∧ g_fw W 99 R (bs_iv (mu1 (x + 40) R)).toNatClampNeg := by
        intro R hR
        obtain ⟨v, v1, v2⟩ := f2 R hR
        have v3 := g_fw_le v2
        have v4 := nI_c v1 (by omega)
        exact ⟨v4.1, by rw [v4.2]; exact v2⟩
      obtain ⟨l, i1, i2⟩ := sf_cinner (x := x) (S := S) (b := b) (W := W) (A := fun R => (bs_iv (mu1 (x + 40) R)).toNatClampNeg) (mu := mu1) (by omega) b1 (fun R hR => (A1 R hR).1) (fun R hR => g_fw_le (A1 R hR).2) (fun T t1 t2 => by
        rw [f1 _ (by omega)]
        exact hB T (by omega) t2) (nI S)
      have fw : g_fw W 99 S l := g_fw_st (n := n) (by omega) (by omega) b1 b2 (fun R hR => (A1 R hR).2) i2.2.1 (fun T t1 t2 t3 => i2.2.2 T t1 t2 t3 trivial)
      refine Or.inl ⟨(nI (S + 1), bs_up mu1 (x + 40) S (.int (nI l))), r - 1, ?_, by omega, S + 1, rfl, by omega, by omega, fun a a1 => (bs_up_f a1).trans (f1 a a1), fun R hR => ?_⟩
      · unfold FX3_countFewest_b9
        rw [if_neg (fun h => z ((nI_ltI (by omega) (by omega)).mp h))]
        simp only []
        have ol : S ^^^ 2 ^ b < S := g_dif_lt (fun j hj => by rw [Nat.testBit_two_pow] at hj; rw [← of_decide_eq_true hj]; exact b1) (b := b) Nat.testBit_two_pow_self
        have pt := pc_ten (S := S ^^^ 2 ^ b) (by omega)
        rw [FX3_fewestOf, b3, bs_xorI, pc_bits mu1 (show S ^^^ 2 ^ b < 2 ^ 32 by omega), fg_bd_s, fn_shl (show pc_n (S ^^^ 2 ^ b) 32 < 31 by omega), i1, fg_bd_s, fg_bd_s, fn_in (show S < 1024 by omega) (by decide), fg_gd_t, fg_wr_s, fn_cl (show S < 2 ^ 31 by omega), fn_add]
      · show ∃ v, bs_iv (bs_up mu1 (x + 40) S (.int (nI l)) (x + 40) R) = nI v ∧ _
        by_cases e : R = S
        · subst e
          exact ⟨l, by rw [bs_up_eq, bs_iv_i], fw⟩
        · rw [bs_up_ne _ _ (by rintro ⟨-, q⟩; exact e q)]
          exact f2 R (by omega)
  · have : R = 0 := by omega
    subst this
    show bs_iv (bs_up mu (x + 40) 0 (.int (nI 0)) (x + 40) 0) = nI 0
    rw [bs_up_eq, bs_iv_i]
  · have : R = 0 := by omega
    subst this
    exact g_fw_0 _ (by decide)
  · rw [ht.1, fg_bd_s]
    exact ⟨t, rfl, ht.2⟩
