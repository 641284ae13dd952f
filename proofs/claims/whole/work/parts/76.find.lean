theorem mFv_of2 {m g : Nat} {G : bs_G} {mu mu' : bs_Mm} (h : mFv m g G mu) (e : ∀ c, c ≤ m + 23 → mu' c = mu c) : mFv m g G mu' := by
  obtain ⟨h1, h2, h3, h4, h5, h6, h7, h8, h9⟩ := h
  exact ⟨by rw [e _ (by omega)]; exact h1, by rw [e _ (by omega)]; exact h2, by rw [e _ (by omega)]; exact h3, by rw [e _ (by omega)]; exact h4, by rw [e _ (by omega)]; exact h5, by rw [e _ (by omega)]; exact h6, by rw [e _ (by omega)]; exact h7, by rw [e _ (by omega)]; exact h8, by rw [e _ (by omega)]; exact h9⟩
theorem nI_c {v : Nat} {a : Int32} (h : a = nI v) (hv : v < 2 ^ 31) : a = nI a.toNatClampNeg ∧ a.toNatClampNeg = v := by
  subst h
  rw [fn_cl hv]
  exact ⟨rfl, rfl⟩
/-- the model's tables, up to n -/
def mTB (m n : Nat) (W : Nat → Prop) (mu : bs_Mm) : Prop := (∀ R, R < n → ∃ v, bs_iv (mu (m + 25) R) = nI v ∧ g_fw W 1000000 R v) ∧ ∀ T, T < n → T ≠ 0 → (bs_iv (mu (m + 26) T) = nI 1 ∧ W T) ∨ (bs_iv (mu (m + 26) T) = nI 0 ∧ ¬ W T)
theorem tf_find {m g k ln jn : Nat} {mu : bs_Mm} {G : bs_G} (hV : mFv m g G mu) (hg : g < 13) (hG : g_ok G) (hk : k < 6) (hA : bs_iv (mu (m + 1) k) = nI ln) (hJ : bs_iv (mu (m + 2) k) = nI jn) (ln1 : ln ≤ 200) (jn1 : jn ≤ 9) (hn : g_nu G ≤ 10) : ∃ mu', FX12_findFewest m mu (nI g) (nI k) = some mu' ∧ (∀ a, a ≠ m + 25 → a ≠ m + 26 → mu' a = mu a) ∧ mTB m (2 ^ g_nu G) (g_ow ln jn G) mu' := by
  have q0 := g_bn hG
  have q1 : 2 ^ g_nu G ≤ 2 ^ 10 := Nat.pow_le_pow_right (by decide) hn
  have q2 := Nat.one_le_two_pow (n := g_nu G)
  unfold FX12_findFewest
  rw [tf_all hV hg hG, fg_bd_s, fn_in (by decide) (by decide), fg_gd_t, fg_wr_s, fn_cl (by decide)]
  refine Exists.elim (fg_lp_i (body := FX12_findFewest_b16 m (nI g) (nI k) (nI (2 ^ g_nu G - 1))) (fun r s => ∃ S, s.1 = nI S ∧ S + r = 2 ^ g_nu G ∧ 1 ≤ S ∧ (∀ a, a ≠ m + 25 → a ≠ m + 26 → s.2 a = mu a) ∧ mTB m S (g_ow ln jn G) s.2) (fun mu' => (∀ a, a ≠ m + 25 → a ≠ m + 26 → mu' a = mu a) ∧ mTB m (2 ^ g_nu G) (g_ow ln jn G) mu') (fun r s hI => ?_) fg_fu (2 ^ g_nu G - 1) (nI 1, bs_up mu (m + 25) 0 (.int (nI 0))) ⟨1, rfl, by omega, Nat.le_refl _, fun a h _ => bs_up_f h, fun R hR => ⟨0, ?_, ?_⟩, fun T h1 h2 => by omega⟩ (fg_fu_lt (by omega))) (fun t ht => ?_)
  · obtain ⟨sv, mu1⟩ := s
    obtain ⟨S, e1, hr, h1, f1, f2, f3⟩ := hI
    have e1 : sv = nI S := e1
    subst e1
    have f1 : ∀ a, a ≠ m + 25 → a ≠ m + 26 → mu1 a = mu a := f1
    have f2 : ∀ R, R < S → ∃ v, bs_iv (mu1 (m + 25) R) = nI v ∧ g_fw (g_ow ln jn G) 1000000 R v := f2
    have f3 : ∀ T, T < S → T ≠ 0 → (bs_iv (mu1 (m + 26) T) = nI 1 ∧ g_ow ln jn G T) ∨ (bs_iv (mu1 (m + 26) T) = nI 0 ∧ ¬ g_ow ln jn G T) := f3
    have hV1 : mFv m g G mu1 := mFv_of2 hV (fun k hk => f1 _ (by omega) (by omega))
    by_cases z : 2 ^ g_nu G - 1 < S
    · have e : S = 2 ^ g_nu G := by omega
      refine Or.inr ⟨mu1, ?_, f1, by rw [← e]; exact ⟨f2, f3⟩⟩
      unfold FX12_findFewest_b16
      rw [if_pos ((nI_ltI (by omega) (by omega)).mpr z)]
    · obtain ⟨r1, w1, w2⟩ := tf_ow hV1 hg hG hk (by rw [f1 _ (by omega) (by omega)]; exact hA) (by rw [f1 _ (by omega) (by omega)]; exact hJ) ln1 jn1 (show S < 2 ^ g_nu G by omega) (by omega)
      obtain ⟨b, b1, b2, b3⟩ := g_low (R := S) (by omega) (by omega)
      have rr : r1 = 0 ∨ r1 = 1 := by rcases w2 with h | h <;> omega
      have A1 : ∀ R, R < S → bs_iv (mu1 (m + 25) R) = nI (bs_iv (mu1 (m + 25) R)).toNatClampNeg ∧ g_fw (g_ow ln jn G) 1000000 R (bs_iv (mu1 (m + 25) R)).toNatClampNeg := by
        intro R hR
        obtain ⟨v, v1, v2⟩ := f2 R hR
        have v3 := g_fw_le v2
        have v4 := nI_c v1 (by omega)
        exact ⟨v4.1, by rw [v4.2]; exact v2⟩
      obtain ⟨mu2, i1, i2, i3, l, i4, i5⟩ := tf_inner (m := m) (S := S) (b := b) (W := g_ow ln jn G) (A := fun R => (bs_iv (mu1 (m + 25) R)).toNatClampNeg) (mu := bs_up (bs_up mu1 (m + 26) S (.int (nI r1))) (m + 25) S (.int (nI 1000000))) (by omega) b1 (fun R hR => by
        rw [bs_up_ne _ _ (by rintro ⟨-, q⟩; omega), bs_up_f (by omega)]
        exact (A1 R hR).1) (fun R hR => g_fw_le (A1 R hR).2) (fun T t1 t2 => by
        rw [bs_up_f (by omega)]
        by_cases e : T = S
        · subst e
          rw [bs_up_eq, bs_iv_i]
          rcases w2 with ⟨w2, w3⟩ | ⟨w2, w3⟩
          · exact Or.inl ⟨by rw [w2], w3⟩
          · exact Or.inr ⟨by rw [w2], w3⟩
        · rw [bs_up_ne _ _ (by rintro ⟨-, q⟩; exact e q)]
          exact f3 T (by omega) t2) (by rw [bs_up_eq, bs_iv_i]) (nI g) (nI k) (nI (2 ^ g_nu G - 1))
      refine Or.inl ⟨(nI (S + 1), mu2), r - 1, ?_, by omega, S + 1, rfl, by omega, by omega, fun a a1 a2 => ?_, fun R hR => ?_, fun T t1 t2 => ?_⟩
      · unfold FX12_findFewest_b16
        rw [if_neg (fun h => z ((nI_ltI (by omega) (by omega)).mp h))]
        simp only []
        rw [w1, fg_bd_s, fn_in (show S < 1024 by omega) (by decide), fg_gd_t, fg_dt (by rcases rr with rfl | rfl; exact Or.inl rfl; exact Or.inr rfl), fg_gd_t, fg_wr_s, fg_gd_t, fg_wr_s, fn_cl (show S < 2 ^ 31 by omega), b3]
        have : (1000000 : Int32) = nI 1000000 := rfl
        rw [this, i1, fg_bd_s, fn_add]
      · show mu2 a = mu a
        rw [i2 a a1, bs_up_f a1, bs_up_f a2]
        exact f1 a a1 a2
      · show ∃ v, bs_iv (mu2 (m + 25) R) = nI v ∧ _
        by_cases e : R = S
        · subst e
          exact ⟨l, i4, g_mn_end i5 (show R < 2 ^ g_nu G by omega) (by omega) b1 b2 fun R hR => (A1 R hR).2⟩
        · rw [i3 R e, bs_up_ne _ _ (by rintro ⟨-, q⟩; exact e q), bs_up_f (by omega)]
          exact f2 R (by omega)
      · show (bs_iv (mu2 (m + 26) T) = nI 1 ∧ _) ∨ (bs_iv (mu2 (m + 26) T) = nI 0 ∧ _)
        rw [i2 _ (by omega), bs_up_f (by omega)]
        by_cases e : T = S
        · subst e
          rw [bs_up_eq, bs_iv_i]
          rcases w2 with ⟨w2, w3⟩ | ⟨w2, w3⟩
          · exact Or.inl ⟨by rw [w2], w3⟩
          · exact Or.inr ⟨by rw [w2], w3⟩
        · rw [bs_up_ne _ _ (by rintro ⟨-, q⟩; exact e q)]
          exact f3 T (by omega) t2
  · have : R = 0 := by omega
    subst this
    show bs_iv (bs_up mu (m + 25) 0 (.int (nI 0)) (m + 25) 0) = nI 0
    rw [bs_up_eq, bs_iv_i]
  · have : R = 0 := by omega
    subst this
    exact g_fw_0 _ (by decide)
  · rw [ht.1, fg_bd_s]
    exact ⟨t, rfl, ht.2⟩
