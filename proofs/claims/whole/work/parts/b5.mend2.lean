/-! The model's endFigure (own) -/
def pl_lv (live : Nat → Bool) : Nat → Nat := g_sm (fun q => g_if (live q = true))
theorem pl_lv_le (live : Nat → Bool) (n : Nat) : pl_lv live n ≤ n := g_sm1 (fun _ => g_if_le _) n
/-- what endFigure finds: t points told, live ones, raw ends and where these are found -/
def mE (m fc t : Nat) (T : bs_G) (live : Nat → Bool) (ra rb rF rT : Nat → Nat) (mu : bs_Mm) : Prop := bs_iv (mu m 20) = nI fc ∧ (∀ p, p < t → (live p = true → bs_iv (mu (m + 15) p) = nI p) ∧ (live p = false → bs_iv (mu (m + 15) p) ≠ nI p)) ∧ bs_iv (mu (m + 8) fc) = nI (g_nu T) ∧ bs_iv (mu (m + 6) fc) = nI (g_nb T) ∧ (∀ j, j < g_nb T → bs_iv (mu (m + 7) (6 * fc + j)) = nI (g_so T j)) ∧ (∀ j, j < g_nu T → bs_iv (mu (m + 10) (24 * fc + j)) = nI (g_le T j) ∧ bs_iv (mu (m + 11) (24 * fc + j)) = nI (ra j) ∧ bs_iv (mu (m + 12) (24 * fc + j)) = nI (rb j) ∧ bs_iv (mu (m + 13) (24 * fc + j)) = nI (g_bo T j)) ∧ ∀ mu', mu' (m + 15) = mu (m + 15) → ∀ c, c < g_nu T → FX12_find m mu' (nI (ra c)) = some (nI (rF c)) ∧ FX12_find m mu' (nI (rb c)) = some (nI (rT c))
set_option maxHeartbeats 2000000 in
theorem tf_endF {m fc t : Nat} {mu : bs_Mm} {T : bs_G} {live : Nat → Bool} {ra rb rF rT : Nat → Nat} (hE : mE m fc t T live ra rb rF rT mu) (hfc : fc < 12) (ht : t ≤ 60) (hL : ∀ c, c < g_nu T → rF c < t ∧ live (rF c) = true ∧ rT c < t ∧ live (rT c) = true ∧ g_fr T c = pl_lv live (rF c) ∧ g_to T c = pl_lv live (rT c)) (hnp : g_np T = pl_lv live t) (hT : g_ok T) (hmh : g_mh T = g_hn T (g_nu T)) : ∃ mu', FX12_endFigure m mu (nI t) = some mu' ∧ mFv m fc T mu' ∧ bs_iv (mu' m 20) = nI (fc + 1) ∧ (∀ k, k ≠ 20 → mu' m k = mu m k) ∧ mKp m fc mu mu' := by
  have q0 := g_bn hT
  obtain ⟨h20, hh, h8, h6, h7, hr, hfd⟩ := hE
  have L1 : ∃ s, fg_lp (FX12_endFigure_b4 m (nI t)) fg_fu (nI 0, nI 0, mu) = some s ∧ s.1 = nI (pl_lv live t) ∧ (∀ q, q < t → live q = true → bs_iv (s.2 (m + 17) q) = nI (pl_lv live q)) ∧ ∀ a, a ≠ m + 17 → s.2 a = mu a := by
    refine fg_lp_i (body := FX12_endFigure_b4 m (nI t)) (fun r s => ∃ p, s.1 = nI (pl_lv live p) ∧ s.2.1 = nI p ∧ p + r = t ∧ (∀ q, q < p → live q = true → bs_iv (s.2.2 (m + 17) q) = nI (pl_lv live q)) ∧ ∀ a, a ≠ m + 17 → s.2.2 a = mu a) _ (fun r s hJ => ?_) fg_fu t (nI 0, nI 0, mu) ⟨0, rfl, rfl, by omega, fun q hq => absurd hq (Nat.not_lt_zero q), fun _ _ => rfl⟩ (fg_fu_lt (by omega))
    obtain ⟨nv, pv, mu1⟩ := s
    obtain ⟨p, e1, e2, hr1, hn, hf⟩ := hJ
    have e1 : nv = nI (pl_lv live p) := e1
    have e2 : pv = nI p := e2
    subst e1
    subst e2
    have hn : ∀ q, q < p → live q = true → bs_iv (mu1 (m + 17) q) = nI (pl_lv live q) := hn
    have hf : ∀ a, a ≠ m + 17 → mu1 a = mu a := hf
    by_cases z : t ≤ p
    · have e : p = t := by omega
      subst e
      refine Or.inr ⟨(nI (pl_lv live p), mu1), ?_, rfl, hn, hf⟩
      unfold FX12_endFigure_b4
      simp (disch := omega) only [fg_gd_t, fg_bd_s, fg_b2_s, fg_wr_s, fg_let_s, fn_add, fn_sub, fn_mul, fn_cl, fn_lt, fn_le, fn_eq, fn_eq0, fn_lt0, fn_0le, fn_0lt, fn_le0, fn_in, fn_shl, fn_shr, fa_and, fa_or, bs_xorI, if_true, if_false, if_pos z]
    · have s1 : pl_lv live (p + 1) = pl_lv live p + g_if (live p = true) := rfl
      have k := hh p (by omega)
      have e15 : mu1 (m + 15) = mu (m + 15) := hf _ (by omega)
      have u15 : ∀ v, bs_up mu1 (m + 17) p v (m + 15) = mu (m + 15) := fun v => by rw [bs_up_f (by omega), e15]
      have uf : ∀ v a, a ≠ m + 17 → bs_up mu1 (m + 17) p v a = mu a := fun v a ha => (bs_up_f ha).trans (hf a ha)
      cases d : live p with
      | true =>
        rw [d, g_if1 rfl] at s1
        refine Or.inl ⟨(nI (pl_lv live p + 1), nI (p + 1), bs_up mu1 (m + 17) p (.int (nI (pl_lv live p)))), r - 1, ?_, by omega, p + 1, by rw [s1], rfl, by omega, fun q hq hl => ?_, uf _⟩
        · unfold FX12_endFigure_b4
          simp (disch := omega) only [fg_gd_t, fg_bd_s, fg_b2_s, fg_wr_s, fg_let_s, fn_add, fn_sub, fn_mul, fn_cl, fn_lt, fn_le, fn_eq, fn_eq0, fn_lt0, fn_0le, fn_0lt, fn_le0, fn_in, fn_shl, fn_shr, fa_and, fa_or, bs_xorI, if_true, if_false, if_neg z, e15, k.1 d]
          unfold FX12_endFigure_j29_L4
          simp (disch := omega) only [fg_gd_t, fg_bd_s, fg_b2_s, fg_wr_s, fg_let_s, fn_add, fn_sub, fn_mul, fn_cl, fn_lt, fn_le, fn_eq, fn_eq0, fn_lt0, fn_0le, fn_0lt, fn_le0, fn_in, fn_shl, fn_shr, fa_and, fa_or, bs_xorI, if_true, if_false, u15, k.1 d]
        · show bs_iv (bs_up mu1 (m + 17) p (.int (nI (pl_lv live p))) (m + 17) q) = _
          by_cases e : q = p
          · subst e
            rw [bs_up_eq]
            rfl
          · rw [bs_up_j e]
            exact hn q (by omega) hl
      | false =>
        rw [d, g_if0 (by decide)] at s1
        refine Or.inl ⟨(nI (pl_lv live p + 0), nI (p + 1), bs_up mu1 (m + 17) p (.int (-1))), r - 1, ?_, by omega, p + 1, by rw [s1], rfl, by omega, fun q hq hl => ?_, uf _⟩
        · unfold FX12_endFigure_b4
          simp (disch := omega) only [fg_gd_t, fg_bd_s, fg_b2_s, fg_wr_s, fg_let_s, fn_add, fn_sub, fn_mul, fn_cl, fn_lt, fn_le, fn_eq, fn_eq0, fn_lt0, fn_0le, fn_0lt, fn_le0, fn_in, fn_shl, fn_shr, fa_and, fa_or, bs_xorI, if_true, if_false, if_neg z, e15, if_neg (k.2 d)]
          unfold FX12_endFigure_j29_L4
          simp (disch := omega) only [fg_gd_t, fg_bd_s, fg_b2_s, fg_wr_s, fg_let_s, fn_add, fn_sub, fn_mul, fn_cl, fn_lt, fn_le, fn_eq, fn_eq0, fn_lt0, fn_0le, fn_0lt, fn_le0, fn_in, fn_shl, fn_shr, fa_and, fa_or, bs_xorI, if_true, if_false, u15, if_neg (k.2 d)]
        · show bs_iv (bs_up mu1 (m + 17) p (.int (-1)) (m + 17) q) = _
          by_cases e : q = p
          · subst e
            rw [d] at hl
            cases hl
          · rw [bs_up_j e]
            exact hn q (by omega) hl
  obtain ⟨⟨nv, m1⟩, l1, l2, l3, l4⟩ := L1
  have l2 : nv = nI (pl_lv live t) := l2
  subst l2
  have l3 : ∀ q, q < t → live q = true → bs_iv (m1 (m + 17) q) = nI (pl_lv live q) := l3
  have l4 : ∀ a, a ≠ m + 17 → m1 a = mu a := l4
  unfold FX12_endFigure
  rw [l1, fg_bd_s]
  have g20 : bs_iv (m1 m 20) = nI fc := by rw [l4 _ (by omega)]; exact h20
  have L2 : ∃ s, fg_lp (FX12_endFigure_b62 m (nI t) (nI (pl_lv live t))) fg_fu (nI (24 * fc), m1) = some s ∧ (∀ j, j < g_nu T → bs_iv (s (m + 11) (24 * fc + j)) = nI (g_fr T j) ∧ bs_iv (s (m + 12) (24 * fc + j)) = nI (g_to T j)) ∧ (∀ a, a ≠ m + 11 → a ≠ m + 12 → s a = m1 a) ∧ mKp m fc m1 s := by
    refine fg_lp_i (body := FX12_endFigure_b62 m (nI t) (nI (pl_lv live t))) (fun r s => ∃ c, s.1 = nI (24 * fc + c) ∧ c + r = g_nu T ∧ (∀ j, j < c → bs_iv (s.2 (m + 11) (24 * fc + j)) = nI (g_fr T j) ∧ bs_iv (s.2 (m + 12) (24 * fc + j)) = nI (g_to T j)) ∧ (∀ j, c ≤ j → j < g_nu T → bs_iv (s.2 (m + 11) (24 * fc + j)) = nI (ra j) ∧ bs_iv (s.2 (m + 12) (24 * fc + j)) = nI (rb j)) ∧ (∀ a, a ≠ m + 11 → a ≠ m + 12 → s.2 a = m1 a) ∧ mKp m fc m1 s.2) _ (fun r s hJ => ?_) fg_fu (g_nu T) (nI (24 * fc), m1) ⟨0, rfl, by omega, fun q hq => absurd hq (Nat.not_lt_zero q), fun j _ hj => by
      show bs_iv (m1 (m + 11) (24 * fc + j)) = nI (ra j) ∧ bs_iv (m1 (m + 12) (24 * fc + j)) = nI (rb j)
      rw [l4 _ (by omega), l4 _ (by omega)]
      exact ⟨(hr j hj).2.1, (hr j hj).2.2.1⟩, fun _ _ _ => rfl, mKp_rfl m fc m1⟩ (fg_fu_lt (by omega))
    obtain ⟨cv, mu1⟩ := s
    obtain ⟨c, e1, hr1, hd, hu, hf, hk⟩ := hJ
    have e1 : cv = nI (24 * fc + c) := e1
    subst e1
    have hd : ∀ j, j < c → bs_iv (mu1 (m + 11) (24 * fc + j)) = nI (g_fr T j) ∧ bs_iv (mu1 (m + 12) (24 * fc + j)) = nI (g_to T j) := hd
    have hu : ∀ j, c ≤ j → j < g_nu T → bs_iv (mu1 (m + 11) (24 * fc + j)) = nI (ra j) ∧ bs_iv (mu1 (m + 12) (24 * fc + j)) = nI (rb j) := hu
    have hf : ∀ a, a ≠ m + 11 → a ≠ m + 12 → mu1 a = m1 a := hf
    have hk : mKp m fc m1 mu1 := hk
    have u20 : bs_iv (mu1 m 20) = nI fc := by rw [hf _ (by omega) (by omega)]; exact g20
    have u8 : bs_iv (mu1 (m + 8) fc) = nI (g_nu T) := by rw [hf _ (by omega) (by omega), l4 _ (by omega)]; exact h8
    by_cases z : g_nu T ≤ c
    · refine Or.inr ⟨mu1, ?_, fun j hj => hd j (by omega), hf, hk⟩
      unfold FX12_endFigure_b62
      simp (disch := omega) only [fg_gd_t, fg_bd_s, fg_b2_s, fg_wr_s, fg_let_s, fn_add, fn_sub, fn_mul, fn_cl, fn_lt, fn_le, fn_eq, fn_eq0, fn_lt0, fn_0le, fn_0lt, fn_le0, fn_in, fn_shl, fn_shr, fa_and, fa_or, bs_xorI, if_true, if_false, u20, u8, if_pos (show 24 * fc + g_nu T ≤ 24 * fc + c by omega)]
    · have hc : c < g_nu T := by omega
      have w := hL c hc
      have r1 := hu c (Nat.le_refl _) hc
      have f1 := (hfd mu1 (by rw [hf _ (by omega) (by omega), l4 _ (by omega)]) c hc).1
      have n1 : bs_iv (mu1 (m + 17) (rF c)) = nI (g_fr T c) := by rw [hf _ (by omega) (by omega), w.2.2.2.2.1]; exact l3 _ w.1 w.2.1
      obtain ⟨mA, hA⟩ : ∃ x, x = bs_up mu1 (m + 11) (24 * fc + c) (.int (nI (g_fr T c))) := ⟨_, rfl⟩
      have A : ∀ a, a ≠ m + 11 → mA a = mu1 a := fun a ha => by rw [hA, bs_up_f ha]
      have f2 := (hfd mA (by rw [A _ (by omega), hf _ (by omega) (by omega), l4 _ (by omega)]) c hc).2
      have r2 : bs_iv (mA (m + 12) (24 * fc + c)) = nI (rb c) := by rw [A _ (by omega)]; exact r1.2
      have n2 : bs_iv (mA (m + 17) (rT c)) = nI (g_to T c) := by rw [A _ (by omega), hf _ (by omega) (by omega), w.2.2.2.2.2]; exact l3 _ w.2.2.1 w.2.2.2.1
      refine Or.inl ⟨(nI (24 * fc + c + 1), bs_up mA (m + 12) (24 * fc + c) (.int (nI (g_to T c)))), r - 1, ?_, by omega, c + 1, rfl, by omega, fun j hj => ?_, fun j h1 h2 => ?_, fun a a1 a2 => (bs_up_f a2).trans ((A a a1).trans (hf a a1 a2)), ?_⟩
      · unfold FX12_endFigure_b62
        simp (disch := omega) only [fg_gd_t, fg_bd_s, fg_b2_s, fg_wr_s, fg_let_s, fn_add, fn_sub, fn_mul, fn_cl, fn_lt, fn_le, fn_eq, fn_eq0, fn_lt0, fn_0le, fn_0lt, fn_le0, fn_in, fn_shl, fn_shr, fa_and, fa_or, bs_xorI, if_true, if_false, u20, u8, if_neg (show ¬ 24 * fc + g_nu T ≤ 24 * fc + c by omega), r1.1, f1, n1, ← hA]
        simp (disch := omega) only [fg_gd_t, fg_bd_s, fg_b2_s, fg_wr_s, fg_let_s, fn_add, fn_sub, fn_mul, fn_cl, fn_lt, fn_le, fn_eq, fn_eq0, fn_lt0, fn_0le, fn_0lt, fn_le0, fn_in, fn_shl, fn_shr, fa_and, fa_or, bs_xorI, if_true, if_false, r2, f2, n2]
      · show bs_iv (bs_up mA (m + 12) (24 * fc + c) (.int (nI (g_to T c))) (m + 11) (24 * fc + j)) = _ ∧ bs_iv (bs_up mA (m + 12) (24 * fc + c) (.int (nI (g_to T c))) (m + 12) (24 * fc + j)) = _
        rw [bs_up_f (by omega)]
        by_cases e : j = c
        · subst e
          rw [bs_up_eq, hA, bs_up_eq]
          exact ⟨rfl, rfl⟩
        · rw [bs_up_j (by omega), A (m + 12) (by omega), hA, bs_up_j (by omega)]
          exact hd j (by omega)
      · show bs_iv (bs_up mA (m + 12) (24 * fc + c) (.int (nI (g_to T c))) (m + 11) (24 * fc + j)) = _ ∧ bs_iv (bs_up mA (m + 12) (24 * fc + c) (.int (nI (g_to T c))) (m + 12) (24 * fc + j)) = _
        rw [bs_up_f (by omega), bs_up_j (by omega), A (m + 12) (by omega), hA, bs_up_j (by omega)]
        exact hu j (by omega) h2
      · refine mKp_up ?_ (Or.inr ⟨by omega, by omega⟩) (fun h => by omega) (fun h => by omega) fun _ _ => by omega
        rw [hA]
        exact mKp_up hk (Or.inr ⟨by omega, by omega⟩) (fun h => by omega) (fun h => by omega) fun _ _ => by omega
  obtain ⟨m2, o1, o2, o3, o4⟩ := L2
  rw [g20, fn_mul, o1, fg_bd_s]
  have k20 : bs_iv (m2 m 20) = nI fc := by rw [o3 _ (by omega) (by omega)]; exact g20
  have kp2 : mKp m fc mu m2 := mKp_tr ⟨fun a a1 a2 => l4 a (by omega), fun a k a1 a2 => by rw [l4 a (by omega)], fun k _ => by rw [l4 _ (by omega)], fun a k a1 a2 a3 => by rw [l4 a (by omega)]⟩ o4
  have m2f : ∀ a, a ≠ m + 11 → a ≠ m + 12 → a ≠ m + 17 → m2 a = mu a := fun a a1 a2 a3 => (o3 a a1 a2).trans (l4 a a3)
  obtain ⟨m3, hm3⟩ : ∃ x, x = bs_up m2 (m + 9) fc (.int (nI (pl_lv live t))) := ⟨_, rfl⟩
  have m3f : ∀ a, a ≠ m + 9 → m3 a = m2 a := fun a ha => by rw [hm3, bs_up_f ha]
  obtain ⟨m4, hm4⟩ : ∃ x, x = bs_up m3 (m + 14) fc (.int (nI (g_mh T))) := ⟨_, rfl⟩
  have m4f : ∀ a, a ≠ m + 14 → m4 a = m3 a := fun a ha => by rw [hm4, bs_up_f ha]
  have V4 : mFv m fc T m4 := by
    refine ⟨?_, ?_, ?_, ?_, fun j hj => ?_, fun j hj => ?_, fun j hj => ?_, fun j hj => ?_, fun j hj => ?_⟩
    · rw [m4f _ (by omega), m3f _ (by omega), m2f _ (by omega) (by omega) (by omega)]
      exact h6
    · rw [m4f _ (by omega), m3f _ (by omega), m2f _ (by omega) (by omega) (by omega)]
      exact h8
    · rw [m4f _ (by omega), hm3, bs_up_eq, hnp]
      rfl
    · rw [hm4, bs_up_eq]
      rfl
    · rw [m4f _ (by omega), m3f _ (by omega), m2f _ (by omega) (by omega) (by omega)]
      exact h7 j hj
    · rw [m4f _ (by omega), m3f _ (by omega), m2f _ (by omega) (by omega) (by omega)]
      exact (hr j hj).1
    · rw [m4f _ (by omega), m3f _ (by omega)]
      exact (o2 j hj).1
    · rw [m4f _ (by omega), m3f _ (by omega)]
      exact (o2 j hj).2
    · rw [m4f _ (by omega), m3f _ (by omega), m2f _ (by omega) (by omega) (by omega)]
      exact (hr j hj).2.2.2
  have hd : FX12_handsOf m m3 (nI fc) = some (nI (g_mh T)) := by
    rw [← tf_handsC (mu := m3) (mu2 := m4) (m4f _ (by omega)) (m4f _ (by omega)) (m4f _ (by omega)) (m4f _ (by omega)), tf_hands V4 (by omega) hT, ← hmh]
  have e3 : bs_iv (m3 m 20) = nI fc := by rw [m3f _ (by omega)]; exact k20
  have e4 : bs_iv (m4 m 20) = nI fc := by rw [m4f _ (by omega)]; exact e3
  refine ⟨bs_up m4 m 20 (.int (nI (fc + 1))), ?_, ?_, by rw [bs_up_eq]; rfl, fun k hk => ?_, ?_⟩
  · rw [k20, fn_in (show fc < 13 by omega) (by decide), fg_gd_t, fn_cl (show fc < 2 ^ 31 by omega), fg_wr_s, ← hm3, e3, hd, fg_bd_s, fn_in (show fc < 13 by omega) (by decide), fg_gd_t, fn_cl (show fc < 2 ^ 31 by omega), fg_wr_s, ← hm4, e4, fn_add, fg_wr_s]
  · have n9 : ∀ a v, a ≠ m → bs_up m4 m 20 v a = m4 a := fun a v ha => bs_up_f ha
    unfold mFv
    rw [n9 (m + 6) _ (by omega), n9 (m + 7) _ (by omega), n9 (m + 8) _ (by omega), n9 (m + 9) _ (by omega), n9 (m + 10) _ (by omega), n9 (m + 11) _ (by omega), n9 (m + 12) _ (by omega), n9 (m + 13) _ (by omega), n9 (m + 14) _ (by omega)]
    exact V4
  · rw [bs_up_j hk, m4f _ (by omega), m3f _ (by omega), m2f _ (by omega) (by omega) (by omega)]
  · refine mKp_up ?_ (Or.inl rfl) (fun h => by omega) (fun h => by omega) fun h => by omega
    rw [hm4]
    refine mKp_up ?_ (Or.inr ⟨by omega, by omega⟩) (fun h => by omega) (fun h => by omega) fun h => by omega
    rw [hm3]
    exact mKp_up kp2 (Or.inr ⟨by omega, by omega⟩) (fun h => by omega) (fun h => by omega) fun h => by omega
