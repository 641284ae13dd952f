/-! ADDED of the model (own) -/
set_option maxHeartbeats 1000000 in
theorem tf_addAll {m fc g ob op c0 : Nat} {mu : bs_Mm} {G : bs_G} {le bo ra rb so : Nat → Nat} (hG : g_ok G) (hV : mFv m g G mu) (hg : g < fc) (hfc : fc < 12) (h20 : bs_iv (mu m 20) = nI fc) (hob : ob + g_nb G ≤ 6) (hop : op ≤ 30) (hc0 : c0 + g_nu G ≤ 24) (hle : ∀ j, j < g_nu G → le (c0 + j) = g_le G j) (hbo : ∀ j, j < g_nu G → bo (c0 + j) = ob + g_bo G j) (hra : ∀ j, j < g_nu G → ra (c0 + j) = op + g_fr G j) (hrb : ∀ j, j < g_nu G → rb (c0 + j) = op + g_to G j) (hso : ∀ b, b < g_nb G → so (ob + b) = g_so G b) (hB : mB m fc c0 le bo ra rb mu) (hS : ∀ b, b < ob → bs_iv (mu (m + 7) (6 * fc + b)) = nI (so b)) : ∃ mu', FX12_addAll m mu (nI g) (nI ob) (nI op) = some mu' ∧ mB m fc (c0 + g_nu G) le bo ra rb mu' ∧ (∀ b, b < ob + g_nb G → bs_iv (mu' (m + 7) (6 * fc + b)) = nI (so b)) ∧ (∀ a, a ≠ m + 7 → a ≠ m + 8 → (a < m + 10 ∨ m + 13 < a) → mu' a = mu a) ∧ mKp m fc mu mu' := by
  have q0 := g_bn hG
  have L1 : ∃ t, fg_lp (FX12_addAll_b3 m (nI g) (nI ob) (nI op)) fg_fu (nI 0, mu) = some t ∧ (∀ b, b < ob + g_nb G → bs_iv (t (m + 7) (6 * fc + b)) = nI (so b)) ∧ (∀ a, a ≠ m + 7 → t a = mu a) ∧ mKp m fc mu t := by
    refine fg_lp_i (body := FX12_addAll_b3 m (nI g) (nI ob) (nI op)) (fun r s => ∃ b, s.1 = nI b ∧ b + r = g_nb G ∧ (∀ k, k < ob + b → bs_iv (s.2 (m + 7) (6 * fc + k)) = nI (so k)) ∧ (∀ a, a ≠ m + 7 → s.2 a = mu a) ∧ mKp m fc mu s.2) _ (fun r s hJ => ?_) fg_fu (g_nb G) (nI 0, mu) ⟨0, rfl, by omega, hS, fun _ _ => rfl, mKp_rfl m fc mu⟩ (fg_fu_lt (by omega))
    obtain ⟨bv, mu1⟩ := s
    obtain ⟨b, e1, hr, hb, hf, hk⟩ := hJ
    have e1 : bv = nI b := e1
    subst e1
    have hb : ∀ k, k < ob + b → bs_iv (mu1 (m + 7) (6 * fc + k)) = nI (so k) := hb
    have hf : ∀ a, a ≠ m + 7 → mu1 a = mu a := hf
    have hk : mKp m fc mu mu1 := hk
    have V := mFv_kp hV hg hG hk
    have w20 : bs_iv (mu1 m 20) = nI fc := by rw [hf _ (by omega)]; exact h20
    by_cases z : g_nb G ≤ b
    · refine Or.inr ⟨mu1, ?_, fun k hk2 => hb k (by omega), hf, hk⟩
      unfold FX12_addAll_b3
      simp (disch := omega) only [fg_gd_t, fg_bd_s, fg_b2_s, fg_wr_s, fg_let_s, fn_add, fn_sub, fn_mul, fn_cl, fn_lt, fn_le, fn_eq, fn_eq0, fn_lt0, fn_0le, fn_0lt, fn_le0, fn_in, fn_shl, fn_shr, fa_and, fa_or, bs_xorI, if_true, if_false, V.1, if_pos z]
    · have s1 := V.2.2.2.2.1 b (by omega)
      refine Or.inl ⟨(nI (b + 1), bs_up mu1 (m + 7) (6 * fc + ob + b) (.int (nI (g_so G b)))), r - 1, ?_, by omega, b + 1, rfl, by omega, fun k hk2 => ?_, fun a ha => (bs_up_f ha).trans (hf a ha), mKp_up hk (Or.inr ⟨by omega, by omega⟩) (fun h => by omega) (fun _ => by omega) fun h => by omega⟩
      · unfold FX12_addAll_b3
        simp (disch := omega) only [fg_gd_t, fg_bd_s, fg_b2_s, fg_wr_s, fg_let_s, fn_add, fn_sub, fn_mul, fn_cl, fn_lt, fn_le, fn_eq, fn_eq0, fn_lt0, fn_0le, fn_0lt, fn_le0, fn_in, fn_shl, fn_shr, fa_and, fa_or, bs_xorI, if_true, if_false, V.1, if_neg z, w20, s1]
      · show bs_iv (bs_up mu1 (m + 7) (6 * fc + ob + b) (.int (nI (g_so G b))) (m + 7) (6 * fc + k)) = _
        by_cases e : k = ob + b
        · subst e
          rw [← Nat.add_assoc, bs_up_eq, hso b (by omega)]
          rfl
        · rw [bs_up_j (by omega)]
          exact hb k (by omega)
  obtain ⟨m1, b1, b2, b3, b4⟩ := L1
  have u20 : bs_iv (m1 m 20) = nI fc := by rw [b3 _ (by omega)]; exact h20
  have B1 : mB m fc c0 le bo ra rb m1 := mB_of hB (b3 _ (by omega)) (b3 _ (by omega)) (b3 _ (by omega)) (b3 _ (by omega)) (b3 _ (by omega))
  have L2 : ∃ t, fg_lp (FX12_addAll_b52 m (nI g) (nI ob) (nI op)) fg_fu (nI 0, m1) = some t ∧ mB m fc (c0 + g_nu G) le bo ra rb t ∧ (∀ a, a ≠ m + 8 → (a < m + 10 ∨ m + 13 < a) → t a = m1 a) ∧ mKp m fc mu t := by
    refine fg_lp_i (body := FX12_addAll_b52 m (nI g) (nI ob) (nI op)) (fun r s => ∃ j, s.1 = nI j ∧ j + r = g_nu G ∧ mB m fc (c0 + j) le bo ra rb s.2 ∧ (∀ a, a ≠ m + 8 → (a < m + 10 ∨ m + 13 < a) → s.2 a = m1 a) ∧ mKp m fc mu s.2) _ (fun r s hJ => ?_) fg_fu (g_nu G) (nI 0, m1) ⟨0, rfl, by omega, B1, fun _ _ _ => rfl, b4⟩ (fg_fu_lt (by omega))
    obtain ⟨jv, mu1⟩ := s
    obtain ⟨j, e1, hr, hb, hf, hk⟩ := hJ
    have e1 : jv = nI j := e1
    subst e1
    have hb : mB m fc (c0 + j) le bo ra rb mu1 := hb
    have hf : ∀ a, a ≠ m + 8 → (a < m + 10 ∨ m + 13 < a) → mu1 a = m1 a := hf
    have hk : mKp m fc mu mu1 := hk
    have V := mFv_kp hV hg hG hk
    have w20 : bs_iv (mu1 m 20) = nI fc := by rw [hf _ (by omega) (by omega)]; exact u20
    by_cases z : g_nu G ≤ j
    · have e : j = g_nu G := by omega
      subst e
      refine Or.inr ⟨mu1, ?_, hb, hf, hk⟩
      unfold FX12_addAll_b52
      simp (disch := omega) only [fg_gd_t, fg_bd_s, fg_b2_s, fg_wr_s, fg_let_s, fn_add, fn_sub, fn_mul, fn_cl, fn_lt, fn_le, fn_eq, fn_eq0, fn_lt0, fn_0le, fn_0lt, fn_le0, fn_in, fn_shl, fn_shr, fa_and, fa_or, bs_xorI, if_true, if_false, V.2.1, Nat.le_refl]
    · have hj : j < g_nu G := by omega
      obtain ⟨mu2, p1, p2, p3, p4⟩ := tf_putB w20 hfc (show c0 + j < 24 by omega) hb
      rw [hle j hj, hbo j hj, hra j hj, hrb j hj] at p1
      refine Or.inl ⟨(nI (j + 1), mu2), r - 1, ?_, by omega, j + 1, rfl, by omega, p2, fun a a1 a2 => (p3 a a1 a2).trans (hf a a1 a2), mKp_tr hk p4⟩
      unfold FX12_addAll_b52
      simp (disch := omega) only [fg_gd_t, fg_bd_s, fg_b2_s, fg_wr_s, fg_let_s, fn_add, fn_sub, fn_mul, fn_cl, fn_lt, fn_le, fn_eq, fn_eq0, fn_lt0, fn_0le, fn_0lt, fn_le0, fn_in, fn_shl, fn_shr, fa_and, fa_or, bs_xorI, if_true, if_false, V.2.1, if_neg z, V.2.2.2.2.2.1 j hj, V.2.2.2.2.2.2.1 j hj, V.2.2.2.2.2.2.2.1 j hj, V.2.2.2.2.2.2.2.2 j hj, p1]
  obtain ⟨m2, c1, c2, c3, c4⟩ := L2
  refine ⟨m2, ?_, c2, fun b hb => by rw [c3 _ (by omega) (by omega)]; exact b2 b hb, fun a a1 a2 a3 => by rw [c3 a a2 a3, b3 a a1], c4⟩
  unfold FX12_addAll
  rw [b1, fg_bd_s, c1, fg_bd_s]
theorem tf_addN {m fc : Nat} {FG : Nat → bs_G} {mu : bs_Mm} (hF : mFG m fc FG mu) {a b c d : Int32} (h : ¬ ad_may fc FG a b c d) : FX12_add m mu a b c d = some (-1, mu) := by
  have hc := hF.2.1
  have h12 := hF.1
  unfold FX12_add
  rcases fn_any a (show fc < 2 ^ 31 by omega) with ha | ⟨i, hi, ha⟩
  · rw [tf_ptN hc h12 ha, fg_bd_s, if_pos rfl]
  · subst ha
    have FA := hF.2.2 i hi
    have a0 := g_bn FA.1
    rcases fn_any c (show g_np (FG i) < 2 ^ 31 by omega) with hcc | ⟨p, hp, hcc⟩
    · rw [tf_ptB hF hi hcc, fg_bd_s, if_pos rfl]
    · subst hcc
      rw [tf_ptY hF hi hp, fg_bd_s, if_neg (by decide)]
      rcases fn_any b (show fc < 2 ^ 31 by omega) with hb | ⟨j, hj, hb⟩
      · rw [tf_ptN hc h12 hb, fg_bd_s, if_pos rfl]
      · subst hb
        have FB := hF.2.2 j hj
        have b0 := g_bn FB.1
        rcases fn_any d (show g_np (FG j) < 2 ^ 31 by omega) with hdd | ⟨q, hq, hdd⟩
        · rw [tf_ptB hF hj hdd, fg_bd_s, if_pos rfl]
        · subst hdd
          rw [tf_ptY hF hj hq, fg_bd_s, if_neg (by decide), fn_in (show i < 13 by omega) (by decide), fg_gd_t, fn_in (show j < 13 by omega) (by decide), fg_gd_t, fn_cl (show i < 2 ^ 31 by omega), fn_cl (show j < 2 ^ 31 by omega), FA.2.2.1, FB.2.2.1, fn_add, fg_gd_t, fg_gd_t, FA.2.1, FB.2.1, fn_add]
          by_cases w : 24 < g_nu (FG i) + g_nu (FG j)
          · rw [if_pos ((nI_ltI (by decide) (by omega)).mpr w)]
          · rw [if_neg (fun z => w ((nI_ltI (by decide) (by omega)).mp z))]
            by_cases v : 6 < g_nb (FG i) + g_nb (FG j)
            · rw [if_pos ((nI_ltI (by decide) (by omega)).mpr v)]
            · rw [if_neg (fun z => v ((nI_ltI (by decide) (by omega)).mp z)), hc]
              by_cases y : fc < 12
              · exact (h ⟨i, j, p, q, rfl, rfl, rfl, rfl, hi, hj, hp, hq, by omega, by omega, y⟩).elim
              · have e : fc = 12 := by omega
                rw [e, if_pos rfl]
