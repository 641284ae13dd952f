/-! PLAIN of the model (own), its calls -/
theorem tf_plainN {m fc : Nat} {mu : bs_Mm} (hc : bs_iv (mu m 20) = nI fc) (h : fc ≤ 12) {a : Int32} (ha : a < 0 ∨ nI fc ≤ a) : FX12_plain m mu a = some (-1, mu) := by
  unfold FX12_plain
  rw [tf_figN hc h ha, fg_bd_s, if_pos rfl]
theorem tf_plainB {m j : Nat} {mu : bs_Mm} (hc : bs_iv (mu m 20) = nI 12) (hj : j < 12) : FX12_plain m mu (nI j) = some (-1, mu) := by
  unfold FX12_plain
  rw [tf_figY hc (by omega) hj, fg_bd_s, if_neg (by decide), hc, if_pos rfl]
/-- both rows cleared -/
theorem tf_start {m fc : Nat} {mu : bs_Mm} (h20 : bs_iv (mu m 20) = nI fc) (hfc : fc < 12) : ∃ mu', FX12_startFigure m mu = some mu' ∧ bs_iv (mu' (m + 8) fc) = nI 0 ∧ (∀ a, a ≠ m + 6 → a ≠ m + 8 → mu' a = mu a) ∧ mKp m fc mu mu' := by
  obtain ⟨m1, hm1⟩ : ∃ x, x = bs_up mu (m + 8) fc (.int (nI 0)) := ⟨_, rfl⟩
  have f1 : ∀ a, a ≠ m + 8 → m1 a = mu a := fun a ha => by rw [hm1, bs_up_f ha]
  have u20 : bs_iv (m1 m 20) = nI fc := by rw [f1 _ (by omega)]; exact h20
  refine ⟨bs_up m1 (m + 6) fc (.int (nI 0)), ?_, by rw [bs_up_f (by omega), hm1, bs_up_eq]; rfl, fun a a1 a2 => by rw [bs_up_f a1, f1 a a2], ?_⟩
  · unfold FX12_startFigure
    simp (disch := omega) only [fg_gd_t, fg_bd_s, fg_b2_s, fg_wr_s, fg_let_s, fn_add, fn_sub, fn_mul, fn_cl, fn_lt, fn_le, fn_eq, fn_eq0, fn_lt0, fn_0le, fn_0lt, fn_le0, fn_in, fn_shl, fn_shr, fa_and, fa_or, bs_xorI, if_true, if_false, h20, ← hm1, u20]
  · refine mKp_up ?_ (Or.inr ⟨by omega, by omega⟩) (fun h => by omega) (fun h => by omega) fun h => by omega
    rw [hm1]
    exact mKp_up (mKp_rfl m fc mu) (Or.inr ⟨by omega, by omega⟩) (fun h => by omega) (fun h => by omega) fun h => by omega
set_option maxHeartbeats 1000000 in
theorem tf_plainY {m fc j : Nat} {FG : Nat → bs_G} {mu : bs_Mm} (hF : mFG m fc FG mu) (h12 : fc < 12) (hj : j < fc) (hI : g_iv (FG j)) : ∃ mu', FX12_plain m mu (nI j) = some (nI fc, mu') ∧ mFG m (fc + 1) (g_pu FG fc (pl_T (FG j))) mu' ∧ (∀ k, k ≠ 20 → mu' m k = mu m k) ∧ ∀ a, a ≠ m → (a < m + 6 ∨ m + 17 < a) → mu' a = mu a := by
  obtain ⟨G, hGe⟩ : ∃ G, G = FG j := ⟨_, rfl⟩
  have V0 := (hF.2.2 j hj).2
  rw [← hGe] at hI V0 ⊢
  have hG := hI.1
  have q0 := g_bn hG
  have hc := hF.2.1
  have oT := (pl_iv hI).1
  obtain ⟨m1, a1, a2, a3, a4⟩ := tf_start hc h12
  have V1 := mFv_kp V0 hj hG a4
  have u20 : bs_iv (m1 m 20) = nI fc := by rw [a3 _ (by omega) (by omega)]; exact hc
  -- the sorts
  have L1 : ∃ t, fg_lp (FX12_plain_b25 m (nI j)) fg_fu (nI 0, m1) = some t ∧ (∀ b, b < g_nb G → bs_iv (t (m + 7) (6 * fc + b)) = nI (g_so G b)) ∧ (∀ a, a ≠ m + 7 → t a = m1 a) ∧ mKp m fc mu t := by
    refine fg_lp_i (body := FX12_plain_b25 m (nI j)) (fun r s => ∃ b, s.1 = nI b ∧ b + r = g_nb G ∧ (∀ k, k < b → bs_iv (s.2 (m + 7) (6 * fc + k)) = nI (g_so G k)) ∧ (∀ a, a ≠ m + 7 → s.2 a = m1 a) ∧ mKp m fc mu s.2) _ (fun r s hJ => ?_) fg_fu (g_nb G) (nI 0, m1) ⟨0, rfl, by omega, fun k hk => absurd hk (Nat.not_lt_zero k), fun _ _ => rfl, a4⟩ (fg_fu_lt (by omega))
    obtain ⟨bv, mu1⟩ := s
    obtain ⟨b, e1, hr, hb, hf, hk⟩ := hJ
    have e1 : bv = nI b := e1
    subst e1
    have hb : ∀ k, k < b → bs_iv (mu1 (m + 7) (6 * fc + k)) = nI (g_so G k) := hb
    have hf : ∀ a, a ≠ m + 7 → mu1 a = m1 a := hf
    have hk : mKp m fc mu mu1 := hk
    have V := mFv_kp V0 hj hG hk
    have w20 : bs_iv (mu1 m 20) = nI fc := by rw [hf _ (by omega)]; exact u20
    by_cases z : g_nb G ≤ b
    · refine Or.inr ⟨mu1, ?_, fun k hk2 => hb k (by omega), hf, hk⟩
      unfold FX12_plain_b25
      simp (disch := omega) only [fg_gd_t, fg_bd_s, fg_b2_s, fg_wr_s, fg_let_s, fn_add, fn_sub, fn_mul, fn_cl, fn_lt, fn_le, fn_eq, fn_eq0, fn_lt0, fn_0le, fn_0lt, fn_le0, fn_in, fn_shl, fn_shr, fa_and, fa_or, bs_xorI, if_true, if_false, V.1, if_pos z]
    · have s1 := V.2.2.2.2.1 b (by omega)
      refine Or.inl ⟨(nI (b + 1), bs_up mu1 (m + 7) (6 * fc + b) (.int (nI (g_so G b)))), r - 1, ?_, by omega, b + 1, rfl, by omega, fun k hk2 => ?_, fun a ha => (bs_up_f ha).trans (hf a ha), mKp_up hk (Or.inr ⟨by omega, by omega⟩) (fun h => by omega) (fun _ => by omega) fun h => by omega⟩
      · unfold FX12_plain_b25
        simp (disch := omega) only [fg_gd_t, fg_bd_s, fg_b2_s, fg_wr_s, fg_let_s, fn_add, fn_sub, fn_mul, fn_cl, fn_lt, fn_le, fn_eq, fn_eq0, fn_lt0, fn_0le, fn_0lt, fn_le0, fn_in, fn_shl, fn_shr, fa_and, fa_or, bs_xorI, if_true, if_false, V.1, if_neg z, w20, s1]
      · show bs_iv (bs_up mu1 (m + 7) (6 * fc + b) (.int (nI (g_so G b))) (m + 7) (6 * fc + k)) = _
        by_cases e : k = b
        · subst e
          rw [bs_up_eq]
          rfl
        · rw [bs_up_j (by omega)]
          exact hb k (by omega)
  obtain ⟨m2, b1, b2, b3, b4⟩ := L1
  have V2 := mFv_kp V0 hj hG b4
  have v20 : bs_iv (m2 m 20) = nI fc := by rw [b3 _ (by omega)]; exact u20
  obtain ⟨m3, hm3⟩ : ∃ x, x = bs_up m2 (m + 6) fc (.int (nI (g_nb G))) := ⟨_, rfl⟩
  have f3 : ∀ a, a ≠ m + 6 → m3 a = m2 a := fun a ha => by rw [hm3, bs_up_f ha]
  have k3 : mKp m fc mu m3 := by
    rw [hm3]
    exact mKp_up b4 (Or.inr ⟨by omega, by omega⟩) (fun h => by omega) (fun h => by omega) fun h => by omega
  -- the heads
  have L2 : ∃ t, fg_lp (FX12_plain_b83 m (nI j)) fg_fu (nI 0, m3) = some t ∧ (∀ p, p < g_np G → bs_iv (t (m + 15) p) = nI p) ∧ (∀ a, a ≠ m + 15 → t a = m3 a) ∧ mKp m fc mu t := by
    refine fg_lp_i (body := FX12_plain_b83 m (nI j)) (fun r s => ∃ b, s.1 = nI b ∧ b + r = g_np G ∧ (∀ k, k < b → bs_iv (s.2 (m + 15) k) = nI k) ∧ (∀ a, a ≠ m + 15 → s.2 a = m3 a) ∧ mKp m fc mu s.2) _ (fun r s hJ => ?_) fg_fu (g_np G) (nI 0, m3) ⟨0, rfl, by omega, fun k hk => absurd hk (Nat.not_lt_zero k), fun _ _ => rfl, k3⟩ (fg_fu_lt (by omega))
    obtain ⟨bv, mu1⟩ := s
    obtain ⟨b, e1, hr, hb, hf, hk⟩ := hJ
    have e1 : bv = nI b := e1
    subst e1
    have hb : ∀ k, k < b → bs_iv (mu1 (m + 15) k) = nI k := hb
    have hf : ∀ a, a ≠ m + 15 → mu1 a = m3 a := hf
    have hk : mKp m fc mu mu1 := hk
    have V := mFv_kp V0 hj hG hk
    by_cases z : g_np G ≤ b
    · refine Or.inr ⟨mu1, ?_, fun k hk2 => hb k (by omega), hf, hk⟩
      unfold FX12_plain_b83
      simp (disch := omega) only [fg_gd_t, fg_bd_s, fg_b2_s, fg_wr_s, fg_let_s, fn_add, fn_sub, fn_mul, fn_cl, fn_lt, fn_le, fn_eq, fn_eq0, fn_lt0, fn_0le, fn_0lt, fn_le0, fn_in, fn_shl, fn_shr, fa_and, fa_or, bs_xorI, if_true, if_false, V.2.2.1, if_pos z]
    · refine Or.inl ⟨(nI (b + 1), bs_up mu1 (m + 15) b (.int (nI b))), r - 1, ?_, by omega, b + 1, rfl, by omega, fun k hk2 => ?_, fun a ha => (bs_up_f ha).trans (hf a ha), mKp_up hk (Or.inr ⟨by omega, by omega⟩) (fun h => by omega) (fun h => by omega) fun _ h => by omega⟩
      · unfold FX12_plain_b83
        simp (disch := omega) only [fg_gd_t, fg_bd_s, fg_b2_s, fg_wr_s, fg_let_s, fn_add, fn_sub, fn_mul, fn_cl, fn_lt, fn_le, fn_eq, fn_eq0, fn_lt0, fn_0le, fn_0lt, fn_le0, fn_in, fn_shl, fn_shr, fa_and, fa_or, bs_xorI, if_true, if_false, V.2.2.1, if_neg z]
      · show bs_iv (bs_up mu1 (m + 15) b (.int (nI b)) (m + 15) k) = _
        by_cases e : k = b
        · subst e
          rw [bs_up_eq]
          rfl
        · rw [bs_up_j e]
          exact hb k (by omega)
  obtain ⟨m4, c1, c2, c3, c4⟩ := L2
  have V4 := mFv_kp V0 hj hG c4
  have w20 : bs_iv (m4 m 20) = nI fc := by rw [c3 _ (by omega), f3 _ (by omega)]; exact v20
  have w8 : bs_iv (m4 (m + 8) fc) = nI 0 := by rw [c3 _ (by omega), f3 _ (by omega), b3 _ (by omega)]; exact a2
  obtain ⟨m5, d1, d2, d3, d4, d5⟩ := tf_plLoop w20 h12 hj hI V4 ⟨⟨w8, fun k hk => absurd hk (Nat.not_lt_zero k)⟩, c2, fun _ _ _ _ => rfl, mKp_rfl m fc m4⟩
  have k5 : mKp m fc mu m5 := mKp_tr c4 d5
  have V5 := mFv_kp V0 hj hG k5
  have x20 : bs_iv (m5 m 20) = nI fc := by rw [d4 _ (by omega) (by omega) (by omega)]; exact w20
  have hE : mE m fc (g_np G) (pl_T G) (pl_li G) (pl_ra G) (pl_rb G) (pl_ra G) (pl_rb G) m5 := by
    have lr : ∀ c, c < g_nu (pl_T G) → (pl_ra G c < g_np G ∧ pl_g G (pl_ra G c) = false) ∧ pl_rb G c < g_np G ∧ pl_g G (pl_rb G c) = false := by
      intro c hc
      obtain ⟨i, i1, i2, i3⟩ := pl_ix _ c hc
      subst i3
      have s := (pl_s0 (G := G) i).1
      have z1 := g_bd hG (show pl_s G i < g_nu G by omega)
      have z2 := g_bd hG i1
      have er : pl_ra G (pl_k G i) = g_fr G (pl_s G i) := pl_rv _ i1 i2
      have eb : pl_rb G (pl_k G i) = g_to G i := pl_rv _ i1 i2
      rw [er, eb]
      exact ⟨⟨z1.1, pl_lf hI.2.1 i1⟩, z2.2.1, pl_lt hI.2.1 i1 i2⟩
    have hv : ∀ p, p < g_np G → pl_g G p = false → bs_iv (m5 (m + 15) p) = nI p := fun p hp hl => by
      rw [d3 p hp]
      have hl : pl_e G (g_nu G) p = false := hl
      unfold pl_h
      rw [if_neg (by rw [hl]; decide)]
    refine ⟨x20, fun p hp => ⟨fun hl => hv p hp ?_, fun hl => ?_⟩, d2.1, ?_, fun b hb => ?_, fun c hc => d2.2 c hc, fun mu' e c hc => ?_⟩
    · unfold pl_li at hl
      cases hg : pl_g G p with
      | true => rw [hg] at hl; cases hl
      | false => rfl
    · have hg : pl_g G p = true := by
        unfold pl_li at hl
        cases hg : pl_g G p with
        | true => rfl
        | false => rw [hg] at hl; cases hl
      have hg : pl_e G (g_nu G) p = true := hg
      rw [d3 p hp]
      unfold pl_h
      rw [if_pos hg]
      exact fun h => al_nm (q := p) (by omega) h.symm
    · rw [d4 _ (by omega) (by omega) (by omega), c3 _ (by omega), hm3, bs_up_eq]
      rfl
    · rw [d4 _ (by omega) (by omega) (by omega), c3 _ (by omega), f3 _ (by omega)]
      exact b2 b hb
    · have y := lr c hc
      exact ⟨tf_find1 (by omega) (by rw [e]; exact hv _ y.1.1 y.1.2), tf_find1 (by omega) (by rw [e]; exact hv _ y.2.1 y.2.2)⟩
  obtain ⟨m6, o1, o2, o3, o4, o5⟩ := tf_endF hE h12 (by omega) (fun c hc => by
    obtain ⟨i, i1, i2, i3⟩ := pl_ix _ c hc
    subst i3
    have s := (pl_s0 (G := G) i).1
    have z1 := g_bd hG (show pl_s G i < g_nu G by omega)
    have z2 := g_bd hG i1
    have er : pl_ra G (pl_k G i) = g_fr G (pl_s G i) := pl_rv _ i1 i2
    have eb : pl_rb G (pl_k G i) = g_to G i := pl_rv _ i1 i2
    rw [er, eb, pl_lvn, pl_lvn, pl_Tfr i1 i2, pl_Tto i1 i2]
    unfold pl_li
    rw [pl_lf hI.2.1 i1, pl_lt hI.2.1 i1 i2]
    exact ⟨z1.1, rfl, z2.2.1, rfl, rfl, rfl⟩) (by rw [pl_lvn]; rfl) oT (by
    rw [show g_nu (pl_T G) = pl_k G (g_nu G) from rfl, pl_hn]
    rfl)
  refine ⟨m6, ?_, mFG_pu hF h12 oT o2 o3 (mKp_tr k5 o5), fun k hk => by rw [o4 k hk, d4 _ (by omega) (by omega) (by omega), c3 _ (by omega), f3 _ (by omega), b3 _ (by omega), a3 _ (by omega) (by omega)], fun a h1 h2 => (mKp_tr k5 o5).1 a h1 h2⟩
  unfold FX12_plain
  rw [tf_figY hc (by omega) hj, fg_bd_s, if_neg (by decide), hc, if_neg (fun h => by have := (nI_eq (show fc < 2 ^ 31 by omega) (by decide)).mp h; omega), a1, fg_bd_s, b1, fg_bd_s, fn_in (show j < 13 by omega) (by decide), fg_gd_t, v20, fn_in (show fc < 13 by omega) (by decide), fg_gd_t, fn_cl (show fc < 2 ^ 31 by omega), fn_cl (show j < 2 ^ 31 by omega), V2.1, fg_wr_s, ← hm3, c1, fg_bd_s, d1, fg_bd_s, fg_gd_t, V5.2.2.1, o1, fg_bd_s, o3, fn_sub (by omega), Nat.add_sub_cancel]
