/-! AGEING of the model (own): aged, falls; worth of both sides -/
def mUR (m rc : Nat) (UR : Nat → bs_U) (mu : bs_Mm) : Prop := rc ≤ 6 ∧ bs_iv (mu m 31) = nI rc ∧ ∀ k, k < rc → u_K (UR k) ∧ mUv m k (UR k) mu
theorem tf_startA {m g : Nat} {mu : bs_Mm} {G : bs_G} (hg : g < 12) (hG : g_ok G) (hV : mFv m g G mu) : ∃ mu', FX12_startAging m mu (nI g) = some mu' ∧ bs_iv (mu' m 51) = nI (g_cm G 0) ∧ (∀ i, i < g_nu G → bs_iv (mu' (m + 33) i) = nI (g_le G i)) ∧ (∀ k, k ≠ 51 → mu' m k = mu m k) ∧ ∀ a, a ≠ m → a ≠ m + 33 → mu' a = mu a := by
  have q0 := g_bn hG
  obtain ⟨m1, hm1⟩ : ∃ y, y = bs_up mu m 51 (.int (nI (2 ^ g_nu G - 1))) := ⟨_, rfl⟩
  have f1 : ∀ a, a ≠ m → m1 a = mu a := fun a ha => by rw [hm1, bs_up_f ha]
  have V1 := mFv_ofR hV (mu' := m1) fun c c1 c2 => f1 _ (by omega)
  have L1 : ∃ t, fg_lp (FX12_startAging_b11 m (nI g)) fg_fu (nI 0, m1) = some t ∧ (∀ i, i < g_nu G → bs_iv (t (m + 33) i) = nI (g_le G i)) ∧ ∀ a, a ≠ m + 33 → t a = m1 a := by
    refine fg_lp_i (body := FX12_startAging_b11 m (nI g)) (fun r s => ∃ i, s.1 = nI i ∧ i + r = g_nu G ∧ (∀ k, k < i → bs_iv (s.2 (m + 33) k) = nI (g_le G k)) ∧ ∀ a, a ≠ m + 33 → s.2 a = m1 a) _ (fun rr s hJ => ?_) fg_fu (g_nu G) (nI 0, m1) ⟨0, rfl, by omega, fun k hk => absurd hk (Nat.not_lt_zero k), fun _ _ => rfl⟩ (fg_fu_lt (by omega))
    obtain ⟨iv, mu1⟩ := s
    obtain ⟨i, e1, hrr, h1, hf⟩ := hJ
    have e1 : iv = nI i := e1
    subst e1
    have h1 : ∀ k, k < i → bs_iv (mu1 (m + 33) k) = nI (g_le G k) := h1
    have hf : ∀ a, a ≠ m + 33 → mu1 a = m1 a := hf
    have V2 := mFv_ofR V1 (mu' := mu1) fun c c1 c2 => hf _ (by omega)
    by_cases z : g_nu G ≤ i
    · refine Or.inr ⟨mu1, ?_, fun k hk => h1 k (by omega), hf⟩
      unfold FX12_startAging_b11
      simp (disch := omega) only [fg_gd_t, fg_bd_s, fg_b2_s, fg_wr_s, fg_let_s, fn_add, fn_sub, fn_mul, fn_cl, fn_lt, fn_le, fn_eq, fn_eq0, fn_lt0, fn_0le, fn_0lt, fn_le0, fn_in, fn_shl, fn_shr, fa_and, fa_or, bs_xorI, if_true, if_false, V2.2.1, if_pos z]
    · have l1 := V2.2.2.2.2.2.1 i (by omega)
      refine Or.inl ⟨(nI (i + 1), bs_up mu1 (m + 33) i (.int (nI (g_le G i)))), rr - 1, ?_, by omega, i + 1, rfl, by omega, fun k hk => ?_, fun a ha => (bs_up_f ha).trans (hf a ha)⟩
      · unfold FX12_startAging_b11
        simp (disch := omega) only [fg_gd_t, fg_bd_s, fg_b2_s, fg_wr_s, fg_let_s, fn_add, fn_sub, fn_mul, fn_cl, fn_lt, fn_le, fn_eq, fn_eq0, fn_lt0, fn_0le, fn_0lt, fn_le0, fn_in, fn_shl, fn_shr, fa_and, fa_or, bs_xorI, if_true, if_false, V2.2.1, if_neg z, l1]
      · show bs_iv (bs_up mu1 (m + 33) i (.int (nI (g_le G i))) (m + 33) k) = _
        by_cases e : k = i
        · subst e
          rw [bs_up_eq]
          rfl
        · rw [bs_up_j e]
          exact h1 k (by omega)
  obtain ⟨m2, a1, a2, a3⟩ := L1
  refine ⟨m2, ?_, ?_, a2, fun k hk => by rw [a3 _ (by omega), hm1, bs_up_j hk], fun a h1 h2 => by rw [a3 a h2, f1 a h1]⟩
  · unfold FX12_startAging
    rw [tf_all hV (by omega) hG, fg_bd_s, fg_wr_s, ← hm1, a1, fg_bd_s]
  · rw [a3 _ (by omega), hm1, bs_up_eq]
    show nI (2 ^ g_nu G - 1) = nI (g_cm G 0)
    unfold g_cm
    rw [Nat.xor_zero]
/-- behind aged and falls of the model -/
def mg_fr (m : Nat) (mu mu' : bs_Mm) : Prop := (∀ k, k ≠ 51 → mu' m k = mu m k) ∧ ∀ a, a ≠ m → a ≠ m + 22 → a ≠ m + 33 → a ≠ m + 34 → mu' a = mu a
/-- h hours are gone by -/
def mg_K (m : Nat) (G : bs_G) (U : bs_U) (S : bs_So) (h : Nat) (mu : bs_Mm) : Prop := bs_iv (mu m 51) = nI (g_cm G (ag_n G U S h).2) ∧ ∀ i, i < g_nu G → bs_iv (mu (m + 33) i) = nI ((ag_n G U S h).1 i)
theorem tf_age {m g r h : Nat} {mu0 mu : bs_Mm} {G : bs_G} {U : bs_U} {S : bs_So} (hg : g < 12) (hr : r < 6) (hI : g_iv G) (hV : mFv m g G mu0) (hU : mUv m r U mu0) (hk : u_K U) (hS : mSo m S mu0) (hSo : ∀ b, b < g_nb G → g_so G b < S.1) (hS6 : S.1 ≤ 6) (hh : h < 60) (hf : mg_fr m mu0 mu) (hK : mg_K m G U S h mu) : ∃ mu', FX12_age m mu (nI g) (nI r) (nI (h + 1)) = some mu' ∧ mg_K m G U S (h + 1) mu' ∧ mg_fr m mu0 mu' := by
  have S1 : mSo m S mu := by
    unfold mSo bs_rw
    rw [hf.1 5 (by decide), hf.2 (m + 1) (by omega) (by omega) (by omega) (by omega), hf.2 (m + 2) (by omega) (by omega) (by omega) (by omega), hf.2 (m + 3) (by omega) (by omega) (by omega) (by omega)]
    exact hS
  obtain ⟨m2, a1, a2, a3, a4, a5⟩ := tf_hour (mu := mu) hg hr hI (mFv_ofR hV fun c c1 c2 => hf.2 c (by omega) (by omega) (by omega) (by omega)) (mUv_of hU fun c c1 c2 => hf.2 c (by omega) (by omega) (by omega) (by omega)) hk S1 hSo hS6 (show h + 1 ≤ 60 by omega) (ag_n_I hI U S h) hK.1 hK.2
  exact ⟨m2, a1, ⟨a2, a3⟩, fun k hk => (a4 k hk).trans (hf.1 k hk), fun a h1 h2 h3 h4 => (a5 a h1 h2 h3 h4).trans (hf.2 a h1 h2 h3 h4)⟩
theorem tf_agedN {m fc rc : Nat} {FG : Nat → bs_G} {UR : Nat → bs_U} {mu : bs_Mm} (hF : mFG m fc FG mu) (hU : mUR m rc UR mu) {a r h b : Int32} (hn : ¬ ag_may fc rc FG a r h b) : FX12_aged m mu a r h b = some (-1, mu) := by
  have hc := hF.2.1
  have h12 := hF.1
  have h6 := hU.1
  unfold FX12_aged
  rcases fn_any a (show fc < 2 ^ 31 by omega) with ha | ⟨i, hi, ha⟩
  · rw [tf_bubN hc h12 ha, fg_bd_s, if_pos rfl]
  · subst ha
    have FA := hF.2.2 i hi
    have q0 := g_bn FA.1
    rcases fn_any b (show g_nu (FG i) < 2 ^ 31 by omega) with hb | ⟨n, hb1, hb⟩
    · rw [tf_bubB hF hi hb, fg_bd_s, if_pos rfl]
    · subst hb
      rw [tf_bubY hF hi hb1, fg_bd_s, if_neg (by decide), hU.2.1]
      rcases fn_any r (show rc < 2 ^ 31 by omega) with hr | ⟨j, hj, hr⟩
      · rw [tf_inN (by omega) hr, fg_bd_s, if_pos rfl]
      · subst hr
        rw [tf_inZ (by omega) hj, fg_bd_s, if_neg (by decide)]
        rcases fn_any h (show 61 < 2 ^ 31 by decide) with hh | ⟨k, hk, hh⟩
        · have e := tf_inN (m := m) (mu := mu) (n := 61) (by decide) hh
          rw [show nI 61 - nI 1 = nI 60 from by decide] at e
          rw [e, fg_bd_s, if_pos rfl]
        · subst hh
          exact (hn ⟨i, j, k, n, rfl, rfl, rfl, rfl, hi, hj, by omega, hb1⟩).elim
theorem tf_agedY {m fc rc i j k n : Nat} {FG : Nat → bs_G} {UR : Nat → bs_U} {S : bs_So} {mu : bs_Mm} (hF : mFG m fc FG mu) (hU : mUR m rc UR mu) (hS : mSo m S mu) (hS6 : S.1 ≤ 6) (hSo : ∀ b, b < g_nb (FG i) → g_so (FG i) b < S.1) (hI : g_iv (FG i)) (hi : i < fc) (hj : j < rc) (hk : k ≤ 60) (hn : n < g_nu (FG i)) : ∃ mu', FX12_aged m mu (nI i) (nI j) (nI k) (nI n) = some (nI ((ag_n (FG i) (UR j) S k).1 n), mu') ∧ mg_fr m mu mu' := by
  have h12 := hF.1
  have h6 := hU.1
  have FA := hF.2.2 i hi
  have UA := hU.2.2 j hj
  have q0 := g_bn FA.1
  obtain ⟨m1, a1, a2, a3, a4, a5⟩ := tf_startA (show i < 12 by omega) FA.1 FA.2
  have L1 : ∃ t, fg_lp (FX12_aged_b44 m (nI i) (nI j) (nI k) (nI n)) fg_fu (nI 1, m1) = some t ∧ mg_K m (FG i) (UR j) S k t ∧ mg_fr m mu t := by
    refine fg_lp_i (body := FX12_aged_b44 m (nI i) (nI j) (nI k) (nI n)) (fun r s => ∃ h, s.1 = nI (h + 1) ∧ h + r = k ∧ mg_K m (FG i) (UR j) S h s.2 ∧ mg_fr m mu s.2) _ (fun rr s hJ => ?_) fg_fu k (nI 1, m1) ⟨0, rfl, by omega, ⟨a2, a3⟩, a4, fun a h1 _ h3 _ => a5 a h1 h3⟩ (fg_fu_lt (by omega))
    obtain ⟨hv, mu1⟩ := s
    obtain ⟨h, e1, hr, hK, hf⟩ := hJ
    have e1 : hv = nI (h + 1) := e1
    subst e1
    have hK : mg_K m (FG i) (UR j) S h mu1 := hK
    have hf : mg_fr m mu mu1 := hf
    by_cases z : k < h + 1
    · have e : h = k := by omega
      subst e
      refine Or.inr ⟨mu1, ?_, hK, hf⟩
      unfold FX12_aged_b44
      simp (disch := omega) only [fg_gd_t, fg_bd_s, fg_b2_s, fg_wr_s, fg_let_s, fn_add, fn_sub, fn_mul, fn_cl, fn_lt, fn_le, fn_eq, fn_eq0, fn_lt0, fn_0le, fn_0lt, fn_le0, fn_in, fn_shl, fn_shr, fa_and, fa_or, bs_xorI, if_true, if_false, if_pos z]
    · obtain ⟨m2, b1, b2, b3⟩ := tf_age (show i < 12 by omega) (show j < 6 by omega) hI FA.2 UA.2 UA.1 hS hSo hS6 (show h < 60 by omega) hf hK
      refine Or.inl ⟨(nI (h + 1 + 1), m2), rr - 1, ?_, by omega, h + 1, rfl, by omega, b2, b3⟩
      unfold FX12_aged_b44
      simp (disch := omega) only [fg_gd_t, fg_bd_s, fg_b2_s, fg_wr_s, fg_let_s, fn_add, fn_sub, fn_mul, fn_cl, fn_lt, fn_le, fn_eq, fn_eq0, fn_lt0, fn_0le, fn_0lt, fn_le0, fn_in, fn_shl, fn_shr, fa_and, fa_or, bs_xorI, if_true, if_false, if_neg z, b1]
  obtain ⟨m2, c1, c2, c3⟩ := L1
  refine ⟨m2, ?_, c3⟩
  have e := tf_inZ (m := m) (mu := mu) (n := 61) (j := k) (by decide) (by omega)
  rw [show nI 61 - nI 1 = nI 60 from by decide] at e
  unfold FX12_aged
  rw [tf_bubY hF hi hn, fg_bd_s, if_neg (by decide), hU.2.1, tf_inZ (by omega) hj, fg_bd_s, if_neg (by decide), e, fg_bd_s, if_neg (by decide), a1, fg_bd_s, c1, fg_bd_s, fn_in (show n < 24 by omega) (by decide), fg_gd_t, fn_cl (show n < 2 ^ 31 by omega), c2.2 n hn]
theorem tf_fallsN {m fc rc : Nat} {FG : Nat → bs_G} {UR : Nat → bs_U} {mu : bs_Mm} (hF : mFG m fc FG mu) (hU : mUR m rc UR mu) {a r w : Int32} (hn : ¬ fl_may fc rc FG a r w) : FX12_falls m mu a r w = some (-1, mu) := by
  have hc := hF.2.1
  have h12 := hF.1
  have h6 := hU.1
  unfold FX12_falls
  rcases fn_any a (show fc < 2 ^ 31 by omega) with ha | ⟨i, hi, ha⟩
  · rw [tf_figN hc h12 ha, fg_bd_s, if_pos rfl]
  · subst ha
    have FA := hF.2.2 i hi
    have q0 := g_bn FA.1
    rw [tf_figY hc h12 hi, fg_bd_s, if_neg (by decide), hU.2.1]
    rcases fn_any r (show rc < 2 ^ 31 by omega) with hr | ⟨j, hj, hr⟩
    · rw [tf_inN (by omega) hr, fg_bd_s, if_pos rfl]
    · subst hr
      rw [tf_inZ (by omega) hj, fg_bd_s, if_neg (by decide)]
      rcases fn_any w (show 3 < 2 ^ 31 by decide) with hh | ⟨k, hk, hh⟩
      · have e := tf_inN (m := m) (mu := mu) (n := 3) (by decide) hh
        rw [show nI 3 - nI 1 = nI 2 from by decide] at e
        rw [e, fg_bd_s, if_pos rfl]
      · subst hh
        have e := tf_inZ (m := m) (mu := mu) (n := 3) (j := k) (by decide) hk
        rw [show nI 3 - nI 1 = nI 2 from by decide] at e
        rw [e, fg_bd_s, if_neg (by decide), fn_in (show i < 13 by omega) (by decide), fg_gd_t, fn_cl (show i < 2 ^ 31 by omega), FA.2.2.1]
        by_cases c : g_nu (FG i) = 0
        · rw [if_pos (by rw [c]; rfl)]
        · exact (hn ⟨i, j, k, rfl, rfl, rfl, hi, hj, hk, by omega⟩).elim
theorem g_cm_all {G : bs_G} {L : Nat} (h : L < 2 ^ g_nu G) : (g_cm G L = 2 ^ g_nu G - 1 ↔ L = 0) ∧ (g_cm G L = 0 ↔ L = 2 ^ g_nu G - 1) := by
  have inv : g_cm G (g_cm G L) = L := by
    unfold g_cm
    rw [← Nat.xor_assoc, Nat.xor_self, Nat.zero_xor]
  have z0 : g_cm G 0 = 2 ^ g_nu G - 1 := by
    unfold g_cm
    rw [Nat.xor_zero]
  have z1 : g_cm G (2 ^ g_nu G - 1) = 0 := by
    unfold g_cm
    rw [Nat.xor_self]
  refine ⟨⟨fun e => ?_, fun e => by rw [e, z0]⟩, fun e => ?_, fun e => by rw [e, z1]⟩
  · rw [e, z1] at inv
    exact inv.symm
  · rw [e, z0] at inv
    exact inv.symm
set_option maxHeartbeats 1000000 in
theorem tf_fallsY {m fc rc i j w : Nat} {FG : Nat → bs_G} {UR : Nat → bs_U} {S : bs_So} {mu : bs_Mm} (hF : mFG m fc FG mu) (hU : mUR m rc UR mu) (hS : mSo m S mu) (hS6 : S.1 ≤ 6) (hSo : ∀ b, b < g_nb (FG i) → g_so (FG i) b < S.1) (hI : g_iv (FG i)) (hi : i < fc) (hj : j < rc) (hw : w < 3) (hn : 0 < g_nu (FG i)) : ∃ mu', FX12_falls m mu (nI i) (nI j) (nI w) = some (fl_f (FG i) (UR j) S w 60 1, mu') ∧ mg_fr m mu mu' := by
  have hc := hF.2.1
  have h12 := hF.1
  have h6 := hU.1
  have FA := hF.2.2 i hi
  have UA := hU.2.2 j hj
  have q0 := g_bn FA.1
  have p24 : 2 ^ g_nu (FG i) ≤ 2 ^ 24 := Nat.pow_le_pow_right (by decide) (by omega)
  obtain ⟨m1, a1, a2, a3, a4, a5⟩ := tf_startA (show i < 12 by omega) FA.1 FA.2
  have lo := fun h => (ag_n_I hI (UR j) S h).1
  have key : ∃ t, fg_lp (FX12_falls_b50 m (nI i) (nI j) (nI w)) fg_fu (nI 1, m1) = some t ∧ ∃ mu', ((t = .inl mu' ∧ fl_f (FG i) (UR j) S w 60 1 = -1) ∨ t = .inr (fl_f (FG i) (UR j) S w 60 1, mu')) ∧ mg_fr m mu mu' := by
    refine fg_lp_i (body := FX12_falls_b50 m (nI i) (nI j) (nI w)) (fun r s => ∃ h, s.1 = nI (h + 1) ∧ h + 1 + r = 61 ∧ fl_f (FG i) (UR j) S w 60 1 = fl_f (FG i) (UR j) S w r (h + 1) ∧ mg_K m (FG i) (UR j) S h s.2 ∧ mg_fr m mu s.2) _ (fun r s hJ => ?_) fg_fu 60 (nI 1, m1) ⟨0, rfl, rfl, rfl, ⟨a2, a3⟩, a4, fun a h1 _ h3 _ => a5 a h1 h3⟩ (fg_fu_lt (by omega))
    obtain ⟨hv, mu1⟩ := s
    obtain ⟨h, e1, hr, he, hK, hf⟩ := hJ
    have e1 : hv = nI (h + 1) := e1
    subst e1
    have hK : mg_K m (FG i) (UR j) S h mu1 := hK
    have hf : mg_fr m mu mu1 := hf
    by_cases z : 60 < h + 1
    · have e : r = 0 := by omega
      subst e
      refine Or.inr ⟨.inl mu1, ?_, mu1, Or.inl ⟨rfl, he⟩, hf⟩
      unfold FX12_falls_b50
      simp (disch := omega) only [fg_gd_t, fg_bd_s, fg_b2_s, fg_wr_s, fg_let_s, fn_add, fn_sub, fn_mul, fn_cl, fn_lt, fn_le, fn_eq, fn_eq0, fn_lt0, fn_0le, fn_0lt, fn_le0, fn_in, fn_shl, fn_shr, fa_and, fa_or, bs_xorI, if_true, if_false, if_pos z]
    · obtain ⟨m2, b1, b2, b3⟩ := tf_age (show i < 12 by omega) (show j < 6 by omega) hI FA.2 UA.2 UA.1 hS hSo hS6 (show h < 60 by omega) hf hK
      have V2 := mFv_ofR FA.2 (mu' := m2) fun c c1 c2 => b3.2 _ (by omega) (by omega) (by omega) (by omega)
      obtain ⟨r, hr2⟩ : ∃ r2, r = r2 + 1 := ⟨r - 1, by omega⟩
      subst hr2
      have fe : fl_f (FG i) (UR j) S w (r + 1) (h + 1) = if fl_b (FG i) w (ag_n (FG i) (UR j) S (h + 1)).2 = true then nI (h + 1) else fl_f (FG i) (UR j) S w r (h + 1 + 1) := rfl
      rw [fe] at he
      have lh := lo (h + 1)
      have cl := (g_cm_co lh).1
      have body : FX12_falls_b50 m (nI i) (nI j) (nI w) (nI (h + 1), mu1) = if fl_b (FG i) w (ag_n (FG i) (UR j) S (h + 1)).2 = true then some (.inr (.inr (nI (h + 1), m2))) else some (.inl (nI (h + 1 + 1), m2)) := by
        have hw : w = 0 ∨ w = 1 ∨ w = 2 := by omega
        unfold FX12_falls_b50
        rw [if_neg (fun w => z ((nI_ltI (by decide) (by omega)).mp w)), b1, fg_bd_s]
        rcases hw with e | e | e
        · subst e
          have eb : fl_b (FG i) 0 (ag_n (FG i) (UR j) S (h + 1)).2 = decide ((ag_n (FG i) (UR j) S (h + 1)).2 ≠ 0) := by rw [fl_b, if_pos rfl]
          rw [eb, if_pos nI_0, tf_all V2 (by omega) FA.1, fg_bd_s, b2.1]
          by_cases c : (ag_n (FG i) (UR j) S (h + 1)).2 = 0
          · rw [if_pos (by rw [(g_cm_all lh).1.mpr c]), decide_eq_false (fun k => k c), if_neg (by decide), fn_add]
          · rw [if_neg (fun k => c ((g_cm_all lh).1.mp ((nI_eq (by omega) (by omega)).mp k))), decide_eq_true c, if_pos rfl]
        · subst e
          have eb : fl_b (FG i) 1 (ag_n (FG i) (UR j) S (h + 1)).2 = decide (2 ≤ g_pa (FG i) (g_cm (FG i) (ag_n (FG i) (UR j) S (h + 1)).2) (ag_n (FG i) (UR j) S (h + 1)).2) := by rw [fl_b, if_neg (by decide), if_pos rfl]
          have pl := g_pa_le FA.1 (g_cm (FG i) (ag_n (FG i) (UR j) S (h + 1)).2) (ag_n (FG i) (UR j) S (h + 1)).2
          rw [eb, if_neg (by decide), if_pos rfl, b2.1, tf_parts V2 (by omega) FA.1 (g_cm_co lh), fg_bd_s]
          by_cases c : g_pa (FG i) (g_cm (FG i) (ag_n (FG i) (UR j) S (h + 1)).2) (ag_n (FG i) (UR j) S (h + 1)).2 ≤ 1
          · rw [if_pos ((nI_leI (by omega) (by decide)).mpr c), decide_eq_false (by omega), if_neg (by decide), fn_add]
          · rw [if_neg (fun k => c ((nI_leI (by omega) (by decide)).mp k)), decide_eq_true (by omega), if_pos rfl]
        · subst e
          have eb : fl_b (FG i) 2 (ag_n (FG i) (UR j) S (h + 1)).2 = decide ((ag_n (FG i) (UR j) S (h + 1)).2 = 2 ^ g_nu (FG i) - 1) := by rw [fl_b, if_neg (by decide), if_neg (by decide)]
          rw [eb, if_neg (by decide), if_neg (by decide), b2.1]
          by_cases c : (ag_n (FG i) (UR j) S (h + 1)).2 = 2 ^ g_nu (FG i) - 1
          · rw [if_pos (by rw [(g_cm_all lh).2.mpr c]; rfl), decide_eq_true c, if_pos rfl]
          · rw [if_neg (fun k => c ((g_cm_all lh).2.mp (by rw [fn_eq0 (by omega)] at k; exact k))), decide_eq_false c, if_neg (by decide), fn_add]
      cases c : fl_b (FG i) w (ag_n (FG i) (UR j) S (h + 1)).2 with
      | true =>
        rw [c, if_pos rfl] at he body
        exact Or.inr ⟨.inr (nI (h + 1), m2), body, m2, Or.inr (by rw [he]), b3⟩
      | false =>
        rw [c, if_neg (by decide)] at he body
        exact Or.inl ⟨(nI (h + 1 + 1), m2), r, body, by omega, h + 1, rfl, by omega, he, b2, b3⟩
  obtain ⟨t, t1, m2, t2, hf⟩ := key
  refine ⟨m2, ?_, hf⟩
  have e := tf_inZ (m := m) (mu := mu) (n := 3) (j := w) (by decide) hw
  rw [show nI 3 - nI 1 = nI 2 from by decide] at e
  unfold FX12_falls
  rw [tf_figY hc h12 hi, fg_bd_s, if_neg (by decide), hU.2.1, tf_inZ (by omega) hj, fg_bd_s, if_neg (by decide), e, fg_bd_s, if_neg (by decide), fn_in (show i < 13 by omega) (by decide), fg_gd_t, fn_cl (show i < 2 ^ 31 by omega), FA.2.2.1, if_neg (fun h => by rw [fn_eq0 (by omega)] at h; omega), a1, fg_bd_s, t1]
  rcases t2 with ⟨t2, t3⟩ | t2
  · rw [t2, fg_l3_l, t3]
  · rw [t2, fg_l3_r]
/-- worth -/
theorem sf_worthY {x rc j : Nat} {UR : Nat → bs_U} {mu : bs_Mm} (hU : cUR x rc UR mu) (hj : j < rc) (a0 a1 a2 a3 a4 : Int32) : ∃ mu', FX11_worth x mu (nI j) a0 a1 a2 a3 a4 = some (u_v (u_e a0 a1 a2 a3 a4) (UR j), mu') ∧ ∀ a, a ≠ x + 61 → a ≠ x + 23 → mu' a = mu a := by
  have h6 := hU.1
  have UA := hU.2.2 j hj
  obtain ⟨m1, hm1⟩ : ∃ y, y = bs_up (bs_up (bs_up (bs_up (bs_up mu (x + 61) 0 (.int a0)) (x + 61) 1 (.int a1)) (x + 61) 2 (.int a2)) (x + 61) 3 (.int a3)) (x + 61) 4 (.int a4) := ⟨_, rfl⟩
  have f1 : ∀ a, a ≠ x + 61 → m1 a = mu a := fun a ha => by rw [hm1, bs_up_f ha, bs_up_f ha, bs_up_f ha, bs_up_f ha, bs_up_f ha]
  have rows : ∀ k, k < 5 → bs_iv (m1 (x + 61) k) = u_e a0 a1 a2 a3 a4 k := fun k hk => by
    have hk : k = 0 ∨ k = 1 ∨ k = 2 ∨ k = 3 ∨ k = 4 := by omega
    rw [hm1]
    rcases hk with e | e | e | e | e
    · subst e
      rw [bs_up_j (by decide), bs_up_j (by decide), bs_up_j (by decide), bs_up_j (by decide), bs_up_eq]
      rfl
    · subst e
      rw [bs_up_j (by decide), bs_up_j (by decide), bs_up_j (by decide), bs_up_eq]
      rfl
    · subst e
      rw [bs_up_j (by decide), bs_up_j (by decide), bs_up_eq]
      rfl
    · subst e
      rw [bs_up_j (by decide), bs_up_eq]
      rfl
    · subst e
      rw [bs_up_eq]
      rfl
  obtain ⟨m2, w1, w2⟩ := sf_worthBy (x := x) (u := x + 147 + 2 * j) (p1 := x + 61) (p2 := x + 23) (by omega) (by omega) (by omega) (cUv_of UA.2 (f1 _ (by omega)) (f1 _ (by omega))) UA.1 rows
  refine ⟨m2, ?_, fun a h1 h2 => by rw [w2 a h2, f1 a h1]⟩
  unfold FX11_worth
  rw [sf_rulY hU hj, fg_bd_s, fg_oq_s, fg_isU_y (by omega), fg_gd_t]
  simp (disch := omega) only [fg_gd_t, fg_bd_s, fg_b2_s, fg_wr_s, fg_let_s, fn_add, fn_sub, fn_mul, fn_cl, fn_lt, fn_le, fn_eq, fn_eq0, fn_lt0, fn_0le, fn_0lt, fn_le0, fn_in, fn_shl, fn_shr, fa_and, fa_or, bs_xorI, if_true, if_false, ← hm1, w1]
theorem tf_worthN {m rc : Nat} {UR : Nat → bs_U} {mu : bs_Mm} (hU : mUR m rc UR mu) {r : Int32} (hr : r < 0 ∨ nI rc ≤ r) (a0 a1 a2 a3 a4 : Int32) : FX12_worth m mu r a0 a1 a2 a3 a4 = some (nI 0, bs_up mu m 0 (.int (nI 1))) := by
  have h6 := hU.1
  unfold FX12_worth
  rw [hU.2.1, tf_inN (by omega) hr, fg_bd_s, if_pos rfl]
  unfold FX12_worth_j20
  rw [fg_wr_s, bs_up_eq]
  exact if_pos rfl
theorem tf_worthY {m rc j : Nat} {UR : Nat → bs_U} {mu : bs_Mm} (hU : mUR m rc UR mu) (hj : j < rc) (a0 a1 a2 a3 a4 : Int32) : ∃ mu', FX12_worth m mu (nI j) a0 a1 a2 a3 a4 = some (u_v (u_e a0 a1 a2 a3 a4) (UR j), mu') ∧ bs_iv (mu' m 0) = nI 0 ∧ (∀ k, k ≠ 0 → mu' m k = mu m k) ∧ ∀ a, a ≠ m → a ≠ m + 22 → mu' a = mu a := by
  have h6 := hU.1
  have UA := hU.2.2 j hj
  obtain ⟨m1, hm1⟩ : ∃ y, y = bs_up mu m 0 (.int (nI 0)) := ⟨_, rfl⟩
  have f1 : ∀ a, a ≠ m → m1 a = mu a := fun a ha => by rw [hm1, bs_up_f ha]
  obtain ⟨m2, w1, w2⟩ := tf_worthOf (m := m) (r := j) (E := u_e a0 a1 a2 a3 a4) (by omega) (mUv_of UA.2 (mu' := m1) fun c c1 c2 => f1 _ (by omega)) UA.1
  have w1 : FX12_worthOf m m1 (nI j) a0 a1 a2 a3 a4 = some (u_v (u_e a0 a1 a2 a3 a4) (UR j), m2) := w1
  have e0 : bs_iv (m1 m 0) = nI 0 := by rw [hm1, bs_up_eq]; rfl
  refine ⟨m2, ?_, by rw [w2 _ (by omega)]; exact e0, fun k hk => by rw [w2 _ (by omega), hm1, bs_up_j hk], fun a h1 h2 => by rw [w2 a h2, f1 a h1]⟩
  unfold FX12_worth
  rw [hU.2.1, tf_inZ (by omega) hj, fg_bd_s, if_neg (by decide)]
  unfold FX12_worth_j20
  rw [fg_wr_s, ← hm1, e0, if_neg (by decide), w1, fg_b2_s]
