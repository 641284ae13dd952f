/-! PLAIN of the model (own) -/
/-- a figure as the model builds it: c bubbles stand -/
def mB (m fc c : Nat) (le bo ra rb : Nat → Nat) (mu : bs_Mm) : Prop := bs_iv (mu (m + 8) fc) = nI c ∧ ∀ j, j < c → bs_iv (mu (m + 10) (24 * fc + j)) = nI (le j) ∧ bs_iv (mu (m + 11) (24 * fc + j)) = nI (ra j) ∧ bs_iv (mu (m + 12) (24 * fc + j)) = nI (rb j) ∧ bs_iv (mu (m + 13) (24 * fc + j)) = nI (bo j)
theorem mB_of {m fc c : Nat} {le bo ra rb : Nat → Nat} {mu mu' : bs_Mm} (h : mB m fc c le bo ra rb mu) (e8 : mu' (m + 8) = mu (m + 8)) (e10 : mu' (m + 10) = mu (m + 10)) (e11 : mu' (m + 11) = mu (m + 11)) (e12 : mu' (m + 12) = mu (m + 12)) (e13 : mu' (m + 13) = mu (m + 13)) : mB m fc c le bo ra rb mu' := by
  unfold mB
  rw [e8, e10, e11, e12, e13]
  exact h
theorem tf_putB {m fc c : Nat} {le bo ra rb : Nat → Nat} {mu : bs_Mm} (h20 : bs_iv (mu m 20) = nI fc) (hfc : fc < 12) (hc : c < 24) (hB : mB m fc c le bo ra rb mu) : ∃ mu', FX12_put m mu (nI (le c)) (nI (bo c)) (nI (ra c)) (nI (rb c)) = some mu' ∧ mB m fc (c + 1) le bo ra rb mu' ∧ (∀ a, a ≠ m + 8 → (a < m + 10 ∨ m + 13 < a) → mu' a = mu a) ∧ mKp m fc mu mu' := by
  obtain ⟨h8, hr⟩ := hB
  obtain ⟨m1, hm1⟩ : ∃ x, x = bs_up mu (m + 10) (24 * fc + c) (.int (nI (le c))) := ⟨_, rfl⟩
  obtain ⟨m2, hm2⟩ : ∃ x, x = bs_up m1 (m + 13) (24 * fc + c) (.int (nI (bo c))) := ⟨_, rfl⟩
  obtain ⟨m3, hm3⟩ : ∃ x, x = bs_up m2 (m + 11) (24 * fc + c) (.int (nI (ra c))) := ⟨_, rfl⟩
  obtain ⟨m4, hm4⟩ : ∃ x, x = bs_up m3 (m + 12) (24 * fc + c) (.int (nI (rb c))) := ⟨_, rfl⟩
  have f1 : ∀ a, a ≠ m + 10 → m1 a = mu a := fun a ha => by rw [hm1, bs_up_f ha]
  have f2 : ∀ a, a ≠ m + 13 → m2 a = m1 a := fun a ha => by rw [hm2, bs_up_f ha]
  have f3 : ∀ a, a ≠ m + 11 → m3 a = m2 a := fun a ha => by rw [hm3, bs_up_f ha]
  have f4 : ∀ a, a ≠ m + 12 → m4 a = m3 a := fun a ha => by rw [hm4, bs_up_f ha]
  have m20 : bs_iv (m4 m 20) = nI fc := by rw [f4 _ (by omega), f3 _ (by omega), f2 _ (by omega), f1 _ (by omega)]; exact h20
  have m8 : bs_iv (m4 (m + 8) fc) = nI c := by rw [f4 _ (by omega), f3 _ (by omega), f2 _ (by omega), f1 _ (by omega)]; exact h8
  have r10 : m4 (m + 10) = m1 (m + 10) := by rw [f4 _ (by omega), f3 _ (by omega), f2 _ (by omega)]
  have r13 : m4 (m + 13) = m2 (m + 13) := by rw [f4 _ (by omega), f3 _ (by omega)]
  have r11 : m4 (m + 11) = m3 (m + 11) := by rw [f4 _ (by omega)]
  have s13 : m1 (m + 13) = mu (m + 13) := f1 _ (by omega)
  have s11 : m2 (m + 11) = mu (m + 11) := by rw [f2 _ (by omega), f1 _ (by omega)]
  have s12 : m3 (m + 12) = mu (m + 12) := by rw [f3 _ (by omega), f2 _ (by omega), f1 _ (by omega)]
  refine ⟨bs_up m4 (m + 8) fc (.int (nI (c + 1))), ?_, ⟨by rw [bs_up_eq]; rfl, fun j hj => ?_⟩, fun a a1 a2 => by rw [bs_up_f a1, f4 _ (by omega), f3 _ (by omega), f2 _ (by omega), f1 _ (by omega)], ?_⟩
  · unfold FX12_put
    simp (disch := omega) only [fg_gd_t, fg_bd_s, fg_b2_s, fg_wr_s, fg_let_s, fn_add, fn_sub, fn_mul, fn_cl, fn_lt, fn_le, fn_eq, fn_eq0, fn_lt0, fn_0le, fn_0lt, fn_le0, fn_in, fn_shl, fn_shr, fa_and, fa_or, bs_xorI, if_true, if_false, h20, h8, ← hm1, ← hm2, ← hm3, ← hm4, m20, m8]
  · rw [bs_up_f (by omega), bs_up_f (by omega), bs_up_f (by omega), bs_up_f (by omega), r10, r11, r13]
    by_cases e : j = c
    · subst e
      rw [hm1, bs_up_eq, hm2, bs_up_eq, hm3, bs_up_eq, hm4, bs_up_eq]
      exact ⟨rfl, rfl, rfl, rfl⟩
    · have q10 : m1 (m + 10) (24 * fc + j) = mu (m + 10) (24 * fc + j) := by rw [hm1, bs_up_j (by omega)]
      have q13 : m2 (m + 13) (24 * fc + j) = mu (m + 13) (24 * fc + j) := by rw [hm2, bs_up_j (by omega), s13]
      have q11 : m3 (m + 11) (24 * fc + j) = mu (m + 11) (24 * fc + j) := by rw [hm3, bs_up_j (by omega), s11]
      have q12 : m4 (m + 12) (24 * fc + j) = mu (m + 12) (24 * fc + j) := by rw [hm4, bs_up_j (by omega), s12]
      rw [q10, q11, q12, q13]
      exact hr j (by omega)
  · refine mKp_up ?_ (Or.inr ⟨by omega, by omega⟩) (fun h => by omega) (fun h => by omega) fun h => by omega
    rw [hm4]
    refine mKp_up ?_ (Or.inr ⟨by omega, by omega⟩) (fun h => by omega) (fun h => by omega) fun h => by omega
    rw [hm3]
    refine mKp_up ?_ (Or.inr ⟨by omega, by omega⟩) (fun h => by omega) (fun h => by omega) fun h => by omega
    rw [hm2]
    refine mKp_up ?_ (Or.inr ⟨by omega, by omega⟩) (fun h => by omega) (fun h => by omega) fun h => by omega
    rw [hm1]
    exact mKp_up (mKp_rfl m fc mu) (Or.inr ⟨by omega, by omega⟩) (fun h => by omega) (fun h => by omega) fun h => by omega
theorem pl_ms (G : bs_G) : ∀ n, g_sm (g_le G) n = g_sm (g_le G) (pl_s G n) + pl_m G n := by
  intro n
  induction n with
  | zero => rfl
  | succ n ih =>
    rw [pl_s, pl_m]
    rcases g_sl01 G n with z | z
    · rw [if_neg (by omega), if_neg (by omega)]
      rfl
    · rw [if_pos z, if_pos z]
      show g_sm (g_le G) n + g_le G n = _
      omega
def pl_ra (G : bs_G) : Nat → Nat := pl_r G (fun i => g_fr G (pl_s G i))
def pl_rb (G : bs_G) : Nat → Nat := pl_r G (g_to G)
def pl_li (G : bs_G) (p : Nat) : Bool := !pl_g G p
theorem pl_lvn (G : bs_G) (n : Nat) : pl_lv (pl_li G) n = pl_n G n := g_sm_cg _ fun q _ => by
  unfold pl_li
  cases pl_g G q with
  | true => rfl
  | false => rfl
/-- the row of heads when the first i bubbles are seen -/
def pl_h (G : bs_G) (i p : Nat) : Int32 := if pl_e G i p = true then -1 else nI p
/-- what stays while the bubbles go by -/
def mPl (m fc : Nat) (G : bs_G) (i : Nat) (mu0 mu : bs_Mm) : Prop := mB m fc (pl_k G i) (g_le (pl_T G)) (g_bo (pl_T G)) (pl_ra G) (pl_rb G) mu ∧ (∀ p, p < g_np G → bs_iv (mu (m + 15) p) = pl_h G i p) ∧ (∀ a, a ≠ m + 8 → a ≠ m + 15 → (a < m + 10 ∨ m + 13 < a) → mu a = mu0 a) ∧ mKp m fc mu0 mu
set_option maxHeartbeats 1000000 in
theorem tf_plLoop {m fc g : Nat} {mu0 : bs_Mm} {G : bs_G} (h20 : bs_iv (mu0 m 20) = nI fc) (hfc : fc < 12) (hg : g < fc) (hI : g_iv G) (hV : mFv m g G mu0) (h0 : mPl m fc G 0 mu0 mu0) : ∃ mu', fg_lp (FX12_plain_b110 m (nI g)) fg_fu (nI 0, nI 0, mu0) = some mu' ∧ mPl m fc G (g_nu G) mu0 mu' := by
  have hG := hI.1
  have q0 := g_bn hG
  refine fg_lp_i (body := FX12_plain_b110 m (nI g)) (fun r s => ∃ i, s.1 = nI (pl_s G i) ∧ s.2.1 = nI i ∧ i + r = g_nu G ∧ mPl m fc G i mu0 s.2.2) _ (fun r s hJ => ?_) fg_fu (g_nu G) (nI 0, nI 0, mu0) ⟨0, rfl, rfl, by omega, h0⟩ (fg_fu_lt (by omega))
  obtain ⟨sv, iv, mu1⟩ := s
  obtain ⟨i, e1, e2, hr, hB, hh, hf, hk⟩ := hJ
  have e1 : sv = nI (pl_s G i) := e1
  have e2 : iv = nI i := e2
  subst e1
  subst e2
  have hB : mB m fc (pl_k G i) (g_le (pl_T G)) (g_bo (pl_T G)) (pl_ra G) (pl_rb G) mu1 := hB
  have hh : ∀ p, p < g_np G → bs_iv (mu1 (m + 15) p) = pl_h G i p := hh
  have hf : ∀ a, a ≠ m + 8 → a ≠ m + 15 → (a < m + 10 ∨ m + 13 < a) → mu1 a = mu0 a := hf
  have hk : mKp m fc mu0 mu1 := hk
  have V1 := mFv_kp hV hg hG hk
  have u20 : bs_iv (mu1 m 20) = nI fc := by rw [hf _ (by omega) (by omega) (by omega)]; exact h20
  by_cases z : g_nu G ≤ i
  · have e : i = g_nu G := by omega
    subst e
    refine Or.inr ⟨mu1, ?_, hB, hh, hf, hk⟩
    unfold FX12_plain_b110
    simp (disch := omega) only [fg_gd_t, fg_bd_s, fg_b2_s, fg_wr_s, fg_let_s, fn_add, fn_sub, fn_mul, fn_cl, fn_lt, fn_le, fn_eq, fn_eq0, fn_lt0, fn_0le, fn_0lt, fn_le0, fn_in, fn_shl, fn_shr, fa_and, fa_or, bs_xorI, if_true, if_false, V1.2.1, Nat.le_refl]
  · have hi : i < g_nu G := by omega
    have b1 := g_bd hG hi
    have tw := tf_isTw V1 (by omega) hG (show i < 2 ^ 29 by omega)
    have sl := tf_isSl V1 (by omega) hG hi
    have to1 := V1.2.2.2.2.2.2.2.1 i hi
    rcases g_sl01 G i with w | w
    · have ss := (pl_s0 (G := G) i).1
      have b2 := g_bd hG (show pl_s G i < g_nu G by omega)
      have fr1 := V1.2.2.2.2.2.2.1 (pl_s G i) (by omega)
      have bo1 := V1.2.2.2.2.2.2.2.2 i hi
      have inner : fg_lp (FX12_plain_b168_L110 m mu1 (nI g) (nI (pl_s G i)) (nI i) (nI (24 * g + i))) fg_fu (nI 0, nI (pl_s G i)) = some (nI (pl_m G i + g_le G i)) := by
        have ps := pl_ms G i
        have mono : ∀ k, g_sm (g_le G) (pl_s G i) ≤ g_sm (g_le G) (pl_s G i + k) := fun k => g_sm_up _ _ k
        refine fg_lp_n (fun k => (nI (g_sm (g_le G) (pl_s G i + k) - g_sm (g_le G) (pl_s G i)), nI (pl_s G i + k))) _ (i + 1 - pl_s G i) ?_ (fun k hk => ?_) ?_ (fg_fu_lt (by omega))
        · show (nI (g_sm (g_le G) (pl_s G i) - g_sm (g_le G) (pl_s G i)), nI (pl_s G i)) = _
          rw [Nat.sub_self]
        · have l1 := V1.2.2.2.2.2.1 (pl_s G i + k) (by omega)
          have mk := mono k
          have st : g_sm (g_le G) (pl_s G i + (k + 1)) = g_sm (g_le G) (pl_s G i + k) + g_le G (pl_s G i + k) := rfl
          unfold FX12_plain_b168_L110
          simp (disch := omega) only [fg_gd_t, fg_bd_s, fg_b2_s, fg_wr_s, fg_let_s, fn_add, fn_sub, fn_mul, fn_cl, fn_lt, fn_le, fn_eq, fn_eq0, fn_lt0, fn_0le, fn_0lt, fn_le0, fn_in, fn_shl, fn_shr, fa_and, fa_or, bs_xorI, if_true, if_false, if_neg (show ¬ i < pl_s G i + k by omega), l1]
          rw [st, show g_sm (g_le G) (pl_s G i + k) - g_sm (g_le G) (pl_s G i) + g_le G (pl_s G i + k) = g_sm (g_le G) (pl_s G i + k) + g_le G (pl_s G i + k) - g_sm (g_le G) (pl_s G i) by omega]
          rfl
        · have e : pl_s G i + (i + 1 - pl_s G i) = i + 1 := by omega
          unfold FX12_plain_b168_L110
          simp (disch := omega) only [fg_gd_t, fg_bd_s, fg_b2_s, fg_wr_s, fg_let_s, fn_add, fn_sub, fn_mul, fn_cl, fn_lt, fn_le, fn_eq, fn_eq0, fn_lt0, fn_0le, fn_0lt, fn_le0, fn_in, fn_shl, fn_shr, fa_and, fa_or, bs_xorI, if_true, if_false, e, if_pos (show i < i + 1 by omega)]
          have st : g_sm (g_le G) (i + 1) = g_sm (g_le G) i + g_le G i := rfl
          rw [st, show g_sm (g_le G) i + g_le G i - g_sm (g_le G) (pl_s G i) = pl_m G i + g_le G i by omega]
      have kc := pl_kn G i
      obtain ⟨mu2, p1, p2, p3, p4⟩ := tf_putB u20 hfc (show pl_k G i < 24 by omega) hB
      have er : pl_ra G (pl_k G i) = g_fr G (pl_s G i) := pl_rv _ hi w
      have eb : pl_rb G (pl_k G i) = g_to G i := pl_rv _ hi w
      rw [pl_Tle hi w, pl_Tbo hi w, er, eb] at p1
      have j : FX12_plain_j162_L110 m mu1 (nI g) (nI (pl_s G i)) (nI i) (nI (24 * g + i)) = some (.inl (nI (i + 1), nI (i + 1), mu2)) := by
        unfold FX12_plain_j162_L110
        simp (disch := omega) only [fg_gd_t, fg_bd_s, fg_b2_s, fg_wr_s, fg_let_s, fn_add, fn_sub, fn_mul, fn_cl, fn_lt, fn_le, fn_eq, fn_eq0, fn_lt0, fn_0le, fn_0lt, fn_le0, fn_in, fn_shl, fn_shr, fa_and, fa_or, bs_xorI, if_true, if_false, inner, bo1, fr1, to1, p1]
      refine Or.inl ⟨(nI (i + 1), nI (i + 1), mu2), r - 1, ?_, by omega, i + 1, ?_, rfl, by omega, ?_, fun p hp => ?_, fun a a1 a2 a3 => ?_, mKp_tr hk p4⟩
      · unfold FX12_plain_b110
        by_cases c : g_tw G i = 0
        · simp (disch := omega) only [fg_gd_t, fg_bd_s, fg_b2_s, fg_wr_s, fg_let_s, fn_add, fn_sub, fn_mul, fn_cl, fn_lt, fn_le, fn_eq, fn_eq0, fn_lt0, fn_0le, fn_0lt, fn_le0, fn_in, fn_shl, fn_shr, fa_and, fa_or, bs_xorI, if_true, if_false, V1.2.1, if_neg z, tw, c, j]
        · have c1 := g_tw_in c
          have d : ¬ g_en G (g_to G i) < 3 := fun h => by
            have : g_sl G i = 1 := g_if1 ⟨c1.1, h⟩
            omega
          rw [g_if0 d] at sl
          simp (disch := omega) only [fg_gd_t, fg_bd_s, fg_b2_s, fg_wr_s, fg_let_s, fn_add, fn_sub, fn_mul, fn_cl, fn_lt, fn_le, fn_eq, fn_eq0, fn_lt0, fn_0le, fn_0lt, fn_le0, fn_in, fn_shl, fn_shr, fa_and, fa_or, bs_xorI, if_true, if_false, V1.2.1, if_neg z, tw, c1.1, if_neg (show ¬ (1 : Nat) = 0 by decide), sl, j]
      · show nI (i + 1) = nI (pl_s G (i + 1))
        rw [pl_s, if_neg (by omega)]
      · show mB m fc (pl_k G (i + 1)) _ _ _ _ mu2
        rw [pl_k1 w]
        exact p2
      · show bs_iv (mu2 (m + 15) p) = pl_h G (i + 1) p
        rw [p3 _ (by omega) (by omega), hh p hp]
        unfold pl_h
        by_cases d : pl_e G i p = true
        · rw [if_pos d, if_pos ((pl_e_s G i p).mpr (Or.inl d))]
        · rw [if_neg d, if_neg (fun h => ((pl_e_s G i p).mp h).elim d fun h => by omega)]
      · show mu2 a = mu0 a
        rw [p3 a a1 a3]
        exact hf a a1 a2 a3
    · have t := g_sly w
      rw [g_if1 t.2.2.2] at sl
      refine Or.inl ⟨(nI (pl_s G i), nI (i + 1), bs_up mu1 (m + 15) (g_to G i) (.int (-1))), r - 1, ?_, by omega, i + 1, ?_, rfl, by omega, ?_, fun p hp => ?_, fun a a1 a2 a3 => (bs_up_f a2).trans (hf a a1 a2 a3), mKp_up hk (Or.inr ⟨by omega, by omega⟩) (fun h => by omega) (fun h => by omega) fun _ h => by omega⟩
      · unfold FX12_plain_b110
        simp (disch := omega) only [fg_gd_t, fg_bd_s, fg_b2_s, fg_wr_s, fg_let_s, fn_add, fn_sub, fn_mul, fn_cl, fn_lt, fn_le, fn_eq, fn_eq0, fn_lt0, fn_0le, fn_0lt, fn_le0, fn_in, fn_shl, fn_shr, fa_and, fa_or, bs_xorI, if_true, if_false, V1.2.1, if_neg z, tw, t.1, if_neg (show ¬ (1 : Nat) = 0 by decide), sl, to1]
      · show nI (pl_s G i) = nI (pl_s G (i + 1))
        rw [pl_s, if_pos w]
      · show mB m fc (pl_k G (i + 1)) _ _ _ _ (bs_up mu1 (m + 15) (g_to G i) (.int (-1)))
        rw [pl_k0 w]
        exact mB_of hB (bs_up_f (by omega)) (bs_up_f (by omega)) (bs_up_f (by omega)) (bs_up_f (by omega)) (bs_up_f (by omega))
      · show bs_iv (bs_up mu1 (m + 15) (g_to G i) (.int (-1)) (m + 15) p) = pl_h G (i + 1) p
        unfold pl_h
        by_cases e : p = g_to G i
        · subst e
          rw [bs_up_eq, if_pos ((pl_e_s G i _).mpr (Or.inr ⟨w, rfl⟩))]
          rfl
        · rw [bs_up_j e, hh p hp]
          unfold pl_h
          by_cases d : pl_e G i p = true
          · rw [if_pos d, if_pos ((pl_e_s G i p).mpr (Or.inl d))]
          · rw [if_neg d, if_neg (fun h => ((pl_e_s G i p).mp h).elim d fun h => e h.2.symm)]
