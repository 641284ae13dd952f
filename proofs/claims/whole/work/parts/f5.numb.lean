/-! READING A FIGURE (own): points numbered anew, the model -/
set_option maxHeartbeats 2000000 in
theorem tf_numb {m f : Nat} {s : rf_S} {mu : bs_Mm} (hf : f ≤ 12) (hok : rf_ok s) (hM : rf_M m f s mu) : ∃ mu', FX12_numberPoints m mu = some mu' ∧ mFv m f (rf_T s) mu' ∧ mu' m = mu m ∧ mfr m f mu mu' := by
  have lr := fun z hz => rf_lr (s := s) hok (z := z) hz
  have q0 := g_bn hok.1
  have q1 : g_np (rf_g s) ≤ 30 := q0.2.2.1
  have q2 : g_nu (rf_g s) ≤ 24 := q0.2.1
  have h3 := hok.2.2.1
  obtain ⟨M1, M2, M3, M4, M5, M6, M7, M8, M9, M10⟩ := hM
  have h13 : fg_in (nI f) 13 = true := fn_in (show f < 13 by omega) (by decide)
  have cf : (nI f).toNatClampNeg = f := fn_cl (by omega)
  have L1 : ∃ t, fg_lp (FX12_numberPoints_b4 m) fg_fu (nI 0, nI 0, mu) = some t ∧ t.1 = nI (pl_lv (rf_li s) (g_np (rf_g s))) ∧ (∀ q, q < g_np (rf_g s) → rf_li s q = true → bs_iv (t.2 (m + 17) q) = nI (pl_lv (rf_li s) q)) ∧ ∀ a, a ≠ m + 17 → t.2 a = mu a := by
    refine fg_lp_i (body := FX12_numberPoints_b4 m) (fun r st => ∃ p, st.1 = nI (pl_lv (rf_li s) p) ∧ st.2.1 = nI p ∧ p + r = g_np (rf_g s) ∧ (∀ q, q < p → rf_li s q = true → bs_iv (st.2.2 (m + 17) q) = nI (pl_lv (rf_li s) q)) ∧ ∀ a, a ≠ m + 17 → st.2.2 a = mu a) _ (fun r st hJ => ?_) fg_fu (g_np (rf_g s)) (nI 0, nI 0, mu) ⟨0, rfl, rfl, by omega, fun q hq => absurd hq (Nat.not_lt_zero q), fun _ _ => rfl⟩ (fg_fu_lt (by omega))
    obtain ⟨kv, pv, mu1⟩ := st
    obtain ⟨p, e1, e2, hr, h1, hf1⟩ := hJ
    have e1 : kv = nI (pl_lv (rf_li s) p) := e1
    have e2 : pv = nI p := e2
    subst e1
    subst e2
    have h1 : ∀ q, q < p → rf_li s q = true → bs_iv (mu1 (m + 17) q) = nI (pl_lv (rf_li s) q) := h1
    have hf1 : ∀ a, a ≠ m + 17 → mu1 a = mu a := hf1
    have u23 : bs_iv (mu1 m 23) = nI (g_np (rf_g s)) := by rw [hf1 _ (by omega)]; exact M7
    by_cases z : g_np (rf_g s) ≤ p
    · have e : p = g_np (rf_g s) := by omega
      subst e
      refine Or.inr ⟨(nI (pl_lv (rf_li s) (g_np (rf_g s))), mu1), ?_, rfl, h1, hf1⟩
      unfold FX12_numberPoints_b4
      rw [u23, if_pos (Int32.le_refl _)]
    · have hp : p < g_np (rf_g s) := by omega
      have fd := tf_findR (m := m) (n := g_np (rf_g s)) (r := rf_r s) (mu := mu1) (by omega) (mh_of M5 (hf1 _ (by omega))) hp
      have s1 : pl_lv (rf_li s) (p + 1) = pl_lv (rf_li s) p + g_if (rf_li s p = true) := rfl
      have rp := (lr p hp).2
      by_cases d : rf_r s p = p
      · have dl : rf_li s p = true := decide_eq_true d
        rw [g_if1 dl] at s1
        refine Or.inl ⟨(nI (pl_lv (rf_li s) p + 1), nI (p + 1), bs_up mu1 (m + 17) p (.int (nI (pl_lv (rf_li s) p)))), r - 1, ?_, by omega, p + 1, by rw [s1], rfl, by omega, fun q hq hl => ?_, fun a ha => (bs_up_f ha).trans (hf1 a ha)⟩
        · unfold FX12_numberPoints_b4
          rw [u23, if_neg (fun w => z ((nI_leI (by omega) (by omega)).mp w)), fd, fg_bd_s, if_pos (by rw [d]), fn_in (show p < 60 by omega) (by decide), fg_gd_t, fn_cl (show p < 2 ^ 31 by omega), fg_wr_s, fn_add, fn_add]
        · show bs_iv (bs_up mu1 (m + 17) p (.int (nI (pl_lv (rf_li s) p))) (m + 17) q) = _
          by_cases e : q = p
          · subst e
            rw [bs_up_eq]
            rfl
          · rw [bs_up_j e]
            exact h1 q (by omega) hl
      · have dl : ¬ rf_li s p = true := fun w => d (of_decide_eq_true w)
        rw [g_if0 dl] at s1
        refine Or.inl ⟨(nI (pl_lv (rf_li s) p), nI (p + 1), mu1), r - 1, ?_, by omega, p + 1, by rw [s1]; rfl, rfl, by omega, fun q hq hl => ?_, hf1⟩
        · unfold FX12_numberPoints_b4
          rw [u23, if_neg (fun w => z ((nI_leI (by omega) (by omega)).mp w)), fd, fg_bd_s, if_neg (fun w => d ((nI_eq (by omega) (by omega)).mp w)), fn_add]
        · by_cases e : q = p
          · subst e
            exact (dl hl).elim
          · exact h1 q (by omega) hl
  obtain ⟨⟨kv, m1⟩, a1, a2, a3, a4⟩ := L1
  have a2 : kv = nI (pl_lv (rf_li s) (g_np (rf_g s))) := a2
  subst a2
  have a3 : ∀ q, q < g_np (rf_g s) → rf_li s q = true → bs_iv (m1 (m + 17) q) = nI (pl_lv (rf_li s) q) := a3
  have a4 : ∀ a, a ≠ m + 17 → m1 a = mu a := a4
  obtain ⟨m2, hm2⟩ : ∃ y, y = bs_up m1 (m + 9) f (.int (nI (pl_lv (rf_li s) (g_np (rf_g s))))) := ⟨_, rfl⟩
  have f2 : ∀ a, a ≠ m + 9 → m2 a = m1 a := fun a ha => by rw [hm2, bs_up_f ha]
  have m2f : ∀ a, a ≠ m + 9 → a ≠ m + 17 → m2 a = mu a := fun a h1 h2 => by rw [f2 a h1, a4 a h2]
  have L2 : ∃ t, fg_lp (FX12_numberPoints_b55 m (nI (pl_lv (rf_li s) (g_np (rf_g s))))) fg_fu (nI (24 * f), m2) = some t ∧ (∀ j, j < g_nu (rf_g s) → bs_iv (t (m + 11) (24 * f + j)) = nI (g_fr (rf_T s) j) ∧ bs_iv (t (m + 12) (24 * f + j)) = nI (g_to (rf_T s) j)) ∧ (∀ a, a ≠ m + 11 → a ≠ m + 12 → t a = m2 a) ∧ mKp m f m2 t := by
    refine fg_lp_i (body := FX12_numberPoints_b55 m (nI (pl_lv (rf_li s) (g_np (rf_g s))))) (fun r st => ∃ c, st.1 = nI (24 * f + c) ∧ c + r = g_nu (rf_g s) ∧ (∀ j, j < c → bs_iv (st.2 (m + 11) (24 * f + j)) = nI (g_fr (rf_T s) j) ∧ bs_iv (st.2 (m + 12) (24 * f + j)) = nI (g_to (rf_T s) j)) ∧ (∀ j, c ≤ j → j < g_nu (rf_g s) → bs_iv (st.2 (m + 11) (24 * f + j)) = nI (g_fr (rf_g s) j) ∧ bs_iv (st.2 (m + 12) (24 * f + j)) = nI (g_to (rf_g s) j)) ∧ (∀ a, a ≠ m + 11 → a ≠ m + 12 → st.2 a = m2 a) ∧ mKp m f m2 st.2) _ (fun r st hJ => ?_) fg_fu (g_nu (rf_g s)) (nI (24 * f), m2) ⟨0, rfl, by omega, fun q hq => absurd hq (Nat.not_lt_zero q), fun j _ hj => by
      show bs_iv (m2 (m + 11) (24 * f + j)) = nI (g_fr (rf_g s) j) ∧ bs_iv (m2 (m + 12) (24 * f + j)) = nI (g_to (rf_g s) j)
      rw [m2f _ (by omega) (by omega), m2f _ (by omega) (by omega)]
      exact ⟨(M1.2 j hj).2.1, (M1.2 j hj).2.2.1⟩, fun _ _ _ => rfl, mKp_rfl m f m2⟩ (fg_fu_lt (by omega))
    obtain ⟨cv, mu1⟩ := st
    obtain ⟨c, e1, hr1, hd, hu, hf1, hk⟩ := hJ
    have e1 : cv = nI (24 * f + c) := e1
    subst e1
    have hd : ∀ j, j < c → bs_iv (mu1 (m + 11) (24 * f + j)) = nI (g_fr (rf_T s) j) ∧ bs_iv (mu1 (m + 12) (24 * f + j)) = nI (g_to (rf_T s) j) := hd
    have hu : ∀ j, c ≤ j → j < g_nu (rf_g s) → bs_iv (mu1 (m + 11) (24 * f + j)) = nI (g_fr (rf_g s) j) ∧ bs_iv (mu1 (m + 12) (24 * f + j)) = nI (g_to (rf_g s) j) := hu
    have hf1 : ∀ a, a ≠ m + 11 → a ≠ m + 12 → mu1 a = m2 a := hf1
    have hk : mKp m f m2 mu1 := hk
    have u25 : bs_iv (mu1 m 25) = nI f := by rw [hf1 _ (by omega) (by omega), m2f _ (by omega) (by omega)]; exact M9
    have u8 : bs_iv (mu1 (m + 8) f) = nI (g_nu (rf_g s)) := by rw [hf1 _ (by omega) (by omega), m2f _ (by omega) (by omega)]; exact M1.1
    by_cases z : g_nu (rf_g s) ≤ c
    · refine Or.inr ⟨mu1, ?_, fun j hj => hd j (by omega), hf1, hk⟩
      unfold FX12_numberPoints_b55
      simp (disch := omega) only [fg_gd_t, fg_bd_s, fg_b2_s, fg_wr_s, fg_let_s, fn_add, fn_sub, fn_mul, fn_cl, fn_lt, fn_le, fn_eq, fn_eq0, fn_lt0, fn_0le, fn_0lt, fn_le0, fn_in, fn_shl, fn_shr, fa_and, fa_or, bs_xorI, if_true, if_false, u25, u8, if_pos (show 24 * f + g_nu (rf_g s) ≤ 24 * f + c by omega)]
    · have hc : c < g_nu (rf_g s) := by omega
      have w := h3 c hc
      have n1 := lr _ w.1
      have n2 := lr _ w.2
      have r1 := hu c (Nat.le_refl _) hc
      have H1 : mh_ok m (g_np (rf_g s)) (rf_r s) mu1 := mh_of M5 (by rw [hf1 _ (by omega) (by omega), m2f _ (by omega) (by omega)])
      have fd1 := tf_findR (by omega) H1 w.1
      have n17 : ∀ z, z < g_np (rf_g s) → bs_iv (mu1 (m + 17) (rf_r s z)) = nI (pl_lv (rf_li s) (rf_r s z)) := fun z hz => by rw [hf1 _ (by omega) (by omega), f2 _ (by omega)]; exact a3 _ (lr z hz).2 (lr z hz).1
      obtain ⟨mA, hA⟩ : ∃ x, x = bs_up mu1 (m + 11) (24 * f + c) (.int (nI (g_fr (rf_T s) c))) := ⟨_, rfl⟩
      have A : ∀ a, a ≠ m + 11 → mA a = mu1 a := fun a ha => by rw [hA, bs_up_f ha]
      have fd2 := tf_findR (m := m) (n := g_np (rf_g s)) (r := rf_r s) (mu := mA) (by omega) (mh_of H1 (A _ (by omega))) w.2
      have r2 : bs_iv (mA (m + 12) (24 * f + c)) = nI (g_to (rf_g s) c) := by rw [A _ (by omega)]; exact r1.2
      have e171 : bs_iv (mu1 (m + 17) (rf_r s (g_fr (rf_g s) c))) = nI (g_fr (rf_T s) c) := n17 _ w.1
      have e172 : bs_iv (mA (m + 17) (rf_r s (g_to (rf_g s) c))) = nI (g_to (rf_T s) c) := by rw [A _ (by omega)]; exact n17 _ w.2
      refine Or.inl ⟨(nI (24 * f + c + 1), bs_up mA (m + 12) (24 * f + c) (.int (nI (g_to (rf_T s) c)))), r - 1, ?_, by omega, c + 1, rfl, by omega, fun j hj => ?_, fun j h1 h2 => ?_, fun a a1 a2 => (bs_up_f a2).trans ((A a a1).trans (hf1 a a1 a2)), ?_⟩
      · unfold FX12_numberPoints_b55
        rw [u25, h13, fg_gd_t, cf, u8, fn_mul, fn_add, if_neg (fun w => by have := (nI_leI (by omega) (by omega)).mp w; omega), fn_in (show 24 * f + c < 312 by omega) (by decide), fg_gd_t, fn_cl (show 24 * f + c < 2 ^ 31 by omega), r1.1, fd1, fg_bd_s, fn_in (show rf_r s (g_fr (rf_g s) c) < 60 by omega) (by decide), fg_gd_t, fg_gd_t, fn_cl (show rf_r s (g_fr (rf_g s) c) < 2 ^ 31 by omega), e171, fg_wr_s, ← hA, fg_gd_t, r2, fd2, fg_bd_s, fn_in (show rf_r s (g_to (rf_g s) c) < 60 by omega) (by decide), fg_gd_t, fg_gd_t, fn_cl (show rf_r s (g_to (rf_g s) c) < 2 ^ 31 by omega), e172, fg_wr_s, fn_add]
      · show bs_iv (bs_up mA (m + 12) (24 * f + c) (.int (nI (g_to (rf_T s) c))) (m + 11) (24 * f + j)) = _ ∧ bs_iv (bs_up mA (m + 12) (24 * f + c) (.int (nI (g_to (rf_T s) c))) (m + 12) (24 * f + j)) = _
        rw [bs_up_f (by omega)]
        by_cases e : j = c
        · subst e
          rw [bs_up_eq, hA, bs_up_eq]
          exact ⟨rfl, rfl⟩
        · rw [bs_up_j (by omega), A (m + 12) (by omega), hA, bs_up_j (by omega)]
          exact hd j (by omega)
      · show bs_iv (bs_up mA (m + 12) (24 * f + c) (.int (nI (g_to (rf_T s) c))) (m + 11) (24 * f + j)) = _ ∧ bs_iv (bs_up mA (m + 12) (24 * f + c) (.int (nI (g_to (rf_T s) c))) (m + 12) (24 * f + j)) = _
        rw [bs_up_f (by omega), bs_up_j (by omega), A (m + 12) (by omega), hA, bs_up_j (by omega)]
        exact hu j (by omega) h2
      · refine mKp_up ?_ (Or.inr ⟨by omega, by omega⟩) (fun h => by omega) (fun h => by omega) fun _ _ => by omega
        rw [hA]
        exact mKp_up hk (Or.inr ⟨by omega, by omega⟩) (fun h => by omega) (fun h => by omega) fun _ _ => by omega
  obtain ⟨m3, o1, o2, o3, o4⟩ := L2
  have all : ∀ a, a ≠ m + 9 → a ≠ m + 11 → a ≠ m + 12 → a ≠ m + 17 → m3 a = mu a := fun a a9 a11 a12 a17 => by rw [o3 a a11 a12, m2f a a9 a17]
  refine ⟨m3, ?_, ⟨?_, ?_, ?_, ?_, fun j hj => ?_, fun j hj => ?_, fun j hj => (o2 j hj).1, fun j hj => (o2 j hj).2, fun j hj => ?_⟩, all _ (by omega) (by omega) (by omega) (by omega), fun k _ _ _ _ _ => by rw [all _ (by omega) (by omega) (by omega) (by omega)], ?_⟩
  · have e25 : bs_iv (m1 m 25) = nI f := by rw [a4 _ (by omega)]; exact M9
    have e252 : bs_iv (m2 m 25) = nI f := by rw [f2 _ (by omega)]; exact e25
    unfold FX12_numberPoints
    rw [a1, fg_bd_s, e25, h13, fg_gd_t, cf, fg_wr_s, ← hm2, e252, fn_mul, o1, fg_bd_s]
  · rw [all _ (by omega) (by omega) (by omega) (by omega)]
    exact M2
  · rw [all _ (by omega) (by omega) (by omega) (by omega)]
    exact M1.1
  · rw [o3 _ (by omega) (by omega), hm2, bs_up_eq]
    rfl
  · rw [all _ (by omega) (by omega) (by omega) (by omega)]
    exact M4
  · rw [all _ (by omega) (by omega) (by omega) (by omega)]
    exact M3 j hj
  · rw [all _ (by omega) (by omega) (by omega) (by omega)]
    exact (M1.2 j hj).1
  · rw [all _ (by omega) (by omega) (by omega) (by omega)]
    exact (M1.2 j hj).2.2.2
  · refine mKp_tr ?_ o4
    rw [hm2]
    refine mKp_up ⟨fun a h1 h2 => a4 a (by omega), fun a k h1 _ => by rw [a4 a (by omega)], fun k _ => by rw [a4 _ (by omega)], fun a k h1 h2 _ => by rw [a4 a (by omega)]⟩ (Or.inr ⟨by omega, by omega⟩) (fun _ => Nat.le_refl _) (fun h => by omega) fun h1 h2 => by omega
