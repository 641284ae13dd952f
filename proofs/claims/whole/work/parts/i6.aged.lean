/-! THE CALLS (own): aged, falls, add -/
theorem lS_g {x fc rc qn rn : Nat} {T : bs_Ta} {S : bs_So} {FG : Nat → bs_G} {UR : Nat → bs_U} {QT QJ QP ST : Nat → Nat} {pu pb : Int32} {V : Nat → Nat → Int32} {mu mu1 : bs_Mm} (h : lS x (T, S, (fc, FG), (rc, UR), (qn, QT, QJ, QP), (ST, pu, pb), (rn, V)) mu) (hA : cAG x fc rc FG UR S mu1) (e : ag_fr x mu mu1) : lS x (T, S, (fc, FG), (rc, UR), (qn, QT, QJ, QP), (ST, pu, pb), (rn, V)) mu1 := by
  obtain ⟨⟨h1, h2, h3, h4, h5, h6, h7, h8, h9, h10⟩, hm, hd⟩ := h
  have f : ∀ a, (a < x + 28 ∨ x + 29 < a) → (a < x + 45 ∨ x + 49 < a) → mu1 a = mu a := e
  exact ⟨⟨cT_of h1 (f _ (by omega) (by omega)) (f _ (by omega) (by omega)), cSo_of h2 (f _ (by omega) (by omega)) (f _ (by omega) (by omega)) (f _ (by omega) (by omega)) (f _ (by omega) (by omega)), cFG_ofI h3 (f _ (by omega) (by omega)) fun a a1 a2 => f a (by omega) (by omega), cUR_ofI h4 (f _ (by omega) (by omega)) fun a a1 a2 => f a (by omega) (by omega), cMK_ofI h5 (f _ (by omega) (by omega)) (f _ (by omega) (by omega)), cMT_of h6 (f _ (by omega) (by omega)) (f _ (by omega) (by omega)), hA, cQU_ofI h8 (f _ (by omega) (by omega)) (f _ (by omega) (by omega)) (f _ (by omega) (by omega)) (f _ (by omega) (by omega)), cSK_ofI h9 (f _ (by omega) (by omega)) (f _ (by omega) (by omega)), cGU_ofI h10 (f _ (by omega) (by omega)) fun k hk => f _ (by omega) (by omega)⟩, lM_of hm (fun k _ => by rw [f _ (by omega) (by omega)]) fun a a1 a2 a3 a4 => f a (by omega) (by omega), hd⟩
theorem lS_mg {x : Nat} {D : li_D} {mu mu1 : bs_Mm} (h : lS x D mu) (e : mg_fr (x + 159) mu mu1) : lS x D mu1 := ⟨lC_of h.1 fun a a1 a2 a3 a4 a5 a6 => e.2 a (by omega) (by omega) (by omega) (by omega), lM_of h.2.1 (fun k hk => e.1 k (by omega)) fun a a1 a2 a3 a4 => e.2 a (by omega) (by omega) (by omega) (by omega), h.2.2⟩
theorem li_aged {x : Nat} {D : li_D} {mu : bs_Mm} (h : lS x D mu) (a b c d : Int32) : ∃ r mu1 mu2, FX11_aged x mu a b c d = some (r, mu1) ∧ FX12_aged (x + 159) mu1 a b c d = some (r, mu2) ∧ lS x D mu2 := by
  obtain ⟨T, S, ⟨fc, FG⟩, ⟨rc, UR⟩, ⟨qn, QT, QJ, QP⟩, ⟨ST, pu, pb⟩, ⟨rn, V⟩⟩ := D
  have h0 := h
  obtain ⟨hc, hm, hd⟩ := h
  by_cases may : ag_may fc rc FG a b c d
  · obtain ⟨i, j, k, n, e1, e2, e3, e4, hi, hj, hk, hn⟩ := may
    subst e1 e2 e3 e4
    have hI := hd.2.1 i hi
    obtain ⟨mu1, k1, k2, k3⟩ := sf_agedY hc.2.2.1 hc.2.2.2.1 hc.2.1 hd.1.1 hI.2 hc.2.2.2.2.2.2.1 hI.1 hi hj hk hn
    have h1 := lS_g h0 k2 k3
    obtain ⟨mu2, k4, k5⟩ := tf_agedY h1.2.1.2.2.1 h1.2.1.2.2.2.1 h1.2.1.2.1 hd.1.1 hI.2 hI.1 hi hj hk hn
    exact ⟨_, mu1, mu2, k1, k4, lS_mg h1 k5⟩
  · exact ⟨-1, mu, mu, sf_agedN hc.2.2.1 hc.2.2.2.1 may, tf_agedN hm.2.2.1 hm.2.2.2.1 may, h0⟩
theorem li_falls {x : Nat} {D : li_D} {mu : bs_Mm} (h : lS x D mu) (a b c : Int32) : ∃ r mu1 mu2, FX11_falls x mu a b c = some (r, mu1) ∧ FX12_falls (x + 159) mu1 a b c = some (r, mu2) ∧ lS x D mu2 := by
  obtain ⟨T, S, ⟨fc, FG⟩, ⟨rc, UR⟩, ⟨qn, QT, QJ, QP⟩, ⟨ST, pu, pb⟩, ⟨rn, V⟩⟩ := D
  have h0 := h
  obtain ⟨hc, hm, hd⟩ := h
  by_cases may : fl_may fc rc FG a b c
  · obtain ⟨i, j, k, e1, e2, e3, hi, hj, hk, hn⟩ := may
    subst e1 e2 e3
    have hI := hd.2.1 i hi
    obtain ⟨mu1, k1, k2, k3⟩ := sf_fallsY hc.2.2.1 hc.2.2.2.1 hc.2.1 hd.1.1 hI.2 hc.2.2.2.2.2.2.1 hI.1 hi hj hk hn
    have h1 := lS_g h0 k2 k3
    obtain ⟨mu2, k4, k5⟩ := tf_fallsY h1.2.1.2.2.1 h1.2.1.2.2.2.1 h1.2.1.2.1 hd.1.1 hI.2 hI.1 hi hj hk hn
    exact ⟨_, mu1, mu2, k1, k4, lS_mg h1 k5⟩
  · exact ⟨-1, mu, mu, sf_fallsN hc.2.2.1 hc.2.2.2.1 may, tf_fallsN hm.2.2.1 hm.2.2.2.1 may, h0⟩
theorem li_add {x : Nat} {D : li_D} {mu : bs_Mm} (h : lS x D mu) (a b c d : Int32) : ∃ r mu1 mu2 D', FX11_add x mu a b c d = some (r, mu1) ∧ FX12_add (x + 159) mu1 a b c d = some (r, mu2) ∧ lS x D' mu2 := by
  obtain ⟨T, S, ⟨fc, FG⟩, ⟨rc, UR⟩, ⟨qn, QT, QJ, QP⟩, ⟨ST, pu, pb⟩, ⟨rn, V⟩⟩ := D
  have h0 := h
  obtain ⟨hc, hm, hd⟩ := h
  by_cases may : ad_may fc FG a b c d
  · obtain ⟨i, j, p, q, e1, e2, e3, e4, hi, hj, hp, hq, h24, h6, h12⟩ := may
    subst e1 e2 e3 e4
    have hI := hd.2.1 i hi
    have hJ := hd.2.1 j hj
    obtain ⟨mu1, k1, k2, k3, k4⟩ := sf_addY hc.2.2.1 h12 hi hj hp hq h24 h6 hI.1 hJ.1
    have mG1 : mFG (x + 159) fc FG mu1 := mFG_ofI hm.2.2.1 (by rw [k4 _ (by omega) (by omega)]) fun b b1 b2 => k4 b (by omega) (by omega)
    obtain ⟨mu2, k5, k6, k7, k8⟩ := tf_addY mG1 h12 hi hj hp hq h24 h6 hI.1 hJ.1
    have lc1 := lC_pu (T' := T) hc (cT_of hc.1 (k4 _ (by omega) (by omega)) (k4 _ (by omega) (by omega))) k2 h12 (k3 14 (by decide)) fun b b1 b2 b3 b4 b5 => k4 b (by omega) b5
    have lm1 := lM_of (mu' := mu1) hm (fun k _ => by rw [k4 _ (by omega) (by omega)]) fun b b1 b2 b3 b4 => k4 b (by omega) (by omega)
    refine ⟨nI fc, mu1, mu2, _, k1, k5, lC_of lc1 fun b b1 b2 _ _ _ _ => k8 b (by omega) (by omega), lM_pu (T' := T) lm1 (mT_of lm1.1 (k7 7 (by decide)) (k8 _ (by omega) (by omega))) k6 (fun k hk => k7 k (by omega)) k8, lD_pu hd ⟨ad_iv hI.1 hJ.1 hp hq h24 h6, fun b hb => ?_⟩⟩
    have hb : b < g_nb (FG i) + g_nb (FG j) := hb
    show ad_a (g_nb (FG i)) (g_so (FG i)) (g_so (FG j)) b < S.1
    unfold ad_a
    by_cases z : b < g_nb (FG i)
    · rw [if_pos z]
      exact hI.2 b z
    · rw [if_neg z]
      exact hJ.2 _ (by omega)
  · exact ⟨-1, mu, mu, _, sf_addN hc.2.2.1 may, tf_addN hm.2.2.1 may, h0⟩
