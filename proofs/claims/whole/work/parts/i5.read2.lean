/-! THE CALLS (own): figure, rule -/
theorem li_figure {x : Nat} {D : li_D} {mu : bs_Mm} (h : lS x D mu) : ∃ r mu1 mu2 D', FX11_figure x mu = some (r, mu1) ∧ FX12_figure (x + 159) mu1 = some (r, mu2) ∧ lS x D' mu2 := by
  obtain ⟨T, S, ⟨fc, FG⟩, ⟨rc, UR⟩, ⟨qn, QT, QJ, QP⟩, ⟨ST, pu, pb⟩, ⟨rn, V⟩⟩ := D
  have h0 := h
  obtain ⟨hc, hm, hd⟩ := h
  have s6 : S.1 ≤ 6 := hd.1.1
  have h12 := hc.2.2.1.1
  by_cases e12 : fc = 12
  · have c1 := hc.2.2.1.2.1
    have c2 := hm.2.2.1.2.1
    rw [e12] at c1 c2
    exact ⟨-1, mu, mu, _, (sim_fig12 (x := x) (m := x + 159) c1 c2).1, (sim_fig12 (x := x) (m := x + 159) c1 c2).2, h0⟩
  · obtain ⟨r, mu1, mx, k1, _, k3⟩ := sim_fig (x := x) (m := x + 159) (mc := mu) (mm := mu) (sc := S.1) hc.2.2.1 hm.2.2.1 (by omega) s6 hc.1 hm.1 hm.2.1.1 hc.2.1.1
    have far : ∀ a, x + 159 ≤ a → mu1 a = mu a := fun a ha => by
      rcases k3 with ⟨_, k3, _⟩ | ⟨_, _, _, _, _, _, k3, _⟩
      · exact k3 a (by omega)
      · exact k3 a (by omega) (by omega) (by omega) (by omega)
    have lm1 := lM_of (mu' := mu1) hm (fun k _ => by rw [far _ (by omega)]) fun b b1 b2 b3 b4 => far b (by omega)
    obtain ⟨r', mu1', mu2, q1, q2, q3⟩ := sim_fig (x := x) (m := x + 159) (mc := mu) (mm := mu1) (sc := S.1) hc.2.2.1 lm1.2.2.1 (by omega) s6 hc.1 lm1.1 lm1.2.1.1 hc.2.1.1
    have e := Option.some.inj (k1.symm.trans q1)
    have e1 : r' = r := (congrArg Prod.fst e).symm
    have e2 : mu1' = mu1 := (congrArg Prod.snd e).symm
    rw [e1, e2] at q3
    rw [e1] at q2
    rcases q3 with ⟨_, q4, q5⟩ | ⟨_, ⟨G, g1, g2, g3, g4⟩, q5, q6, q7, q8, q9, q10, q11⟩
    · have lc1 := lC_of hc fun b b1 b2 b3 _ _ _ => q4 b (by omega)
      exact ⟨r, mu1, mu2, _, k1, q2, lC_of lc1 fun b b1 b2 _ _ _ _ => q5.2.1 b (by omega) (by omega), lM_fr2 lm1 q5 (Nat.le_refl _), hd⟩
    · have T0 : cT x (0, T.2).1 (0, T.2).2 mu1 := ⟨q5, Nat.zero_le _, fun i hi => absurd hi (Nat.not_lt_zero i)⟩
      have M0 : mT (x + 159) (0, T.2).1 (0, T.2).2 mu2 := ⟨q6, Nat.zero_le _, fun i hi => absurd hi (Nat.not_lt_zero i)⟩
      have lc1 := lC_pu (T' := (0, T.2)) hc T0 g3 (by omega) (q7 14 (by decide)) fun b b1 b2 b3 b4 b5 => q9 b (by omega) b2 (by omega) b5
      exact ⟨r, mu1, mu2, _, k1, q2, lC_of lc1 fun b b1 b2 _ _ _ _ => q11 b (by omega) (by omega), lM_pu (T' := (0, T.2)) lm1 M0 g4 (fun k hk => q10 k (by omega) (by omega) (by omega) (by omega) (by omega) (by omega) (by omega) (by omega)) q11, lD_pu hd ⟨g1, g2⟩⟩
theorem li_rule {x : Nat} {D : li_D} {mu : bs_Mm} (h : lS x D mu) : ∃ r mu1 mu2 D', FX11_rule x mu = some (r, mu1) ∧ FX12_rule (x + 159) mu1 = some (r, mu2) ∧ lS x D' mu2 := by
  obtain ⟨T, S, ⟨fc, FG⟩, ⟨rc, UR⟩, ⟨qn, QT, QJ, QP⟩, ⟨ST, pu, pb⟩, ⟨rn, V⟩⟩ := D
  obtain ⟨hc, hm, hd⟩ := h
  have r6 := hc.2.2.2.1.1
  obtain ⟨r, mu1, mx, k1, _, k3⟩ := sim_rule (x := x) (m := x + 159) (mc := mu) (mm := mu) hc.2.2.2.1 hm.2.2.2.1 hc.1 hm.1
  have far : ∀ a, x + 159 ≤ a → mu1 a = mu a := fun a ha => by
    rcases k3 with ⟨_, k3, _⟩ | ⟨_, r5, _, _, _, _, _, k3, _⟩
    · exact k3 a (by omega)
    · exact k3 a (by omega) (by omega) (by omega) (by omega) (by omega)
  have lm1 := lM_of (mu' := mu1) hm (fun k _ => by rw [far _ (by omega)]) fun b b1 b2 b3 b4 => far b (by omega)
  obtain ⟨r', mu1', mu2, q1, q2, q3⟩ := sim_rule (x := x) (m := x + 159) (mc := mu) (mm := mu1) hc.2.2.2.1 lm1.2.2.2.1 hc.1 lm1.1
  have e := Option.some.inj (k1.symm.trans q1)
  have e1 : r' = r := (congrArg Prod.fst e).symm
  have e2 : mu1' = mu1 := (congrArg Prod.snd e).symm
  rw [e1, e2] at q3
  rw [e1] at q2
  rcases q3 with ⟨_, q4, q5⟩ | ⟨_, r5, ⟨U, g1, g3, g4⟩, q5, q6, q7, q8, q9, q10, q11⟩
  · have lc1 := lC_of hc fun b b1 b2 b3 _ _ _ => q4 b (by omega)
    exact ⟨r, mu1, mu2, _, k1, q2, lC_of lc1 fun b b1 b2 _ _ _ _ => q5.2.1 b (by omega) (by omega) (by omega) (by omega) (by omega), lM_R lm1 q5 (Nat.le_refl _), hd⟩
  · obtain ⟨h1, h2, h3, h4, h5, h6, h7, h8, h9, h10⟩ := hc
    obtain ⟨n1, n2, n3, n4, n5, n6, n7⟩ := lm1
    have f2 : ∀ k, 1 ≤ k → k ≠ 5 → (k ≤ 19 ∨ 26 ≤ k) → k ≤ 146 → mu1 (x + k) = mu (x + k) := fun k k1 k2 k3 k4 => q9 _ (by omega) (by omega) (by omega) (by omega) (by omega)
    have lc1 : lC x ((0, T.2), S, (fc, FG), (rc + 1, u_pu UR rc U), (qn, QT, QJ, QP), (ST, pu, pb), (rn, V)) mu1 := ⟨⟨q5, Nat.zero_le _, fun i hi => absurd hi (Nat.not_lt_zero i)⟩, cSo_of h2 (f2 1 (by decide) (by decide) (by decide) (by decide)) (f2 2 (by decide) (by decide) (by decide) (by decide)) (f2 3 (by decide) (by decide) (by decide) (by decide)) (f2 4 (by decide) (by decide) (by decide) (by decide)), ⟨h3.1, by rw [q7 13 (by decide)]; exact h3.2.1, fun k hk => ⟨(h3.2.2 k hk).1, cFv_of (h3.2.2 k hk).2 fun i hi => q9 _ (by omega) (by omega) (by omega) (by have := h3.1; omega) (by have := h3.1; omega)⟩⟩, g3, cMK_ofI h5 (f2 43 (by decide) (by decide) (by decide) (by decide)) (f2 44 (by decide) (by decide) (by decide) (by decide)), cMT_of h6 (f2 30 (by decide) (by decide) (by decide) (by decide)) (f2 31 (by decide) (by decide) (by decide) (by decide)), cAG_pR (cAG_of h7 (f2 45 (by decide) (by decide) (by decide) (by decide)) (f2 46 (by decide) (by decide) (by decide) (by decide)) (f2 47 (by decide) (by decide) (by decide) (by decide))), cQU_ofI h8 (f2 50 (by decide) (by decide) (by decide) (by decide)) (f2 56 (by decide) (by decide) (by decide) (by decide)) (f2 57 (by decide) (by decide) (by decide) (by decide)) (f2 58 (by decide) (by decide) (by decide) (by decide)), cSK_ofI h9 (f2 50 (by decide) (by decide) (by decide) (by decide)) (f2 51 (by decide) (by decide) (by decide) (by decide)), cGU_ofI h10 (f2 50 (by decide) (by decide) (by decide) (by decide)) fun k hk => q9 _ (by omega) (by omega) (by omega) (by omega) (by omega)⟩
    have e5 : ∀ k, (k = 5 ∨ k = 20 ∨ (45 ≤ k ∧ k ≤ 48)) → mu2 (x + 159) k = mu1 (x + 159) k := fun k hk => q10 k (by omega) (by omega) (by omega) (by omega) (by omega) (by omega) (by omega)
    exact ⟨r, mu1, mu2, _, k1, q2, lC_of lc1 fun b b1 b2 _ _ _ _ => q11 b (by omega) (by omega), ⟨⟨q6, Nat.zero_le _, fun i hi => absurd hi (Nat.not_lt_zero i)⟩, mSo_ofI n2 (e5 5 (by decide)) (q11 _ (by omega) (by omega)) (q11 _ (by omega) (by omega)) (q11 _ (by omega) (by omega)), mFG_ofI n3 (e5 20 (by decide)) fun a a1 a2 => q11 a (by omega) (by omega), g4, mQU_ofI n5 (e5 45 (by decide)) (q11 _ (by omega) (by omega)) (q11 _ (by omega) (by omega)) (q11 _ (by omega) (by omega)), mSK_ofI n6 (e5 47 (by decide)) (e5 48 (by decide)) (q11 _ (by omega) (by omega)), mGU_ofI n7 (e5 46 (by decide)) (q11 _ (by omega) (by omega))⟩, hd⟩
