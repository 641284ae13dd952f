/-! THE CALLS (own): a new figure: figure, plain -/
theorem cMK_pu {x fc sc : Nat} {FG : Nat → bs_G} {LN JN : Nat → Nat} {G : bs_G} {mu : bs_Mm} (h : cMK x fc sc FG LN JN mu) : cMK x (fc + 1) sc (g_pu FG fc G) LN JN mu := fun j hj k hk => by
  rcases h j hj k hk with e | ⟨e1, e2⟩
  · exact Or.inl e
  · exact Or.inr ⟨by omega, by rw [g_pu_n (show j ≠ fc by omega)]; exact e2⟩
theorem cMT_pu {x fc : Nat} {FG : Nat → bs_G} {G : bs_G} {mu : bs_Mm} (h : cMT x fc FG mu) : cMT x (fc + 1) (g_pu FG fc G) mu := by
  refine ⟨fun k hk => ?_, fun i j hi hj a b => ?_⟩
  · rcases h.1 k hk with e | ⟨i, e1, e2⟩
    · exact Or.inl e
    · exact Or.inr ⟨i, by omega, e2⟩
  · have i2 : i < fc := by
      rcases h.1 7 (Or.inl rfl) with e | ⟨i', e1, e2⟩
      · rw [e] at a; cases a
      · rw [e2] at a
        have := Option.some.inj a
        omega
    have j2 : j < fc := by
      rcases h.1 8 (Or.inr rfl) with e | ⟨i', e1, e2⟩
      · rw [e] at b; cases b
      · rw [e2] at b
        have := Option.some.inj b
        omega
    rw [g_pu_n (show i ≠ fc by omega), g_pu_n (show j ≠ fc by omega)]
    exact h.2 i j i2 j2 a b
theorem cAG_pu {x fc rc : Nat} {FG : Nat → bs_G} {UR : Nat → bs_U} {S : bs_So} {G : bs_G} {mu : bs_Mm} (h : cAG x fc rc FG UR S mu) : cAG x (fc + 1) rc (g_pu FG fc G) UR S mu := by
  refine ⟨fun b hb => ?_, h.2.1, fun j k a b => ?_⟩
  · obtain ⟨j, h1, h2⟩ := h.1 b hb
    exact ⟨j, by omega, h2⟩
  · obtain ⟨j', h1, h2⟩ := h.1 _ a
    rw [g_pu_n (show j ≠ fc by omega)]
    exact h.2.2 j k a b
theorem cAG_pR {x fc rc : Nat} {FG : Nat → bs_G} {UR : Nat → bs_U} {S : bs_So} {U : bs_U} {mu : bs_Mm} (h : cAG x fc rc FG UR S mu) : cAG x fc (rc + 1) FG (u_pu UR rc U) S mu := by
  refine ⟨h.1, fun b hb => ?_, fun j k a b => ?_⟩
  · obtain ⟨j, h1, h2⟩ := h.2.1 b hb
    exact ⟨j, by omega, h2⟩
  · obtain ⟨k', h1, h2⟩ := h.2.1 _ b
    rw [u_pu_o (show k ≠ rc by omega)]
    exact h.2.2 j k a b
theorem lC_pu {x fc rc qn rn : Nat} {T T' : bs_Ta} {S : bs_So} {FG : Nat → bs_G} {UR : Nat → bs_U} {QT QJ QP ST : Nat → Nat} {pu pb : Int32} {V : Nat → Nat → Int32} {G : bs_G} {mu mu1 : bs_Mm} (h : lC x (T, S, (fc, FG), (rc, UR), (qn, QT, QJ, QP), (ST, pu, pb), (rn, V)) mu) (hT : cT x T'.1 T'.2 mu1) (hF : cFG x (fc + 1) (g_pu FG fc G) mu1) (h12 : fc < 12) (e14 : mu1 x 14 = mu x 14) (f : ∀ a, x < a → a ≠ x + 5 → (a ≤ x + 6 ∨ x + 30 ≤ a) → (a ≤ x + 61 ∨ x + 63 ≤ a) → (a < x + 63 + 7 * fc ∨ x + 63 + 7 * fc + 6 < a) → mu1 a = mu a) : lC x (T', S, (fc + 1, g_pu FG fc G), (rc, UR), (qn, QT, QJ, QP), (ST, pu, pb), (rn, V)) mu1 := by
  obtain ⟨h1, h2, h3, h4, h5, h6, h7, h8, h9, h10⟩ := h
  have f2 : ∀ k, 1 ≤ k → k ≠ 5 → (k ≤ 6 ∨ 30 ≤ k) → k ≤ 61 → mu1 (x + k) = mu (x + k) := fun k k1 k2 k3 k4 => f _ (by omega) (by omega) (by omega) (by omega) (by omega)
  exact ⟨hT, cSo_of h2 (f2 1 (by decide) (by decide) (by decide) (by decide)) (f2 2 (by decide) (by decide) (by decide) (by decide)) (f2 3 (by decide) (by decide) (by decide) (by decide)) (f2 4 (by decide) (by decide) (by decide) (by decide)), hF, ⟨h4.1, by rw [e14]; exact h4.2.1, fun k hk => ⟨(h4.2.2 k hk).1, cUv_of (h4.2.2 k hk).2 (f _ (by omega) (by omega) (by omega) (by omega) (by omega)) (f _ (by omega) (by omega) (by omega) (by omega) (by omega))⟩⟩, cMK_pu (cMK_ofI h5 (f2 43 (by decide) (by decide) (by decide) (by decide)) (f2 44 (by decide) (by decide) (by decide) (by decide))), cMT_pu (cMT_of h6 (f2 30 (by decide) (by decide) (by decide) (by decide)) (f2 31 (by decide) (by decide) (by decide) (by decide))), cAG_pu (cAG_of h7 (f2 45 (by decide) (by decide) (by decide) (by decide)) (f2 46 (by decide) (by decide) (by decide) (by decide)) (f2 47 (by decide) (by decide) (by decide) (by decide))), cQU_ofI h8 (f2 50 (by decide) (by decide) (by decide) (by decide)) (f2 56 (by decide) (by decide) (by decide) (by decide)) (f2 57 (by decide) (by decide) (by decide) (by decide)) (f2 58 (by decide) (by decide) (by decide) (by decide)), cSK_ofI h9 (f2 50 (by decide) (by decide) (by decide) (by decide)) (f2 51 (by decide) (by decide) (by decide) (by decide)), cGU_ofI h10 (f2 50 (by decide) (by decide) (by decide) (by decide)) fun k hk => f _ (by omega) (by omega) (by omega) (by omega) (by omega)⟩
theorem lM_pu {m fc rc qn rn : Nat} {T T' : bs_Ta} {S : bs_So} {FG : Nat → bs_G} {UR : Nat → bs_U} {QT QJ QP ST : Nat → Nat} {pu pb : Int32} {V : Nat → Nat → Int32} {G : bs_G} {mu mu1 : bs_Mm} (h : lM m (T, S, (fc, FG), (rc, UR), (qn, QT, QJ, QP), (ST, pu, pb), (rn, V)) mu) (hT : mT m T'.1 T'.2 mu1) (hF : mFG m (fc + 1) (g_pu FG fc G) mu1) (e : ∀ k, (k = 5 ∨ k = 31 ∨ (45 ≤ k ∧ k ≤ 48)) → mu1 m k = mu m k) (f : ∀ a, a ≠ m → (a < m + 6 ∨ m + 17 < a) → mu1 a = mu a) : lM m (T', S, (fc + 1, g_pu FG fc G), (rc, UR), (qn, QT, QJ, QP), (ST, pu, pb), (rn, V)) mu1 := by
  obtain ⟨h1, h2, h3, h4, h5, h6, h7⟩ := h
  exact ⟨hT, mSo_ofI h2 (e 5 (by decide)) (f _ (by omega) (by omega)) (f _ (by omega) (by omega)) (f _ (by omega) (by omega)), hF, mUR_ofI h4 (e 31 (by decide)) fun a a1 a2 => f a (by omega) (by omega), mQU_ofI h5 (e 45 (by decide)) (f _ (by omega) (by omega)) (f _ (by omega) (by omega)) (f _ (by omega) (by omega)), mSK_ofI h6 (e 47 (by decide)) (e 48 (by decide)) (f _ (by omega) (by omega)), mGU_ofI h7 (e 46 (by decide)) (f _ (by omega) (by omega))⟩
theorem lD_pu {fc rc qn rn : Nat} {T T' : bs_Ta} {S : bs_So} {FG : Nat → bs_G} {UR : Nat → bs_U} {QT QJ QP ST : Nat → Nat} {pu pb : Int32} {V : Nat → Nat → Int32} {G : bs_G} (h : lD (T, S, (fc, FG), (rc, UR), (qn, QT, QJ, QP), (ST, pu, pb), (rn, V))) (hG : g_iv G ∧ ∀ b, b < g_nb G → g_so G b < S.1) : lD (T', S, (fc + 1, g_pu FG fc G), (rc, UR), (qn, QT, QJ, QP), (ST, pu, pb), (rn, V)) := by
  obtain ⟨h1, h2, h3⟩ := h
  refine ⟨h1, fun k hk => ?_, fun i hi => ⟨(h3 i hi).1, by have := (h3 i hi).2.1; omega, (h3 i hi).2.2⟩⟩
  by_cases e : k = fc
  · rw [e, g_pu_s]
    exact hG
  · rw [g_pu_n e]
    exact h2 k (by omega)
theorem li_plain {x : Nat} {D : li_D} {mu : bs_Mm} (h : lS x D mu) (a : Int32) : ∃ r mu1 mu2 D', FX11_plain x mu a = some (r, mu1) ∧ FX12_plain (x + 159) mu1 a = some (r, mu2) ∧ lS x D' mu2 := by
  obtain ⟨T, S, ⟨fc, FG⟩, ⟨rc, UR⟩, ⟨qn, QT, QJ, QP⟩, ⟨ST, pu, pb⟩, ⟨rn, V⟩⟩ := D
  have hF : cFG x fc FG mu := h.1.2.2.1
  have hG : mFG (x + 159) fc FG mu := h.2.1.2.2.1
  have h12 := hF.1
  have hD : ∀ k, k < fc → g_iv (FG k) ∧ ∀ b, b < g_nb (FG k) → g_so (FG k) b < S.1 := h.2.2.2.1
  rcases g_at_c fc (by omega) a with ha | ⟨j, hj, ha⟩
  · exact ⟨-1, mu, mu, _, sf_plainN hF.2.1 h12 ha, tf_plainN hG.2.1 h12 ha, h⟩
  · subst ha
    by_cases e12 : fc = 12
    · have c1 := hF.2.1
      have c2 := hG.2.1
      rw [e12] at c1 c2
      exact ⟨-1, mu, mu, _, sf_plainB c1 (by omega), tf_plainB c2 (by omega), h⟩
    · have hj2 := hD j hj
      obtain ⟨mu1, k1, k2, k3, k4⟩ := sf_plainY hF (by omega) hj hj2.1
      have mG1 : mFG (x + 159) fc FG mu1 := mFG_ofI hG (by rw [k4 _ (by omega) (by omega) (by omega)]) fun b b1 b2 => k4 b (by omega) (by omega) (by omega)
      obtain ⟨mu2, k5, k6, k7, k8⟩ := tf_plainY mG1 (by omega) hj hj2.1
      have cell : ∀ b, b ≤ x + 158 → mu2 b = mu1 b := fun b hb => k8 b (by omega) (by omega)
      have lc1 := lC_pu (T' := T) (G := pl_T (FG j)) h.1 (cT_of h.1.1 (k4 _ (by omega) (by omega) (by omega)) (k4 _ (by omega) (by omega) (by omega))) k2 (by omega) (k3 14 (by decide)) fun b b1 b2 b3 b4 b5 => k4 b (by omega) (by omega) b5
      have lm1 := lM_of (mu' := mu1) h.2.1 (fun k _ => by rw [k4 _ (by omega) (by omega) (by omega)]) fun b b1 b2 b3 b4 => k4 b (by omega) (by omega) (by omega)
      exact ⟨nI fc, mu1, mu2, _, k1, k5, lC_of lc1 fun b b1 b2 _ _ _ _ => cell b b2, lM_pu (T' := T) lm1 (mT_of lm1.1 (k7 7 (by decide)) (k8 _ (by omega) (by omega))) k6 (fun k hk => k7 k (by omega)) k8, lD_pu h.2.2 ⟨pl_iv hj2.1, hj2.2⟩⟩
