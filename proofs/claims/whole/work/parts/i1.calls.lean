/-! THE CALLS (own): both answer alike and the invariant stands: far, span, strokes, pop, many, count -/
def lS (x : Nat) (D : li_D) (mu : bs_Mm) : Prop := lC x D mu ∧ lM (x + 159) D mu ∧ lD D
theorem lS_c {x : Nat} {D : li_D} {mu mu1 : bs_Mm} (h : lS x D mu) (e : ∀ a, a ≠ x + 27 → a ≠ x + 28 → a ≠ x + 29 → mu1 a = mu a) : lS x D mu1 := ⟨lC_of h.1 fun a a1 a2 a3 a4 a5 a6 => e a (by omega) (by omega) (by omega), lM_of h.2.1 (fun k _ => by rw [e _ (by omega) (by omega) (by omega)]) fun a a1 a2 a3 a4 => e a (by omega) (by omega) (by omega), h.2.2⟩
theorem lS_m {x : Nat} {D : li_D} {mu mu1 : bs_Mm} (h : lS x D mu) (e : ∀ a, a ≠ x + 159 + 22 → a ≠ x + 159 + 23 → a ≠ x + 159 + 24 → a ≠ x + 159 + 25 → a ≠ x + 159 + 26 → a ≠ x + 159 + 27 → mu1 a = mu a) : lS x D mu1 := ⟨lC_of h.1 fun a a1 a2 a3 a4 a5 a6 => e a (by omega) (by omega) (by omega) (by omega) (by omega) (by omega), lM_of h.2.1 (fun k _ => by rw [e _ (by omega) (by omega) (by omega) (by omega) (by omega) (by omega)]) fun a a1 a2 a3 a4 => e a (by omega) (by omega) (by omega) (by omega) (by omega) (by omega), h.2.2⟩
theorem li_far {x : Nat} {D : li_D} {mu : bs_Mm} (h : lS x D mu) (a b c : Int32) : ∃ r mu1 mu2, FX11_far x mu a b c = some (r, mu1) ∧ FX12_far (x + 159) mu1 a b c = some (r, mu2) ∧ lS x D mu2 := by
  obtain ⟨T, S, ⟨fc, FG⟩, ⟨rc, UR⟩, ⟨qn, QT, QJ, QP⟩, ⟨ST, pu, pb⟩, ⟨rn, V⟩⟩ := D
  have hF : cFG x fc FG mu := h.1.2.2.1
  have hG : mFG (x + 159) fc FG mu := h.2.1.2.2.1
  have h12 := hF.1
  rcases g_at_c fc (by omega) a with ha | ⟨j, hj, ha⟩
  · exact ⟨-1, mu, mu, sf_farN hF.2.1 ha b c, tf_farN hG.2.1 h12 ha b c, h⟩
  · subst ha
    have np := g_bn (hF.2.2 j hj).1
    have np30 : g_np (FG j) ≤ 30 := np.2.2.1
    rcases g_at_c (g_np (FG j)) (by omega) b with hb | ⟨p, hp, hb⟩
    · exact ⟨-1, mu, mu, sf_farB hF hj (Or.inl hb), tf_farB hG hj (Or.inl hb), h⟩
    · rcases g_at_c (g_np (FG j)) (by omega) c with hc | ⟨q, hq, hc⟩
      · exact ⟨-1, mu, mu, sf_farB hF hj (Or.inr ⟨⟨p, hp, hb⟩, hc⟩), tf_farB hG hj (Or.inr ⟨⟨p, hp, hb⟩, hc⟩), h⟩
      · subst hb hc
        obtain ⟨mu1, k1, k2⟩ := sf_farY hF hj hp hq
        have h1 := lS_c h fun a _ _ _ => k2 a (by omega)
        have hG1 : mFG (x + 159) fc FG mu1 := h1.2.1.2.2.1
        obtain ⟨mu2, k3, k4⟩ := tf_farY hG1 hj hp hq
        exact ⟨_, mu1, mu2, k1, k3, lS_m h1 fun a _ _ a3 _ _ _ => k4 a a3⟩
theorem li_span {x : Nat} {D : li_D} {mu : bs_Mm} (h : lS x D mu) (a : Int32) : ∃ r mu1 mu2, FX11_span x mu a = some (r, mu1) ∧ FX12_span (x + 159) mu1 a = some (r, mu2) ∧ lS x D mu2 := by
  obtain ⟨T, S, ⟨fc, FG⟩, ⟨rc, UR⟩, ⟨qn, QT, QJ, QP⟩, ⟨ST, pu, pb⟩, ⟨rn, V⟩⟩ := D
  have hF : cFG x fc FG mu := h.1.2.2.1
  have hG : mFG (x + 159) fc FG mu := h.2.1.2.2.1
  have h12 := hF.1
  rcases g_at_c fc (by omega) a with ha | ⟨j, hj, ha⟩
  · exact ⟨-1, mu, mu, sf_spanN hF.2.1 ha, tf_spanN hG.2.1 h12 ha, h⟩
  · subst ha
    obtain ⟨mu1, k1, k2⟩ := sf_spanY hF hj
    have h1 := lS_c h fun a _ _ _ => k2 a (by omega)
    have hG1 : mFG (x + 159) fc FG mu1 := h1.2.1.2.2.1
    obtain ⟨mu2, k3, k4⟩ := tf_spanY hG1 hj
    exact ⟨_, mu1, mu2, k1, k3, lS_m h1 fun a _ _ a3 _ _ _ => k4 a a3⟩
theorem li_strokes {x : Nat} {D : li_D} {mu : bs_Mm} (h : lS x D mu) (a : Int32) : ∃ r mu1, FX11_strokes x mu a = some (r, mu1) ∧ FX12_strokes (x + 159) mu1 a = some r ∧ lS x D mu1 := by
  obtain ⟨T, S, ⟨fc, FG⟩, ⟨rc, UR⟩, ⟨qn, QT, QJ, QP⟩, ⟨ST, pu, pb⟩, ⟨rn, V⟩⟩ := D
  have hF : cFG x fc FG mu := h.1.2.2.1
  have hG : mFG (x + 159) fc FG mu := h.2.1.2.2.1
  have h12 := hF.1
  rcases g_at_c fc (by omega) a with ha | ⟨j, hj, ha⟩
  · exact ⟨-1, mu, sf_strN hF.2.1 ha, tf_strN hG.2.1 h12 ha, h⟩
  · subst ha
    obtain ⟨mu1, k1, k2⟩ := sf_strY hF hj
    have h1 := lS_c h fun a _ a2 a3 => k2 a a2 a3
    have hG1 : mFG (x + 159) fc FG mu1 := h1.2.1.2.2.1
    exact ⟨_, mu1, k1, tf_strokes hG1 hj, h1⟩
theorem li_pop {x : Nat} {D : li_D} {mu : bs_Mm} (h : lS x D mu) (a b c : Int32) : ∃ r mu1, FX11_pop x mu a b c = some (r, mu1) ∧ FX12_pop (x + 159) mu1 a b c = some r ∧ lS x D mu1 := by
  obtain ⟨T, S, ⟨fc, FG⟩, ⟨rc, UR⟩, ⟨qn, QT, QJ, QP⟩, ⟨ST, pu, pb⟩, ⟨rn, V⟩⟩ := D
  have hF : cFG x fc FG mu := h.1.2.2.1
  have hG : mFG (x + 159) fc FG mu := h.2.1.2.2.1
  have h12 := hF.1
  have hD : ∀ k, k < fc → g_iv (FG k) ∧ ∀ b, b < g_nb (FG k) → g_so (FG k) b < S.1 := h.2.2.2.1
  rcases g_at_c fc (by omega) a with ha | ⟨j, hj, ha⟩
  · exact ⟨-1, mu, sf_popN hF.2.1 ha b c, tf_popN hG.2.1 h12 ha b c, h⟩
  · subst ha
    have np := g_bn (hF.2.2 j hj).1
    have nu24 : g_nu (FG j) ≤ 24 := np.2.1
    rcases g_at_c (g_nu (FG j)) (by omega) b with hb | ⟨p, hp, hb⟩
    · exact ⟨-1, mu, sf_popB hF hj hb c, tf_popB hG hj hb c, h⟩
    · subst hb
      obtain ⟨mu1, k1, k2⟩ := sf_popY hF hj hp c
      have h1 := lS_c h fun a _ a2 a3 => k2 a a2 a3
      have hG1 : mFG (x + 159) fc FG mu1 := h1.2.1.2.2.1
      exact ⟨_, mu1, k1, tf_popY hG1 hj (hD j hj).1.2.1 hp c, h1⟩
theorem li_many {x : Nat} {D : li_D} {mu : bs_Mm} (h : lS x D mu) (a b : Int32) : ∃ r, FX11_many x mu a b = some r ∧ FX12_many (x + 159) mu a b = some r := by
  obtain ⟨T, S, ⟨fc, FG⟩, ⟨rc, UR⟩, ⟨qn, QT, QJ, QP⟩, ⟨ST, pu, pb⟩, ⟨rn, V⟩⟩ := D
  have hF : cFG x fc FG mu := h.1.2.2.1
  have hG : mFG (x + 159) fc FG mu := h.2.1.2.2.1
  have h12 := hF.1
  rcases g_at_c fc (by omega) a with ha | ⟨j, hj, ha⟩
  · exact ⟨-1, sf_manyN hF.2.1 ha b, tf_manyN hG.2.1 h12 ha b⟩
  · subst ha
    exact ⟨_, sf_many hF hj b, tf_many hG hj b⟩
theorem li_count {x : Nat} {D : li_D} {mu : bs_Mm} (h : lS x D mu) (a : Int32) : ∃ r, FX11_count x mu a = some r ∧ FX12_count (x + 159) mu a = some r := by
  obtain ⟨T, S, ⟨fc, FG⟩, ⟨rc, UR⟩, ⟨qn, QT, QJ, QP⟩, ⟨ST, pu, pb⟩, ⟨rn, V⟩⟩ := D
  obtain ⟨⟨h1, h2, h3, h4, -, -, -, h8, -⟩, ⟨m1, m2, m3, m4, m5, -⟩, -⟩ := h
  exact ⟨_, sf_count h2.1 h3.2.1 h8.2.1 h1.1 h4.2.1 a, tf_count m2.1 m3.2.1 m5.2.1 m1.1 m4.2.1 a⟩
