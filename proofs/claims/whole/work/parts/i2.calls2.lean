/-! THE CALLS (own): weakest, twice, alike, match -/
theorem kT_b {G : bs_G} {l : Nat} (hG : g_ok G) (h : kT G l) : l ≤ 1000000 := by
  have q1 : g_nu G ≤ 24 := (g_bn hG).2.1
  rcases h.1 with e | ⟨T, t1, t2, t3, t4⟩
  · omega
  · have := g_wt_le hG T (g_nu G) (Nat.le_refl _)
    omega
theorem kTw_u {G : bs_G} {a b : Int32} (hG : g_ok G) (h : kTw G a) (k : kTw G b) : a = b := by
  rcases h with ⟨h1, h2⟩ | ⟨h1, h2, h3⟩
  · rcases k with ⟨_, k2⟩ | ⟨k1, k2, _⟩
    · rw [h2, k2]
    · omega
  · rcases k with ⟨k1, _⟩ | ⟨_, _, k3⟩
    · omega
    · rcases h3 with ⟨h3, h4⟩ | ⟨h3, l, h4, h5⟩
      · rcases k3 with ⟨_, k4⟩ | ⟨k3, _⟩
        · rw [h4, k4]
        · omega
      · rcases k3 with ⟨k3, _⟩ | ⟨_, l2, k4, k5⟩
        · omega
        · rw [h4, k4, kT_u (kT_b hG h5) (kT_b hG k5) h5 k5]
theorem li_weakest {x : Nat} {D : li_D} {mu : bs_Mm} (h : lS x D mu) (a : Int32) : ∃ r mu1, FX11_weakest x mu a = some (r, mu1) ∧ FX12_weakest (x + 159) mu1 a = some r ∧ lS x D mu1 := by
  obtain ⟨T, S, ⟨fc, FG⟩, ⟨rc, UR⟩, ⟨qn, QT, QJ, QP⟩, ⟨ST, pu, pb⟩, ⟨rn, V⟩⟩ := D
  have hF : cFG x fc FG mu := h.1.2.2.1
  have hG : mFG (x + 159) fc FG mu := h.2.1.2.2.1
  have h12 := hF.1
  have hD : ∀ k, k < fc → g_iv (FG k) ∧ ∀ b, b < g_nb (FG k) → g_so (FG k) b < S.1 := h.2.2.2.1
  rcases g_at_c fc (by omega) a with ha | ⟨j, hj, ha⟩
  · exact ⟨-1, mu, sf_weakN hF.2.1 ha, tf_weakN hG.2.1 h12 ha, h⟩
  · subst ha
    obtain ⟨mu1, k1, k2⟩ := sf_weakY hF hj
    have h1 := lS_c h fun a _ a2 _ => k2 a a2
    have hG1 : mFG (x + 159) fc FG mu1 := h1.2.1.2.2.1
    exact ⟨_, mu1, k1, tf_weak hG1 hj (hD j hj).1.2.1, h1⟩
theorem li_twice {x : Nat} {D : li_D} {mu : bs_Mm} (h : lS x D mu) (a : Int32) : ∃ r mu1 mu2, FX11_twice x mu a = some (r, mu1) ∧ FX12_twice (x + 159) mu1 a = some (r, mu2) ∧ lS x D mu2 := by
  obtain ⟨T, S, ⟨fc, FG⟩, ⟨rc, UR⟩, ⟨qn, QT, QJ, QP⟩, ⟨ST, pu, pb⟩, ⟨rn, V⟩⟩ := D
  have hF : cFG x fc FG mu := h.1.2.2.1
  have hG : mFG (x + 159) fc FG mu := h.2.1.2.2.1
  have h12 := hF.1
  rcases g_at_c fc (by omega) a with ha | ⟨j, hj, ha⟩
  · exact ⟨-1, mu, mu, sf_twN hF.2.1 ha, tf_twN hG.2.1 h12 ha, h⟩
  · subst ha
    obtain ⟨r, mu1, k1, k2, k3⟩ := sf_twY hF hj
    have h1 := lS_c h fun a _ a2 a3 => k3 a a2 a3
    have hG1 : mFG (x + 159) fc FG mu1 := h1.2.1.2.2.1
    obtain ⟨r2, mu2, k4, k5, k6⟩ := tf_twY hG1 hj
    rw [← kTw_u (hF.2.2 j hj).1 k2 k5] at k4
    exact ⟨r, mu1, mu2, k1, k4, lS_m h1 fun a _ _ a3 _ _ a6 => k6 a a3 a6⟩
/-- the class's cells 30 .. 35 change, what is kept of the latest two stands -/
theorem lS_t {x fc rc qn rn : Nat} {T : bs_Ta} {S : bs_So} {FG : Nat → bs_G} {UR : Nat → bs_U} {QT QJ QP ST : Nat → Nat} {pu pb : Int32} {V : Nat → Nat → Int32} {mu mu1 : bs_Mm} (h : lS x (T, S, (fc, FG), (rc, UR), (qn, QT, QJ, QP), (ST, pu, pb), (rn, V)) mu) (hM : cMT x fc FG mu1) (e : ∀ a, a ≠ x + 30 → a ≠ x + 31 → a ≠ x + 32 → a ≠ x + 33 → a ≠ x + 34 → a ≠ x + 35 → mu1 a = mu a) : lS x (T, S, (fc, FG), (rc, UR), (qn, QT, QJ, QP), (ST, pu, pb), (rn, V)) mu1 := by
  obtain ⟨⟨h1, h2, h3, h4, h5, h6, h7, h8, h9, h10⟩, hm, hd⟩ := h
  have f : ∀ a, (a < x + 30 ∨ x + 35 < a) → mu1 a = mu a := fun a ha => e a (by omega) (by omega) (by omega) (by omega) (by omega) (by omega)
  exact ⟨⟨cT_of h1 (f _ (by omega)) (f _ (by omega)), cSo_of h2 (f _ (by omega)) (f _ (by omega)) (f _ (by omega)) (f _ (by omega)), cFG_ofI h3 (f _ (by omega)) fun a a1 a2 => f a (by omega), cUR_ofI h4 (f _ (by omega)) fun a a1 a2 => f a (by omega), cMK_ofI h5 (f _ (by omega)) (f _ (by omega)), hM, cAG_of h7 (f _ (by omega)) (f _ (by omega)) (f _ (by omega)), cQU_ofI h8 (f _ (by omega)) (f _ (by omega)) (f _ (by omega)) (f _ (by omega)), cSK_ofI h9 (f _ (by omega)) (f _ (by omega)), cGU_ofI h10 (f _ (by omega)) fun k hk => f _ (by omega)⟩, lM_of hm (fun k _ => by rw [f _ (by omega)]) fun a a1 a2 a3 a4 => f a (by omega), hd⟩
theorem li_alike {x : Nat} {D : li_D} {mu : bs_Mm} (h : lS x D mu) (a b : Int32) : ∃ r mu1 mu2, FX11_alike x mu a b = some (r, mu1) ∧ FX12_alike (x + 159) mu1 a b = some (r, mu2) ∧ lS x D mu2 := by
  obtain ⟨T, S, ⟨fc, FG⟩, ⟨rc, UR⟩, ⟨qn, QT, QJ, QP⟩, ⟨ST, pu, pb⟩, ⟨rn, V⟩⟩ := D
  have hF : cFG x fc FG mu := h.1.2.2.1
  have hG : mFG (x + 159) fc FG mu := h.2.1.2.2.1
  have hM : cMT x fc FG mu := h.1.2.2.2.2.2.1
  have h12 := hF.1
  rcases g_at_c fc (by omega) a with ha | ⟨i, hi, ha⟩
  · exact ⟨-1, mu, mu, sf_alN hF (Or.inl ha), tf_alN hG (Or.inl ha), h⟩
  · rcases g_at_c fc (by omega) b with hb | ⟨j, hj, hb⟩
    · exact ⟨-1, mu, mu, sf_alN hF (Or.inr ⟨⟨i, hi, ha⟩, hb⟩), tf_alN hG (Or.inr ⟨⟨i, hi, ha⟩, hb⟩), h⟩
    · subst ha hb
      obtain ⟨r, mu1, k1, k2, k3, k4⟩ := sf_alY hF hi hj hM
      have h1 := lS_t h k3 k4
      have hG1 : mFG (x + 159) fc FG mu1 := h1.2.1.2.2.1
      obtain ⟨r2, mu2, k5, k6, k7⟩ := tf_alY hG1 hi hj
      rw [← kAl_u k2 k6] at k5
      exact ⟨r, mu1, mu2, k1, k5, lS_m h1 fun a _ a2 _ _ _ _ => k7 a a2⟩
theorem li_match {x : Nat} {D : li_D} {mu : bs_Mm} (h : lS x D mu) (a b p : Int32) : ∃ r mu1 mu2, FX11_match x mu a b p = some (r, mu1) ∧ FX12_match (x + 159) mu1 a b p = some (r, mu2) ∧ lS x D mu2 := by
  obtain ⟨T, S, ⟨fc, FG⟩, ⟨rc, UR⟩, ⟨qn, QT, QJ, QP⟩, ⟨ST, pu, pb⟩, ⟨rn, V⟩⟩ := D
  have hF : cFG x fc FG mu := h.1.2.2.1
  have hG : mFG (x + 159) fc FG mu := h.2.1.2.2.1
  have hM : cMT x fc FG mu := h.1.2.2.2.2.2.1
  have h12 := hF.1
  rcases g_at_c fc (by omega) a with ha | ⟨i, hi, ha⟩
  · exact ⟨-1, mu, mu, sf_maN hF p (Or.inl ha), tf_maN hG p (Or.inl ha), h⟩
  · rcases g_at_c fc (by omega) b with hb | ⟨j, hj, hb⟩
    · exact ⟨-1, mu, mu, sf_maN hF p (Or.inr ⟨⟨i, hi, ha⟩, hb⟩), tf_maN hG p (Or.inr ⟨⟨i, hi, ha⟩, hb⟩), h⟩
    · subst ha hb
      obtain ⟨r, mu1, k1, k2, k3, k4⟩ := sf_maY hF hi hj hM p
      have h1 := lS_t h k3 k4
      have hG1 : mFG (x + 159) fc FG mu1 := h1.2.1.2.2.1
      obtain ⟨r2, mu2, k5, k6, k7⟩ := tf_maY hG1 hi hj p
      rw [← kMa_u k2 k6] at k5
      exact ⟨r, mu1, mu2, k1, k5, lS_m h1 fun a _ a2 _ _ _ _ => k7 a a2⟩
