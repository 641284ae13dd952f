/-! MADE, SET: the class's calls -/
def cSO (x sc : Nat) (LN JN : Nat → Nat) (mu : bs_Mm) : Prop := sc ≤ 6 ∧ bs_iv (mu (x + 1) 3) = nI sc ∧ ∀ k, k < sc → bs_iv (mu (x + 2) k) = nI (LN k) ∧ bs_iv (mu (x + 3) k) = nI (JN k) ∧ LN k ≤ 200 ∧ JN k ≤ 9
def mSO (m sc : Nat) (LN JN : Nat → Nat) (mu : bs_Mm) : Prop := sc ≤ 6 ∧ bs_iv (mu m 5) = nI sc ∧ ∀ k, k < sc → bs_iv (mu (m + 1) k) = nI (LN k) ∧ bs_iv (mu (m + 2) k) = nI (JN k) ∧ LN k ≤ 200 ∧ JN k ≤ 9
def cMK (x fc sc : Nat) (FG : Nat → bs_G) (LN JN : Nat → Nat) (mu : bs_Mm) : Prop := ∀ j, j < 12 → ∀ k, k < 6 → bs_iv (mu (x + 43) (6 * j + k)) = -2 ∨ (j < fc ∧ k < sc ∧ g_nu (FG j) ≤ 10 ∧ cKn x (6 * j + k) (g_ow (LN k) (JN k) (FG j)) (2 ^ g_nu (FG j) - 1) mu)
theorem cKn_of {x p L : Nat} {W : Nat → Prop} {mu mu' : bs_Mm} (h : cKn x p W L mu) (e : mu' (x + 43) p = mu (x + 43) p) (e2 : ∀ i, i < 10 → mu' (x + 44) (10 * p + i) = mu (x + 44) (10 * p + i)) : cKn x p W L mu' := by
  obtain ⟨h1, h2⟩ := h
  refine ⟨by rw [e]; exact h1, fun n hn hn2 i hi => ?_⟩
  rw [e] at hn
  rw [e2 i (by omega)]
  exact h2 n hn hn2 i hi
theorem sf_hasSN {x sc : Nat} {mu : bs_Mm} (hc : bs_iv (mu (x + 1) 3) = nI sc) {a : Int32} (ha : a < 0 ∨ nI sc ≤ a) : FX8_has x mu a = some 0 := by
  unfold FX8_has
  rw [hc]
  by_cases c : a < 0
  · rw [if_pos c]; rfl
  · rw [if_neg c, if_pos (ha.resolve_left c)]; rfl
theorem sf_hasSY {x sc k : Nat} {mu : bs_Mm} (hc : bs_iv (mu (x + 1) 3) = nI sc) (h : sc ≤ 6) (hk : k < sc) : FX8_has x mu (nI k) = some 1 := by
  unfold FX8_has
  rw [hc, if_neg (by rw [fn_lt0 (by omega)]; exact id), if_neg (fun h => by have := (nI_leI (by omega) (by omega)).mp h; omega)]
  rfl
theorem sf_madeN {x fc : Nat} {mu : bs_Mm} (hc : bs_iv (mu x 13) = nI fc) {a : Int32} (ha : a < 0 ∨ nI fc ≤ a) (k : Int32) : FX11_made x mu a k = some (-1, mu) := by
  unfold FX11_made
  rw [sf_figN hc ha]
  rfl
theorem sf_madeS {x fc j sc : Nat} {FG : Nat → bs_G} {mu : bs_Mm} (hF : cFG x fc FG mu) (hj : j < fc) (hc : bs_iv (mu (x + 1) 3) = nI sc) {k : Int32} (hk : k < 0 ∨ nI sc ≤ k) : FX11_made x mu (nI j) k = some (-1, mu) := by
  have hf := hF.1
  unfold FX11_made
  rw [sf_figY hF.2.1 hf hj, fg_bd_s, fg_oq_s, fg_isF_y (by omega), fg_gd_t, sf_hasSN hc hk]
  rfl
theorem sf_madeB {x fc j sc k : Nat} {FG : Nat → bs_G} {mu : bs_Mm} (hF : cFG x fc FG mu) (hj : j < fc) (hc : bs_iv (mu (x + 1) 3) = nI sc) (h6 : sc ≤ 6) (hk : k < sc) (hb : 10 < g_nu (FG j)) : FX11_made x mu (nI j) (nI k) = some (-1, mu) := by
  have hf := hF.1
  have hV := (hF.2.2 j hj).2
  have q0 := g_bn (hF.2.2 j hj).1
  unfold FX11_made
  rw [sf_figY hF.2.1 hf hj, fg_bd_s, fg_oq_s, fg_isF_y (by omega), fg_gd_t, sf_hasSY hc h6 hk, fg_bd_s, if_neg (by decide), hV.2.1, if_neg (fun h => by have := (nI_leI (by omega) (by omega)).mp h; omega)]
theorem sf_madeY {x fc j sc k : Nat} {FG : Nat → bs_G} {LN JN : Nat → Nat} {mu : bs_Mm} (hF : cFG x fc FG mu) (hj : j < fc) (hs : cSO x sc LN JN mu) (hk : k < sc) (hnu : g_nu (FG j) ≤ 10) (hM : cMK x fc sc FG LN JN mu) : ∃ a mu', FX11_made x mu (nI j) (nI k) = some (a, mu') ∧ kM (g_ow (LN k) (JN k) (FG j)) (2 ^ g_nu (FG j) - 1) a ∧ a = bs_iv (mu' (x + 43) (6 * j + k)) ∧ cKn x (6 * j + k) (g_ow (LN k) (JN k) (FG j)) (2 ^ g_nu (FG j) - 1) mu' ∧ (∀ c, (c < x + 37 ∨ x + 44 < c) → mu' c = mu c) ∧ cMK x fc sc FG LN JN mu' := by
  have hf := hF.1
  obtain ⟨s1, s2, s3⟩ := hs
  have s4 := s3 k hk
  have hV := (hF.2.2 j hj).2
  have hG := (hF.2.2 j hj).1
  have q0 := g_bn hG
  obtain ⟨a, mu', m1, m2, m3, m4, m5, m6⟩ := sf_fewF (j := j) (k := k) (show x + 63 ≤ x + 63 + 7 * j by omega) hV hG hnu (by omega) (by omega) s4.1 s4.2.1 s4.2.2.1 s4.2.2.2 (by
    rcases hM j (by omega) k (by omega) with h | h
    · exact Or.inl h
    · exact Or.inr h.2.2.2)
  refine ⟨a, mu', ?_, by rw [m2]; exact m3.1, m2, m3, m4, fun j' hj' k' hk' => ?_⟩
  · unfold FX11_made
    rw [sf_figY hF.2.1 hf hj, fg_bd_s, fg_oq_s, fg_isF_y (by omega), fg_gd_t, sf_hasSY s2 s1 hk, fg_bd_s, if_neg (by decide), hV.2.1, if_pos ((nI_leI (by omega) (by omega)).mpr hnu), m1]
    rfl
  · by_cases e : 6 * j' + k' = 6 * j + k
    · have e1 : j' = j := by omega
      have e2 : k' = k := by omega
      subst e1
      subst e2
      exact Or.inr ⟨hj, hk, hnu, m3⟩
    · rw [m5 _ e]
      rcases hM j' hj' k' hk' with h | h
      · exact Or.inl h
      · exact Or.inr ⟨h.1, h.2.1, h.2.2.1, cKn_of h.2.2.2 (m5 _ e) (fun i hi => m6 _ (by omega))⟩
/-- what set answers -/
def kS (W : Nat → Prop) (L : Nat) (p r : Int32) : Prop := (∃ n i T, g_e2 W L n ∧ n ≤ 10 ∧ i < n ∧ p = nI i ∧ r = nI T ∧ g_set W L i T) ∨ (r = -1 ∧ ∀ n i, g_e2 W L n → i < n → p ≠ nI i)
theorem kS_u {W : Nat → Prop} {L : Nat} {p a b : Int32} (h : kS W L p a) (h2 : kS W L p b) : a = b := by
  rcases h with ⟨n, i, T, h1, h3, h4, h5, h6, h7⟩ | ⟨h1, h3⟩ <;> rcases h2 with ⟨n', i', T', c1, c3, c4, c5, c6, c7⟩ | ⟨c1, c3⟩
  · have e := g_e2_u h1 c1
    subst e
    rw [h5] at c5
    have e := (nI_eq (by omega) (by omega)).mp c5
    subst e
    rw [h6, c6, g_set_u h7 c7]
  · exact absurd h5 (c3 n i h1 h4)
  · exact absurd c5 (h3 n' i' c1 c4)
  · rw [h1, c1]
theorem sf_setM {x : Nat} {mu mu' : bs_Mm} {j k : Int32} (h : FX11_made x mu j k = some (-1, mu')) (p : Int32) : FX11_set x mu j k p = some (-1, mu') := by
  unfold FX11_set
  rw [h, fg_b2_s]
  by_cases c : p < 0
  · rw [if_pos c]
  · rw [if_neg c, if_neg (fun h => c (Int32.lt_trans h (by decide)))]
theorem sf_setY {x j k : Nat} {W : Nat → Prop} {L : Nat} {a : Int32} {mu mu' : bs_Mm} (hj : j < 12) (hk : k < 6) (h : FX11_made x mu (nI j) (nI k) = some (a, mu')) (h1 : kM W L a) (h2 : a = bs_iv (mu' (x + 43) (6 * j + k))) (h3 : cKn x (6 * j + k) W L mu') (p : Int32) : ∃ r, FX11_set x mu (nI j) (nI k) p = some (r, mu') ∧ kS W L p r := by
  rcases h1 with ⟨n, e, h4, h5⟩ | ⟨e, h4⟩
  · subst e
    rcases fn_any p (show n < 2 ^ 31 by omega) with hp | ⟨i, hi, e⟩
    · refine ⟨-1, ?_, Or.inr ⟨rfl, fun n' i e1 e2 e3 => ?_⟩⟩
      · unfold FX11_set
        rw [h, fg_b2_s]
        by_cases c : p < 0
        · rw [if_pos c]
        · rw [if_neg c, if_neg (Int32.not_lt.mpr (hp.resolve_left c))]
      · have e := g_e2_u h4 e1
        subst e
        subst e3
        rcases hp with hp | hp
        · rw [fn_lt0 (by omega)] at hp
          exact hp
        · have := (nI_leI (by omega) (by omega)).mp hp
          omega
    · subst e
      obtain ⟨T, t1, t2⟩ := h3.2 n h2.symm h5 i hi
      refine ⟨nI T, ?_, Or.inl ⟨n, i, T, h4, h5, hi, rfl, rfl, t2⟩⟩
      unfold FX11_set FX3_setAt
      have c0 : ¬ nI i < (0 : Int32) := by rw [fn_lt0 (by omega)]; exact id
      rw [h, fg_b2_s, if_neg c0, if_pos ((nI_ltI (by omega) (by omega)).mpr hi), if_neg c0, if_pos ((nI_ltI (by omega) (by omega)).mpr (show i < 10 by omega)), fn_mul, fn_add, fn_mul, fn_add, show (j * 6 + k) * 10 + i = 10 * (6 * j + k) + i by omega, fn_in (show 10 * (6 * j + k) + i < 720 by omega) (by decide), fg_gd_t, fn_cl (show 10 * (6 * j + k) + i < 2 ^ 31 by omega), t1]
      rfl
  · subst e
    refine ⟨-1, sf_setM h p, Or.inr ⟨rfl, fun n i e1 _ _ => h4 n e1.1⟩⟩
