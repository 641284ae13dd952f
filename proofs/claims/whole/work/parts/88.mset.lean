/-! MADE, SET: the model's calls -/
theorem tf_isSN {m sc : Nat} {mu : bs_Mm} (hc : bs_iv (mu m 5) = nI sc) (h : sc ≤ 6) {a : Int32} (ha : a < 0 ∨ nI sc ≤ a) : FX12_isSort m mu a = some 0 := by
  unfold FX12_isSort
  rw [hc, tf_inN (by omega) ha]
  rfl
theorem tf_isSY {m sc k : Nat} {mu : bs_Mm} (hc : bs_iv (mu m 5) = nI sc) (h : sc ≤ 6) (hk : k < sc) : FX12_isSort m mu (nI k) = some 1 := by
  unfold FX12_isSort
  rw [hc, tf_inZ (by omega) hk]
  rfl
theorem tf_mayN {m fc : Nat} {mu : bs_Mm} (hc : bs_iv (mu m 20) = nI fc) (h : fc ≤ 12) {a : Int32} (ha : a < 0 ∨ nI fc ≤ a) (k : Int32) : FX12_mayBeMade m mu a k = some (nI 0, mu) := by
  unfold FX12_mayBeMade
  rw [tf_figN hc h ha, fg_bd_s, if_pos rfl]
theorem tf_mayS {m fc j sc : Nat} {mu : bs_Mm} (hc : bs_iv (mu m 20) = nI fc) (h : fc ≤ 12) (hj : j < fc) (hs : bs_iv (mu m 5) = nI sc) (h6 : sc ≤ 6) {k : Int32} (hk : k < 0 ∨ nI sc ≤ k) : FX12_mayBeMade m mu (nI j) k = some (nI 0, mu) := by
  unfold FX12_mayBeMade
  rw [tf_figY hc h hj, fg_bd_s, if_neg (by decide), tf_isSN hs h6 hk, fg_bd_s, if_pos rfl]
theorem tf_mayB {m fc j sc k : Nat} {FG : Nat → bs_G} {mu : bs_Mm} (hF : mFG m fc FG mu) (hj : j < fc) (hs : bs_iv (mu m 5) = nI sc) (h6 : sc ≤ 6) (hk : k < sc) (hb : 10 < g_nu (FG j)) : FX12_mayBeMade m mu (nI j) (nI k) = some (nI 0, mu) := by
  have hf := hF.1
  have hV := (hF.2.2 j hj).2
  have q0 := g_bn (hF.2.2 j hj).1
  unfold FX12_mayBeMade
  rw [tf_figY hF.2.1 hf hj, fg_bd_s, if_neg (by decide), tf_isSY hs h6 hk, fg_bd_s, if_neg (by decide), fn_in (show j < 13 by omega) (by decide), fg_gd_t, fn_cl (show j < 2 ^ 31 by omega), hV.2.1, if_neg (fun h => by have := (nI_leI (by omega) (by omega)).mp h; omega)]
theorem tf_mayY {m fc j sc k : Nat} {FG : Nat → bs_G} {LN JN : Nat → Nat} {mu : bs_Mm} (hF : mFG m fc FG mu) (hj : j < fc) (hs : mSO m sc LN JN mu) (hk : k < sc) (hnu : g_nu (FG j) ≤ 10) : ∃ v mu', FX12_mayBeMade m mu (nI j) (nI k) = some (nI (if v < 1000000 then 1 else 0), mu') ∧ (∀ a, a ≠ m + 25 → a ≠ m + 26 → mu' a = mu a) ∧ mTB m (2 ^ g_nu (FG j)) (g_ow (LN k) (JN k) (FG j)) mu' ∧ bs_iv (mu' (m + 25) (2 ^ g_nu (FG j) - 1)) = nI v ∧ g_fw (g_ow (LN k) (JN k) (FG j)) 1000000 (2 ^ g_nu (FG j) - 1) v := by
  have hf := hF.1
  obtain ⟨s1, s2, s3⟩ := hs
  have s4 := s3 k hk
  have hV := (hF.2.2 j hj).2
  have hG := (hF.2.2 j hj).1
  have q0 := g_bn hG
  have q1 : 2 ^ g_nu (FG j) ≤ 2 ^ 10 := Nat.pow_le_pow_right (by decide) hnu
  have q2 := Nat.one_le_two_pow (n := g_nu (FG j))
  obtain ⟨mu1, m1, m2, m3⟩ := tf_find hV (show j < 13 by omega) hG (show k < 6 by omega) s4.1 s4.2.1 s4.2.2.1 s4.2.2.2 hnu
  have hV1 : mFv m j (FG j) mu1 := mFv_of2 hV (fun c hc => m2 _ (by omega) (by omega))
  obtain ⟨v, v1, v2⟩ := m3.1 (2 ^ g_nu (FG j) - 1) (by omega)
  have vl := g_fw_le v2
  refine ⟨v, mu1, ?_, m2, m3, v1, v2⟩
  unfold FX12_mayBeMade
  rw [tf_figY hF.2.1 hf hj, fg_bd_s, if_neg (by decide), tf_isSY s2 s1 hk, fg_bd_s, if_neg (by decide), fn_in (show j < 13 by omega) (by decide), fg_gd_t, fn_cl (show j < 2 ^ 31 by omega), hV.2.1, if_pos ((nI_leI (by omega) (by omega)).mpr hnu), m1, fg_bd_s, tf_all hV1 (by omega) hG, fg_bd_s, fn_in (show 2 ^ g_nu (FG j) - 1 < 1024 by omega) (by decide), fg_gd_t, fn_cl (show 2 ^ g_nu (FG j) - 1 < 2 ^ 31 by omega), v1, show (1000000 : Int32) = nI 1000000 from rfl]
  by_cases l : v < 1000000
  · rw [if_pos l, if_neg (fun h => by have := (nI_leI (by omega) (by omega)).mp h; omega)]
  · rw [if_neg l, if_pos ((nI_leI (by omega) (by omega)).mpr (by omega))]
theorem tf_madeM {m : Nat} {mu : bs_Mm} {j k : Int32} (h : FX12_mayBeMade m mu j k = some (nI 0, mu)) : FX12_made m mu j k = some (-1, mu) ∧ ∀ p, FX12_set m mu j k p = some (-1, mu) := by
  refine ⟨?_, fun p => ?_⟩
  · unfold FX12_made
    rw [h, fg_b2_s, if_pos (show nI 0 = (0 : Int32) from rfl)]
  · unfold FX12_set
    rw [h, fg_b2_s, if_pos (show nI 0 = (0 : Int32) from rfl)]
theorem tf_madeY {m fc j sc k : Nat} {FG : Nat → bs_G} {LN JN : Nat → Nat} {mu : bs_Mm} (hF : mFG m fc FG mu) (hj : j < fc) (hs : mSO m sc LN JN mu) (hk : k < sc) (hnu : g_nu (FG j) ≤ 10) : ∃ a mu', FX12_made m mu (nI j) (nI k) = some (a, mu') ∧ kM (g_ow (LN k) (JN k) (FG j)) (2 ^ g_nu (FG j) - 1) a ∧ ∀ c, c ≠ m + 25 → c ≠ m + 26 → mu' c = mu c := by
  have hf := hF.1
  have hV := (hF.2.2 j hj).2
  have hG := (hF.2.2 j hj).1
  have q0 := g_bn hG
  have q1 : 2 ^ g_nu (FG j) ≤ 2 ^ 10 := Nat.pow_le_pow_right (by decide) hnu
  have q2 := Nat.one_le_two_pow (n := g_nu (FG j))
  obtain ⟨v, mu1, m1, m2, m3, m4, m5⟩ := tf_mayY hF hj hs hk hnu
  have hV1 : mFv m j (FG j) mu1 := mFv_of2 hV (fun c hc => m2 _ (by omega) (by omega))
  unfold FX12_made
  rw [m1, fg_b2_s]
  by_cases l : v < 1000000
  · have e2 := (g_fw_e m5 l).mp rfl
    have := g_cut_n (n := g_nu (FG j)) (by omega) e2.1
    rw [if_pos l, if_neg (by decide), tf_all hV1 (by omega) hG, fg_bd_s, fn_in (show 2 ^ g_nu (FG j) - 1 < 1024 by omega) (by decide), fg_gd_t, fn_cl (show 2 ^ g_nu (FG j) - 1 < 2 ^ 31 by omega), m4]
    exact ⟨nI v, mu1, rfl, Or.inl ⟨v, rfl, e2, by omega⟩, m2⟩
  · rw [if_neg l, if_pos (show nI 0 = (0 : Int32) from rfl)]
    refine ⟨-1, mu1, rfl, Or.inr ⟨rfl, ?_⟩, m2⟩
    rcases m5 with h | h
    · exact absurd h.2.1 l
    · exact h.2
theorem tf_lowT {m L b v T : Nat} {W : Nat → Prop} {mu : bs_Mm} (hL : L < 1024) (hb : g_lw L b) (hv : g_e2 W L (v + 1)) (hv2 : v + 1 < 1000000) (hp : g_pick W b L v T) (hA : ∀ R, R ≤ L → ∃ w, bs_iv (mu (m + 25) R) = nI w ∧ g_fw W 1000000 R w) (hB : ∀ T, T ≤ L → T ≠ 0 → (bs_iv (mu (m + 26) T) = nI 1 ∧ W T) ∨ (bs_iv (mu (m + 26) T) = nI 0 ∧ ¬ W T)) (l1 l2 l3 l5 : Int32) : fg_lp (FX12_set_b59_L41 m mu l1 l2 l3 (nI L) l5 (nI L &&& (-(nI L)))) fg_fu (nI L &&& (-(nI L))) = some (nI T) := by
  obtain ⟨b', b1, b2, b3⟩ := g_low (R := L) (g_nz0 hb.1) (by omega)
  have e := g_low_u hb.1 hb.2 b1 b2
  subst e
  have tl : T ≤ L := Nat.le_of_testBit hp.1.2.1
  have t0 : 2 ^ b ≤ T := Nat.ge_two_pow_of_testBit hp.1.1
  obtain ⟨wL, wL1, wL2⟩ := hA L (Nat.le_refl _)
  have wLe := (g_fw_e wL2 hv2).mpr hv
  subst wLe
  have test : ∀ U, U ≤ L → 2 ^ b ≤ U → FX12_set_b59_L41 m mu l1 l2 l3 (nI L) l5 (nI (2 ^ b)) (nI U) = some (.inl (nI (U + 1))) ∧ ¬ g_q W b L v U ∨ FX12_set_b59_L41 m mu l1 l2 l3 (nI L) l5 (nI (2 ^ b)) (nI U) = some (.inr (nI U)) ∧ g_q W b L v U := by
    intro U hU h2
    have uz : U ≠ 0 := by have := Nat.two_pow_pos b; omega
    unfold FX12_set_b59_L41
    by_cases c2 : g_sub U L
    · have n2 : nI U &&& (nI L ^^^ (-1)) = 0 := by rw [fn_sub0 (by omega)]; exact c2
      rw [if_pos n2, fa_and]
      by_cases c1 : U.testBit b = true
      · have n1 : ¬ nI (U &&& 2 ^ b) = (0 : Int32) := by rw [fn_bit0 (by omega), c1]; decide
        have dl := g_dif_lt c2 c1
        obtain ⟨w, w1, w2⟩ := hA (L ^^^ U) (by omega)
        have wl := g_fw_le w2
        rw [if_neg n1, fn_in (show U < 1024 by omega) (by decide), fg_gd_t, fn_cl (show U < 2 ^ 31 by omega)]
        rcases hB U hU uz with ⟨r1, r2⟩ | ⟨r1, r2⟩
        · rw [r1, if_neg (by decide), fn_not, fa_and, g_mi_x (by omega) c2, fn_in (show L ^^^ U < 1024 by omega) (by decide), fg_gd_t, fn_in hL (by decide), fg_gd_t, fn_cl (show L ^^^ U < 2 ^ 31 by omega), fn_cl (show L < 2 ^ 31 by omega), w1, wL1, fn_add]
          by_cases q : w = v
          · subst q
            rw [if_pos (by rw [Nat.add_comm])]
            exact Or.inr ⟨rfl, c1, c2, r2, (g_fw_e w2 (by omega)).mp rfl⟩
          · rw [if_neg (fun h => q (by have := (nI_eq (by omega) (by omega)).mp h; omega)), fn_add]
            exact Or.inl ⟨rfl, fun h => q ((g_fw_e w2 (by omega)).mpr h.2.2.2)⟩
        · rw [r1, if_pos (by decide), fn_add]
          exact Or.inl ⟨rfl, fun h => r2 h.2.2.1⟩
      · have c1' : U.testBit b = false := by
          cases d : U.testBit b with
          | true => exact absurd d c1
          | false => rfl
        have n1 : nI (U &&& 2 ^ b) = (0 : Int32) := by rw [fn_bit0 (by omega)]; exact c1'
        rw [if_pos n1, fn_add]
        exact Or.inl ⟨rfl, fun h => c1 h.1⟩
    · have n2 : ¬ nI U &&& (nI L ^^^ (-1)) = 0 := by rw [fn_sub0 (by omega)]; exact c2
      rw [if_neg n2, fn_add]
      exact Or.inl ⟨rfl, fun h => c2 h.2.1⟩
  have p0 := Nat.two_pow_pos b
  have p1 := Nat.sub_le T (2 ^ b)
  rw [b3]
  refine fg_lp_n (fun i => nI (2 ^ b + i)) (nI T) (T - 2 ^ b) (by rfl) (fun i hi => ?_) ?_ (fg_fu_lt (by omega))
  · rcases test (2 ^ b + i) (by omega) (by omega) with h | h
    · exact h.1
    · exact absurd h.2 (hp.2 _ (by omega))
  · show FX12_set_b59_L41 m mu l1 l2 l3 (nI L) l5 (nI (2 ^ b)) (nI (2 ^ b + (T - 2 ^ b))) = _
    rw [show 2 ^ b + (T - 2 ^ b) = T by omega]
    rcases test T tl t0 with h | h
    · exact absurd hp.1 h.2
    · exact h.1
theorem tf_setY {m fc j sc k : Nat} {FG : Nat → bs_G} {LN JN : Nat → Nat} {mu : bs_Mm} (hF : mFG m fc FG mu) (hj : j < fc) (hs : mSO m sc LN JN mu) (hk : k < sc) (hnu : g_nu (FG j) ≤ 10) (p : Int32) : ∃ r mu', FX12_set m mu (nI j) (nI k) p = some (r, mu') ∧ kS (g_ow (LN k) (JN k) (FG j)) (2 ^ g_nu (FG j) - 1) p r ∧ ∀ c, c ≠ m + 25 → c ≠ m + 26 → mu' c = mu c := by
  have hf := hF.1
  have hV := (hF.2.2 j hj).2
  have hG := (hF.2.2 j hj).1
  have q0 := g_bn hG
  have q1 : 2 ^ g_nu (FG j) ≤ 2 ^ 10 := Nat.pow_le_pow_right (by decide) hnu
  have q2 := Nat.one_le_two_pow (n := g_nu (FG j))
  obtain ⟨v, mu1, m1, m2, m3, m4, m5⟩ := tf_mayY hF hj hs hk hnu
  have hV1 : mFv m j (FG j) mu1 := mFv_of2 hV (fun c hc => m2 _ (by omega) (by omega))
  unfold FX12_set
  rw [m1, fg_b2_s]
  by_cases l : v < 1000000
  · have e2 := (g_fw_e m5 l).mp rfl
    have vn := g_cut_n (n := g_nu (FG j)) (by omega) e2.1
    rw [if_pos l, if_neg (by decide), tf_all hV1 (by omega) hG, fg_bd_s, fn_in (show 2 ^ g_nu (FG j) - 1 < 1024 by omega) (by decide), fg_gd_t, fn_cl (show 2 ^ g_nu (FG j) - 1 < 2 ^ 31 by omega), m4]
    rcases fn_any p (show v < 2 ^ 31 by omega) with hp | ⟨i0, hi, e⟩
    · rw [tf_inN (by omega) hp, fg_bd_s, if_pos rfl]
      refine ⟨-1, mu1, rfl, Or.inr ⟨rfl, fun n' i e1 e2' e3 => ?_⟩, m2⟩
      have e := g_e2_u e2 e1
      subst e
      subst e3
      rcases hp with hp | hp
      · rw [fn_lt0 (by omega)] at hp
        exact hp
      · have := (nI_leI (by omega) (by omega)).mp hp
        omega
    · subst e
      rw [tf_inZ (by omega) hi, fg_bd_s, if_neg (by decide), fg_bd_s]
      refine Exists.elim (fg_lp_i (body := FX12_set_b41 m mu1 (nI j) (nI k) (nI i0)) (fun r s => ∃ i R, s = (nI R, nI i) ∧ i + r = i0 ∧ g_sq (g_ow (LN k) (JN k) (FG j)) (2 ^ g_nu (FG j) - 1) i R ∧ g_e2 (g_ow (LN k) (JN k) (FG j)) R (v - i) ∧ g_sub R (2 ^ g_nu (FG j) - 1)) (fun t => ∃ T, t = .inr (nI T, mu1) ∧ g_set (g_ow (LN k) (JN k) (FG j)) (2 ^ g_nu (FG j) - 1) i0 T) (fun r s hI => ?_) fg_fu i0 (nI (2 ^ g_nu (FG j) - 1), nI 0) ⟨0, _, rfl, by omega, rfl, e2, g_sub_rfl _⟩ (fg_fu_lt (by omega))) (fun t ht => ?_)
      · obtain ⟨i, R, e1, hr, s1, s2, s3⟩ := hI
        subst e1
        have rl : R ≤ 2 ^ g_nu (FG j) - 1 := Nat.le_of_testBit s3
        have z : R ≠ 0 := by
          intro e
          subst e
          have := g_e2_z s2
          omega
        obtain ⟨b, hb⟩ := g_lw_ex z
        have e2 : g_e2 (g_ow (LN k) (JN k) (FG j)) R ((v - (i + 1)) + 1) := by rw [show v - (i + 1) + 1 = v - i by omega]; exact s2
        obtain ⟨T, hT⟩ := g_pick_ex hb e2
        have tl : T ≤ R := Nat.le_of_testBit hT.1.2.1
        have low := tf_lowT (m := m) (mu := mu1) (show R < 1024 by omega) hb e2 (by omega) hT (fun R' hR => m3.1 R' (by omega)) (fun T' h1 h2 => m3.2 T' (by omega) h2) (nI j) (nI k) (nI i0) (nI i)
        have nlt : ¬ nI i0 < nI i := fun h => by have := (nI_ltI (by omega) (by omega)).mp h; omega
        by_cases e : i = i0
        · subst e
          refine Or.inr ⟨.inr (nI T, mu1), ?_, T, rfl, R, b, _, s1, hb, e2, hT⟩
          unfold FX12_set_b41
          rw [if_neg nlt, low, fg_bd_s, if_pos rfl]
        · refine Or.inl ⟨(nI (R ^^^ T), nI (i + 1)), r - 1, ?_, by omega, i + 1, R ^^^ T, rfl, by omega, ⟨R, b, _, T, s1, hb, e2, hT, rfl⟩, hT.1.2.2.2, g_sub_tr (g_dif_s hT.1.2.1) s3⟩
          unfold FX12_set_b41
          rw [if_neg nlt, low, fg_bd_s, if_neg (fun h => e ((nI_eq (by omega) (by omega)).mp h))]
          simp only []
          rw [fn_not, fa_and, g_mi_x (by omega) hT.1.2.1, fn_add]
      · obtain ⟨t1, T, t2, t3⟩ := ht
        subst t2
        rw [t1]
        exact ⟨nI T, mu1, rfl, Or.inl ⟨v, i0, T, e2, by omega, hi, rfl, rfl, t3⟩, m2⟩
  · rw [if_neg l, if_pos (show nI 0 = (0 : Int32) from rfl)]
    have no : ∀ n, ¬ g_cut (g_ow (LN k) (JN k) (FG j)) n (2 ^ g_nu (FG j) - 1) := by
      rcases m5 with h | h
      · exact absurd h.2.1 l
      · exact h.2
    exact ⟨-1, mu1, rfl, Or.inr ⟨rfl, fun n i e1 _ _ => no n e1.1⟩, m2⟩
