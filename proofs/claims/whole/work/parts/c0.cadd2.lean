/-! ADDED of the class (own), its calls -/
set_option maxHeartbeats 1000000 in
theorem sf_join {x f p1 p2 P Q : Nat} {mu : bs_Mm} {A B : bs_G} (hA : g_iv A) (hB : g_iv B) (hP : P < g_np A) (hQ : Q < g_np B) (h24 : g_nu A + g_nu B ≤ 24) (h6 : g_nb A + g_nb B ≤ 6) (d1 : f + 6 < p1 ∨ p1 + 6 < f) (d2 : f + 6 < p2 ∨ p2 + 6 < f) (hVA : cFv p1 A mu) (hVB : cFv p2 B mu) : ∃ mu', FX1_joinTwo x f mu p1 p2 (nI P) (nI Q) = some mu' ∧ cFv f (ad_T A B P Q) mu' ∧ ∀ a, (a < f ∨ f + 6 < a) → mu' a = mu a := by
  have a0 := g_bn hA.1
  have b0 := g_bn hB.1
  have a3 := hA.2.2.1
  have b3 := hB.2.2.1
  obtain ⟨mu2, c1, c2, -, c4⟩ := sf_clear (x := x) (f := f) (mu := mu)
  have VA2 : cFv p1 A mu2 := cFv_of hVA fun k hk => by rw [c4 _ (by omega) (by omega)]
  have VB2 : cFv p2 B mu2 := cFv_of hVB fun k hk => by rw [c4 _ (by omega) (by omega)]
  obtain ⟨m3, hm3⟩ : ∃ y, y = bs_up mu2 f 8 (.int (nI (g_np A + g_np B - 1))) := ⟨_, rfl⟩
  have f3 : ∀ a, (a < f ∨ f + 6 < a) → m3 a = mu2 a := fun a ha => by rw [hm3, bs_up_f (by omega)]
  have V3 : cFv f (g_pq (ad_T A B P Q) 0 0) m3 := by
    rw [hm3]
    exact cFv_cg (G := g_em (g_np A + g_np B - 1)) (c2 _ (by omega)) rfl (fun j hj => absurd hj (Nat.not_lt_zero j)) (fun j hj => absurd hj (Nat.not_lt_zero j)) (fun j hj => absurd hj (Nat.not_lt_zero j)) (fun j hj => absurd hj (Nat.not_lt_zero j)) fun j hj => absurd hj (Nat.not_lt_zero j)
  have VA3 : cFv p1 A m3 := cFv_of VA2 fun k hk => f3 _ (by omega)
  have VB3 : cFv p2 B m3 := cFv_of VB2 fun k hk => f3 _ (by omega)
  obtain ⟨m4, e1, e2, e3⟩ := sf_joA (x := x) hA hB hP hQ h24 h6 d1 d2 VA3 VB3 V3
  have VA4 : cFv p1 A m4 := cFv_of VA3 fun k hk => e3 _ (by omega)
  have VB4 : cFv p2 B m4 := cFv_of VB3 fun k hk => e3 _ (by omega)
  obtain ⟨m5, k1, k2, k3⟩ := sf_joB (x := x) hA hB hP hQ h24 h6 d1 d2 VA4 VB4 e2
  refine ⟨m5, ?_, k2, fun a ha => by rw [k3 a ha, e3 a ha, f3 a ha, c4 a (by omega) (by omega)]⟩
  unfold FX1_joinTwo
  rw [c1, fg_bd_s, VA2.2.2.1, VB2.2.2.1, fn_add, fn_sub (by omega), fg_wr_s, ← hm3, e1, fg_bd_s, k1, fg_bd_s]
theorem sf_addN {x fc : Nat} {FG : Nat → bs_G} {mu : bs_Mm} (hF : cFG x fc FG mu) {a b c d : Int32} (h : ¬ ad_may fc FG a b c d) : FX11_add x mu a b c d = some (-1, mu) := by
  have hc := hF.2.1
  have h12 := hF.1
  have free : FX11_freeFigure x mu = some none ∨ ∃ k, k < 12 ∧ FX11_freeFigure x mu = some (some (x + 63 + 7 * k)) := by
    by_cases y : fc < 12
    · exact Or.inr ⟨fc, y, sf_freeY hc y⟩
    · have : fc = 12 := by omega
      subst this
      exact Or.inl (sf_freeN hc)
  unfold FX11_add
  rcases fn_any a (show fc < 2 ^ 31 by omega) with ha | ⟨i, hi, ha⟩
  · rw [sf_figN hc ha, fg_bd_s, fg_oq_n]
    rcases fn_any b (show fc < 2 ^ 31 by omega) with hb | ⟨j, hj, hb⟩
    · rw [sf_figN hc hb, fg_bd_s, fg_oq_n]
      rcases free with e | ⟨k, hk, e⟩
      · rw [e, fg_bd_s, fg_oq_n]
      · rw [e, fg_bd_s, fg_oq_s, fg_isF_y hk, fg_gd_t]
    · subst hb
      rw [sf_figY hc h12 hj, fg_bd_s, fg_oq_s, fg_isF_y (by omega), fg_gd_t]
      rcases free with e | ⟨k, hk, e⟩
      · rw [e, fg_bd_s, fg_oq_n]
      · rw [e, fg_bd_s, fg_oq_s, fg_isF_y hk, fg_gd_t]
  · subst ha
    rw [sf_figY hc h12 hi, fg_bd_s, fg_oq_s, fg_isF_y (by omega), fg_gd_t]
    rcases fn_any b (show fc < 2 ^ 31 by omega) with hb | ⟨j, hj, hb⟩
    · rw [sf_figN hc hb, fg_bd_s, fg_oq_n]
      rcases free with e | ⟨k, hk, e⟩
      · rw [e, fg_bd_s, fg_oq_n]
      · rw [e, fg_bd_s, fg_oq_s, fg_isF_y hk, fg_gd_t]
    · subst hb
      rw [sf_figY hc h12 hj, fg_bd_s, fg_oq_s, fg_isF_y (by omega), fg_gd_t]
      by_cases y : fc < 12
      · rw [sf_freeY hc y, fg_bd_s, fg_oq_s, fg_isF_y y, fg_gd_t]
        have FA := hF.2.2 i hi
        have FB := hF.2.2 j hj
        have a0 := g_bn FA.1
        have b0 := g_bn FB.1
        rcases fn_any c (show g_np (FG i) < 2 ^ 31 by omega) with hcc | ⟨p, hp, hcc⟩
        · rw [sf_hasPN FA.2 hcc, fg_bd_s, if_pos rfl]
        · subst hcc
          rw [sf_hasPY FA.2 FA.1 hp, fg_bd_s, if_neg (by decide)]
          rcases fn_any d (show g_np (FG j) < 2 ^ 31 by omega) with hdd | ⟨q, hq, hdd⟩
          · rw [sf_hasPN FB.2 hdd, fg_bd_s, if_pos rfl]
          · subst hdd
            rw [sf_hasPY FB.2 FB.1 hq, fg_bd_s, if_neg (by decide), FA.2.2.1, FB.2.2.1, fn_add, FA.2.1, FB.2.1, fn_add]
            by_cases w : 24 < g_nu (FG i) + g_nu (FG j)
            · rw [if_pos ((nI_ltI (by decide) (by omega)).mpr w)]
            · rw [if_neg (fun z => w ((nI_ltI (by decide) (by omega)).mp z))]
              by_cases v : g_nb (FG i) + g_nb (FG j) ≤ 6
              · exact (h ⟨i, j, p, q, rfl, rfl, rfl, rfl, hi, hj, hp, hq, by omega, v, y⟩).elim
              · rw [if_neg (fun z => v ((nI_leI (by omega) (by decide)).mp z))]
      · have : fc = 12 := by omega
        subst this
        rw [sf_freeN hc, fg_bd_s, fg_oq_n]
theorem sf_addY {x fc i j p q : Nat} {FG : Nat → bs_G} {mu : bs_Mm} (hF : cFG x fc FG mu) (h12 : fc < 12) (hi : i < fc) (hj : j < fc) (hp : p < g_np (FG i)) (hq : q < g_np (FG j)) (h24 : g_nu (FG i) + g_nu (FG j) ≤ 24) (h6 : g_nb (FG i) + g_nb (FG j) ≤ 6) (hA : g_iv (FG i)) (hB : g_iv (FG j)) : ∃ mu', FX11_add x mu (nI i) (nI j) (nI p) (nI q) = some (nI fc, mu') ∧ cFG x (fc + 1) (g_pu FG fc (ad_T (FG i) (FG j) p q)) mu' ∧ (∀ k, k ≠ 13 → mu' x k = mu x k) ∧ ∀ a, a ≠ x → (a < x + 63 + 7 * fc ∨ x + 63 + 7 * fc + 6 < a) → mu' a = mu a := by
  have hc := hF.2.1
  have FA := hF.2.2 i hi
  have FB := hF.2.2 j hj
  obtain ⟨mu1, a1, a2, a3⟩ := sf_join (x := x) (f := x + 63 + 7 * fc) hA hB hp hq h24 h6 (by omega) (by omega) FA.2 FB.2
  have e13 : bs_iv (mu1 x 13) = nI fc := by rw [a3 _ (by omega)]; exact hc
  refine ⟨bs_up mu1 x 13 (.int (nI (fc + 1))), ?_, ?_, fun k hk => by rw [bs_up_j hk, a3 _ (by omega)], fun a h1 h3 => by rw [bs_up_f h1, a3 a h3]⟩
  · unfold FX11_add
    rw [sf_figY hc (by omega) hi, fg_bd_s, fg_oq_s, fg_isF_y (by omega), fg_gd_t, sf_figY hc (by omega) hj, fg_bd_s, fg_oq_s, fg_isF_y (by omega), fg_gd_t, sf_freeY hc h12, fg_bd_s, fg_oq_s, fg_isF_y h12, fg_gd_t, sf_hasPY FA.2 FA.1 hp, fg_bd_s, if_neg (by decide), sf_hasPY FB.2 FB.1 hq, fg_bd_s, if_neg (by decide), FA.2.2.1, FB.2.2.1, fn_add, FA.2.1, FB.2.1, fn_add, if_neg (fun z => by have := (nI_ltI (by decide) (by omega)).mp z; omega), if_pos ((nI_leI (by omega) (by decide)).mpr h6), a1, fg_bd_s, fg_wr_s, e13, fn_add]
  · refine cFG_pu hF h12 (ad_iv hA hB hp hq h24 h6).1 (cFv_of a2 fun k hk => by rw [bs_up_f (by omega)]) (by rw [bs_up_eq]; rfl) fun a h1 h2 => by rw [bs_up_f (by omega), a3 a (by omega)]
