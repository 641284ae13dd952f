/-! AGEING of the model (own): one hour -/
theorem mFv_ofR {m g : Nat} {G : bs_G} {mu mu' : bs_Mm} (h : mFv m g G mu) (e : ∀ c, m + 6 ≤ c → c ≤ m + 14 → mu' c = mu c) : mFv m g G mu' := by
  unfold mFv
  rw [e (m + 6) (by omega) (by omega), e (m + 7) (by omega) (by omega), e (m + 8) (by omega) (by omega), e (m + 9) (by omega) (by omega), e (m + 10) (by omega) (by omega), e (m + 11) (by omega) (by omega), e (m + 12) (by omega) (by omega), e (m + 13) (by omega) (by omega), e (m + 14) (by omega) (by omega)]
  exact h
theorem mUv_of {m r : Nat} {U : bs_U} {mu mu' : bs_Mm} (h : mUv m r U mu) (e : ∀ c, m + 18 ≤ c → c ≤ m + 21 → mu' c = mu c) : mUv m r U mu' := by
  unfold mUv
  rw [e (m + 18) (by omega) (by omega), e (m + 19) (by omega) (by omega), e (m + 20) (by omega) (by omega), e (m + 21) (by omega) (by omega)]
  exact h
theorem g_cm_mi {G : bs_G} {A b : Nat} (hn : g_nu G ≤ 24) (hA : A < 2 ^ g_nu G) (hb : b < g_nu G) : g_cm G A &&& (2 ^ b ^^^ 4294967295) = g_cm G (A ||| 2 ^ b) := by
  have p24 : 2 ^ g_nu G ≤ 2 ^ 24 := Nat.pow_le_pow_right (by decide) hn
  have co := g_cm_co hA
  have tb := fun i => g_mi_tb (R := g_cm G A) (Q := 2 ^ b) (Nat.lt_of_lt_of_le co.1 p24) i
  refine g_co_eq (V := g_mi (g_cm G A) (2 ^ b)) ⟨g_lt_of fun i hi => ?_, g_or_lt hA hb, fun i hi => ?_⟩
  · rw [tb, Bool.and_eq_true] at hi
    exact g_tb_lt co.1 hi.1
  · rw [tb, co.2.2 i hi, g_tb_or, Nat.testBit_two_pow, Bool.not_or]
theorem g_cm_1 {G : bs_G} {A : Nat} (hn : g_nu G ≤ 24) (hA : A < 2 ^ g_nu G) : g_cm G A &&& 4294967295 = g_cm G A := by
  have p24 : 2 ^ g_nu G ≤ 2 ^ 24 := Nat.pow_le_pow_right (by decide) hn
  have co := (g_cm_co hA).1
  have e : (4294967295 : Nat) = 2 ^ 32 - 1 := by decide
  rw [e, Nat.and_two_pow_sub_one_eq_mod, Nat.mod_eq_of_lt (by omega)]
theorem g_cm_bt {G : bs_G} {A i : Nat} (hA : A < 2 ^ g_nu G) (hi : i < g_nu G) : (nI (g_bt (g_cm G A) i) = nI 1) = (A.testBit i = false) := by
  have co := g_cm_co hA
  have b := g_bt_tb (g_cm G A) i
  have c := g_bt_c (g_cm G A) i
  rw [fn_eq (by omega) (by decide), b, co.2.2 i hi]
  cases A.testBit i <;> simp
set_option maxHeartbeats 2000000 in
theorem tf_hour {m g r h : Nat} {mu : bs_Mm} {G : bs_G} {U : bs_U} {S : bs_So} (hg : g < 12) (hr : r < 6) (hI : g_iv G) (hV : mFv m g G mu) (hU : mUv m r U mu) (hk : u_K U) (hS : mSo m S mu) (hSo : ∀ b, b < g_nb G → g_so G b < S.1) (hS6 : S.1 ≤ 6) (hh : h ≤ 60) {q : ag_S} (hq : ag_I G q) (h51 : bs_iv (mu m 51) = nI (g_cm G q.2)) (h33 : ∀ i, i < g_nu G → bs_iv (mu (m + 33) i) = nI (q.1 i)) : ∃ mu', FX12_age m mu (nI g) (nI r) (nI h) = some mu' ∧ bs_iv (mu' m 51) = nI (g_cm G (ag_s G U S h q).2) ∧ (∀ i, i < g_nu G → bs_iv (mu' (m + 33) i) = nI ((ag_s G U S h q).1 i)) ∧ (∀ k, k ≠ 51 → mu' m k = mu m k) ∧ ∀ a, a ≠ m → a ≠ m + 22 → a ≠ m + 33 → a ≠ m + 34 → mu' a = mu a := by
  have hG := hI.1
  have q0 := g_bn hG
  have p24 : 2 ^ g_nu G ≤ 2 ^ 24 := Nat.pow_le_pow_right (by decide) (by omega)
  have co := g_cm_co hq.1
  have go := ag_g_lt (U := U) (S := S) (h := h) hq.1
  -- what each loses
  have L1 : ∃ t, fg_lp (FX12_age_b3 m (nI g) (nI r) (nI h)) fg_fu (nI 0, mu) = some t ∧ (∀ i, i < g_nu G → bs_iv (t (m + 34) i) = nI (q.1 i - ag_L G U S h q i)) ∧ ∀ a, a ≠ m + 22 → a ≠ m + 34 → t a = mu a := by
    refine fg_lp_i (body := FX12_age_b3 m (nI g) (nI r) (nI h)) (fun r s => ∃ i, s.1 = nI i ∧ i + r = g_nu G ∧ (∀ k, k < i → bs_iv (s.2 (m + 34) k) = nI (q.1 k - ag_L G U S h q k)) ∧ ∀ a, a ≠ m + 22 → a ≠ m + 34 → s.2 a = mu a) _ (fun rr s hJ => ?_) fg_fu (g_nu G) (nI 0, mu) ⟨0, rfl, by omega, fun k hk => absurd hk (Nat.not_lt_zero k), fun _ _ _ => rfl⟩ (fg_fu_lt (by omega))
    obtain ⟨iv, mu1⟩ := s
    obtain ⟨i, e1, hrr, h1, hf⟩ := hJ
    have e1 : iv = nI i := e1
    subst e1
    have h1 : ∀ k, k < i → bs_iv (mu1 (m + 34) k) = nI (q.1 k - ag_L G U S h q k) := h1
    have hf : ∀ a, a ≠ m + 22 → a ≠ m + 34 → mu1 a = mu a := hf
    have V1 := mFv_ofR hV (mu' := mu1) fun c c1 c2 => hf _ (by omega) (by omega)
    have e51 : bs_iv (mu1 m 51) = nI (g_cm G q.2) := by rw [hf _ (by omega) (by omega)]; exact h51
    by_cases z : g_nu G ≤ i
    · refine Or.inr ⟨mu1, ?_, fun k hk => h1 k (by omega), hf⟩
      unfold FX12_age_b3
      simp (disch := omega) only [fg_gd_t, fg_bd_s, fg_b2_s, fg_wr_s, fg_let_s, fn_add, fn_sub, fn_mul, fn_cl, fn_lt, fn_le, fn_eq, fn_eq0, fn_lt0, fn_0le, fn_0lt, fn_le0, fn_in, fn_shl, fn_shr, fa_and, fa_or, bs_xorI, if_true, if_false, V1.2.1, if_pos z]
    · have hi : i < g_nu G := by omega
      have b1 := g_bd hG hi
      have li := hq.2.2.1 i hi
      have bt := g_cm_bt hq.1 hi
      have cl := co.1
      have sh : nI (g_cm G q.2) >>> (nI i &&& 31) &&& nI 1 = nI (g_bt (g_cm G q.2) i) := by
        rw [fn_shr (by omega) (by omega), fa_and]
        rfl
      by_cases c : q.2.testBit i = true
      · have q10 := (hq.2.1 i hi).mpr c
        refine Or.inl ⟨(nI (i + 1), bs_up mu1 (m + 34) i (.int (nI 0))), rr - 1, ?_, by omega, i + 1, rfl, by omega, fun k hk => ?_, fun a a1 a2 => (bs_up_f a2).trans (hf a a1 a2)⟩
        · have nb : ¬ nI (g_bt (g_cm G q.2) i) = nI 1 := by rw [bt, c]; decide
          unfold FX12_age_b3
          rw [fn_in (show g < 13 by omega) (by decide), fg_gd_t, fn_cl (show g < 2 ^ 31 by omega), V1.2.1, if_neg (fun w => z ((nI_leI (by omega) (by omega)).mp w)), e51, sh, if_neg nb, fn_in (show i < 24 by omega) (by decide), fg_gd_t, fn_cl (show i < 2 ^ 31 by omega), fg_wr_s, fn_add]
        · show bs_iv (bs_up mu1 (m + 34) i (.int (nI 0)) (m + 34) k) = _
          by_cases e : k = i
          · subst e
            rw [bs_up_eq, q10, Nat.zero_sub]
            rfl
          · rw [bs_up_j e]
            exact h1 k (by omega)
      · have c0 : q.2.testBit i = false := Bool.eq_false_iff.mpr c
        have q10 : q.1 i ≠ 0 := fun w => c ((hq.2.1 i hi).mp w)
        have bo1 := V1.2.2.2.2.2.2.2.2 i hi
        have so1 := V1.2.2.2.2.1 (g_bo G i) b1.2.2.1
        have ss := hSo (g_bo G i) b1.2.2.1
        have n1 := tf_endsIn V1 (show g < 13 by omega) hG (p := g_fr G i) (S := g_cm G q.2) (by omega) (by omega)
        have n2 := tf_endsIn V1 (show g < 13 by omega) hG (p := g_to G i) (S := g_cm G q.2) (by omega) (by omega)
        rw [g_co_es co] at n1 n2
        have e33 : bs_iv (mu1 (m + 33) i) = nI (q.1 i) := by rw [hf _ (by omega) (by omega)]; exact h33 i hi
        have r1 : bs_iv (mu1 (m + 1) (g_so G (g_bo G i))) = nI (S.2.1 (g_so G (g_bo G i))) := by rw [hf _ (by omega) (by omega)]; exact hS.2.1 _ ss
        have r2 : bs_iv (mu1 (m + 2) (g_so G (g_bo G i))) = nI (S.2.2.1 (g_so G (g_bo G i))) := by rw [hf _ (by omega) (by omega)]; exact hS.2.2.1 _ ss
        obtain ⟨m2, w1, w2⟩ := tf_worthOf (m := m) (r := r) (E := u_e (nI (q.1 i)) (nI h) (nI (g_lv G q.2 (g_fr G i) (g_nu G) + g_lv G q.2 (g_to G i) (g_nu G))) (nI (S.2.2.1 (g_so G (g_bo G i)))) (nI (S.2.1 (g_so G (g_bo G i))))) (by omega) (mUv_of hU (mu' := mu1) fun c c1 c2 => hf _ (by omega) (by omega)) hk
        have w1 : FX12_worthOf m mu1 (nI r) (nI (q.1 i)) (nI h) (nI (g_lv G q.2 (g_fr G i) (g_nu G) + g_lv G q.2 (g_to G i) (g_nu G))) (nI (S.2.2.1 (g_so G (g_bo G i)))) (nI (S.2.1 (g_so G (g_bo G i)))) = some (ag_w G U S h q i, m2) := w1
        have cla := ag_clI (w := ag_w G U S h q i) (l := q.1 i) (by omega)
        have eL : q.1 i - ag_L G U S h q i = ag_cl (ag_w G U S h q i) (q.1 i) := by
          rw [ag_Lc q10]
          omega
        refine Or.inl ⟨(nI (i + 1), bs_up m2 (m + 34) i (.int (nI (q.1 i - ag_L G U S h q i)))), rr - 1, ?_, by omega, i + 1, rfl, by omega, fun k hk => ?_, fun a a1 a2 => (bs_up_f a2).trans ((w2 a a1).trans (hf a a1 a2))⟩
        · have yb : nI (g_bt (g_cm G q.2) i) = nI 1 := by rw [bt]; exact c0
          have ix : nI 24 * nI g + nI i = nI (24 * g + i) := by rw [fn_mul, fn_add]
          have iy : nI 6 * nI g + nI (g_bo G i) = nI (6 * g + g_bo G i) := by rw [fn_mul, fn_add]
          have s6 : g_so G (g_bo G i) < 6 := by omega
          have gi : fg_in (nI i) 24 = true := fn_in (show i < 24 by omega) (by decide)
          have gk : fg_in (nI (24 * g + i)) 312 = true := fn_in (show 24 * g + i < 312 by omega) (by decide)
          have gs : fg_in (nI (g_so G (g_bo G i))) 6 = true := fn_in s6 (by decide)
          have ci : (nI i).toNatClampNeg = i := fn_cl (by omega)
          have ck : (nI (24 * g + i)).toNatClampNeg = 24 * g + i := fn_cl (by omega)
          have cs : (nI (g_so G (g_bo G i))).toNatClampNeg = g_so G (g_bo G i) := fn_cl (by omega)
          unfold FX12_age_b3
          rw [fn_in (show g < 13 by omega) (by decide), fg_gd_t, fn_cl (show g < 2 ^ 31 by omega), V1.2.1, if_neg (fun w => z ((nI_leI (by omega) (by omega)).mp w)), e51, sh, if_pos yb, ix, gk, fg_gd_t, ck, bo1, iy, fn_in (show 6 * g + g_bo G i < 78 by omega) (by decide), fg_gd_t, fg_gd_t, V1.2.2.2.2.2.2.1 i hi, n1, fg_bd_s, fg_gd_t, V1.2.2.2.2.2.2.2.1 i hi, n2, fg_bd_s, gi, fg_gd_t, fg_gd_t, fn_cl (show 6 * g + g_bo G i < 2 ^ 31 by omega), so1, gs, fg_gd_t, fg_gd_t, ci, e33, fn_add, cs, r1, r2, w1, fg_b2_s, fg_gd_t, fg_wr_s, cla.1, eL, fn_add]
        · show bs_iv (bs_up m2 (m + 34) i (.int (nI (q.1 i - ag_L G U S h q i))) (m + 34) k) = _
          by_cases e : k = i
          · subst e
            rw [bs_up_eq]
            rfl
          · rw [bs_up_j e, w2 _ (by omega)]
            exact h1 k (by omega)
  obtain ⟨m1, a1, a2, a3⟩ := L1
  have V1 := mFv_ofR hV (mu' := m1) fun c c1 c2 => a3 _ (by omega) (by omega)
  have e51 : bs_iv (m1 m 51) = nI (g_cm G q.2) := by rw [a3 _ (by omega) (by omega)]; exact h51
  -- what is left
  have L2 : ∃ t, fg_lp (FX12_age_b166 m (nI g) (nI r) (nI h)) fg_fu (nI (g_cm G q.2), nI 0, m1) = some t ∧ t.1 = nI (g_cm G (ag_g G U S h q (g_nu G))) ∧ (∀ i, i < g_nu G → bs_iv (t.2 (m + 33) i) = nI (ag_L G U S h q i)) ∧ ∀ a, a ≠ m + 33 → t.2 a = m1 a := by
    refine fg_lp_i (body := FX12_age_b166 m (nI g) (nI r) (nI h)) (fun r s => ∃ i, s.1 = nI (g_cm G (ag_g G U S h q i)) ∧ s.2.1 = nI i ∧ i + r = g_nu G ∧ (∀ k, k < i → bs_iv (s.2.2 (m + 33) k) = nI (ag_L G U S h q k)) ∧ (∀ k, i ≤ k → k < g_nu G → bs_iv (s.2.2 (m + 33) k) = nI (q.1 k)) ∧ ∀ a, a ≠ m + 33 → s.2.2 a = m1 a) _ (fun rr s hJ => ?_) fg_fu (g_nu G) (nI (g_cm G q.2), nI 0, m1) ⟨0, rfl, rfl, by omega, fun k hk => absurd hk (Nat.not_lt_zero k), fun k _ hk => by show bs_iv (m1 (m + 33) k) = _; rw [a3 _ (by omega) (by omega)]; exact h33 k hk, fun _ _ => rfl⟩ (fg_fu_lt (by omega))
    obtain ⟨lv, iv, mu1⟩ := s
    obtain ⟨i, e1, e2, hrr, h1, h2, hf⟩ := hJ
    have e1 : lv = nI (g_cm G (ag_g G U S h q i)) := e1
    have e2 : iv = nI i := e2
    subst e1
    subst e2
    have h1 : ∀ k, k < i → bs_iv (mu1 (m + 33) k) = nI (ag_L G U S h q k) := h1
    have h2 : ∀ k, i ≤ k → k < g_nu G → bs_iv (mu1 (m + 33) k) = nI (q.1 k) := h2
    have hf : ∀ a, a ≠ m + 33 → mu1 a = m1 a := hf
    have V2 := mFv_ofR V1 (mu' := mu1) fun c c1 c2 => hf _ (by omega)
    by_cases z : g_nu G ≤ i
    · have e : i = g_nu G := by omega
      subst e
      refine Or.inr ⟨(nI (g_cm G (ag_g G U S h q (g_nu G))), mu1), ?_, rfl, h1, hf⟩
      unfold FX12_age_b166
      simp (disch := omega) only [fg_gd_t, fg_bd_s, fg_b2_s, fg_wr_s, fg_let_s, fn_add, fn_sub, fn_mul, fn_cl, fn_lt, fn_le, fn_eq, fn_eq0, fn_lt0, fn_0le, fn_0lt, fn_le0, fn_in, fn_shl, fn_shr, fa_and, fa_or, bs_xorI, if_true, if_false, V2.2.1, Nat.le_refl]
    · have hi : i < g_nu G := by omega
      have li := hq.2.2.1 i hi
      have Ll := ag_L_le (G := G) (U := U) (S := S) (h := h) (q := q) (i := i)
      have gi := go i (by omega)
      have e33 := h2 i (Nat.le_refl _) hi
      have e34 : bs_iv (mu1 (m + 34) i) = nI (q.1 i - ag_L G U S h q i) := by rw [hf _ (by omega)]; exact a2 i hi
      have sub : nI (q.1 i) - nI (q.1 i - ag_L G U S h q i) = nI (ag_L G U S h q i) := by
        rw [fn_sub (by omega)]
        congr 1
        omega
      have gin : fg_in (nI i) 24 = true := fn_in (show i < 24 by omega) (by decide)
      have ci : (nI i).toNatClampNeg = i := fn_cl (by omega)
      have lhs : FX12_age_b166 m (nI g) (nI r) (nI h) (nI (g_cm G (ag_g G U S h q i)), nI i, mu1) = some (.inl (nI (g_cm G (ag_g G U S h q (i + 1))), nI (i + 1), bs_up mu1 (m + 33) i (.int (nI (ag_L G U S h q i))))) := by
        have up : bs_iv (bs_up mu1 (m + 33) i (.int (nI (ag_L G U S h q i))) (m + 33) i) = nI (ag_L G U S h q i) := by
          rw [bs_up_eq]
          rfl
        unfold FX12_age_b166
        rw [fn_in (show g < 13 by omega) (by decide), fg_gd_t, fn_cl (show g < 2 ^ 31 by omega), V2.2.1, if_neg (fun w => z ((nI_leI (by omega) (by omega)).mp w)), gin, fg_gd_t, fg_gd_t, fg_gd_t, ci, e33, e34, sub, fg_wr_s, fg_gd_t, up]
        by_cases d : ag_L G U S h q i = 0
        · rw [if_pos (by rw [d]; rfl), fn_shl (show i < 31 by omega), fn_not, fa_and, g_cm_mi q0.2.1 gi hi, fn_add]
          by_cases c : q.1 i = 0
          · have eg : ag_g G U S h q (i + 1) = ag_g G U S h q i := if_neg (fun w => w.1 c)
            have tb : (ag_g G U S h q i).testBit i = true := ag_g_sub i i ((hq.2.1 i hi).mp c)
            have eo : ag_g G U S h q i ||| 2 ^ i = ag_g G U S h q i := by
              apply Nat.eq_of_testBit_eq
              intro k
              rw [g_tb_or]
              by_cases e : i = k
              · subst e
                rw [tb]
                rfl
              · rw [decide_eq_false e, Bool.or_false]
            rw [eg, eo]
          · have eg : ag_g G U S h q (i + 1) = ag_g G U S h q i ||| 2 ^ i := if_pos ⟨c, d⟩
            rw [eg]
        · have eg : ag_g G U S h q (i + 1) = ag_g G U S h q i := if_neg (fun w => d w.2)
          rw [if_neg (fun w => d (by rw [fn_eq0 (by omega)] at w; exact w)), show (-1 : Int32) = nI 4294967295 from rfl, fa_and, g_cm_1 q0.2.1 gi, eg, fn_add]
      refine Or.inl ⟨_, rr - 1, lhs, by omega, i + 1, rfl, rfl, by omega, fun k hk => ?_, fun k k1 k2 => ?_, fun a ha => (bs_up_f ha).trans (hf a ha)⟩
      · show bs_iv (bs_up mu1 (m + 33) i (.int (nI (ag_L G U S h q i))) (m + 33) k) = _
        by_cases e : k = i
        · subst e
          rw [bs_up_eq]
          rfl
        · rw [bs_up_j e]
          exact h1 k (by omega)
      · show bs_iv (bs_up mu1 (m + 33) i (.int (nI (ag_L G U S h q i))) (m + 33) k) = _
        rw [bs_up_j (by omega)]
        exact h2 k (by omega) k2
  obtain ⟨⟨lv, m2⟩, b1, b2, b3, b4⟩ := L2
  have b2 : lv = nI (g_cm G (ag_g G U S h q (g_nu G))) := b2
  subst b2
  have b3 : ∀ i, i < g_nu G → bs_iv (m2 (m + 33) i) = nI (ag_L G U S h q i) := b3
  have b4 : ∀ a, a ≠ m + 33 → m2 a = m1 a := b4
  have V2 := mFv_ofR V1 (mu' := m2) fun c c1 c2 => b4 _ (by omega)
  have gn := go (g_nu G) (Nat.le_refl _)
  have cn := g_cm_co gn
  obtain ⟨W, l1, l2⟩ := tf_left V2 (show g < 13 by omega) hG hI.2.1 gn ⟨cn.1, fun i hi hb => by rw [cn.2.2 i hi, hb]; rfl, fun C _ hs i hi hb => hs i (by
    rw [cn.2.2 i hi] at hb
    cases d : (ag_g G U S h q (g_nu G)).testBit i with
    | true => rfl
    | false => rw [d] at hb; cases hb)⟩
  have eW := g_co_eq l2
  rw [← ag_o_lc hq] at eW
  subst eW
  have oo := ag_o_lt (U := U) (S := S) (h := h) hq
  obtain ⟨m3, hm3⟩ : ∃ y, y = bs_up m2 m 51 (.int (nI (g_cm G (ag_o G U S h q)))) := ⟨_, rfl⟩
  have f3 : ∀ a, a ≠ m → m3 a = m2 a := fun a ha => by rw [hm3, bs_up_f ha]
  have V3 := mFv_ofR V2 (mu' := m3) fun c c1 c2 => f3 _ (by omega)
  have k51 : bs_iv (m3 m 51) = nI (g_cm G (ag_o G U S h q)) := by
    rw [hm3, bs_up_eq]
    rfl
  have L3 : ∃ t, fg_lp (FX12_age_b239 m (nI g) (nI r) (nI h) (nI (g_cm G (ag_g G U S h q (g_nu G))))) fg_fu (nI 0, m3) = some t ∧ (∀ i, i < g_nu G → bs_iv (t (m + 33) i) = nI ((ag_s G U S h q).1 i)) ∧ ∀ a, a ≠ m + 33 → t a = m3 a := by
    refine fg_lp_i (body := FX12_age_b239 m (nI g) (nI r) (nI h) (nI (g_cm G (ag_g G U S h q (g_nu G))))) (fun r s => ∃ i, s.1 = nI i ∧ i + r = g_nu G ∧ (∀ k, k < i → bs_iv (s.2 (m + 33) k) = nI ((ag_s G U S h q).1 k)) ∧ (∀ k, i ≤ k → k < g_nu G → bs_iv (s.2 (m + 33) k) = nI (ag_L G U S h q k)) ∧ ∀ a, a ≠ m + 33 → s.2 a = m3 a) _ (fun rr s hJ => ?_) fg_fu (g_nu G) (nI 0, m3) ⟨0, rfl, by omega, fun k hk => absurd hk (Nat.not_lt_zero k), fun k _ hk => by show bs_iv (m3 (m + 33) k) = _; rw [f3 _ (by omega)]; exact b3 k hk, fun _ _ => rfl⟩ (fg_fu_lt (by omega))
    obtain ⟨iv, mu1⟩ := s
    obtain ⟨i, e1, hrr, h1, h2, hf⟩ := hJ
    have e1 : iv = nI i := e1
    subst e1
    have h1 : ∀ k, k < i → bs_iv (mu1 (m + 33) k) = nI ((ag_s G U S h q).1 k) := h1
    have h2 : ∀ k, i ≤ k → k < g_nu G → bs_iv (mu1 (m + 33) k) = nI (ag_L G U S h q k) := h2
    have hf : ∀ a, a ≠ m + 33 → mu1 a = m3 a := hf
    have V4 := mFv_ofR V3 (mu' := mu1) fun c c1 c2 => hf _ (by omega)
    have e51 : bs_iv (mu1 m 51) = nI (g_cm G (ag_o G U S h q)) := by rw [hf _ (by omega)]; exact k51
    by_cases z : g_nu G ≤ i
    · refine Or.inr ⟨mu1, ?_, fun k hk => h1 k (by omega), hf⟩
      unfold FX12_age_b239
      simp (disch := omega) only [fg_gd_t, fg_bd_s, fg_b2_s, fg_wr_s, fg_let_s, fn_add, fn_sub, fn_mul, fn_cl, fn_lt, fn_le, fn_eq, fn_eq0, fn_lt0, fn_0le, fn_0lt, fn_le0, fn_in, fn_shl, fn_shr, fa_and, fa_or, bs_xorI, if_true, if_false, V4.2.1, if_pos z]
    · have hi : i < g_nu G := by omega
      have bt := g_cm_bt oo hi
      have col := (g_cm_co oo).1
      have sh : nI (g_cm G (ag_o G U S h q)) >>> (nI i &&& 31) &&& nI 1 = nI (g_bt (g_cm G (ag_o G U S h q)) i) := by
        rw [fn_shr (by omega) (by omega), fa_and]
        rfl
      have gin : fg_in (nI i) 24 = true := fn_in (show i < 24 by omega) (by decide)
      have ci : (nI i).toNatClampNeg = i := fn_cl (by omega)
      have lhs : FX12_age_b239 m (nI g) (nI r) (nI h) (nI (g_cm G (ag_g G U S h q (g_nu G)))) (nI i, mu1) = some (.inl (nI (i + 1), bs_up mu1 (m + 33) i (.int (nI ((ag_s G U S h q).1 i))))) := by
        have es : (ag_s G U S h q).1 i = if (ag_o G U S h q).testBit i = true then 0 else ag_L G U S h q i := rfl
        unfold FX12_age_b239
        rw [es, fn_in (show g < 13 by omega) (by decide), fg_gd_t, fn_cl (show g < 2 ^ 31 by omega), V4.2.1, if_neg (fun w => z ((nI_leI (by omega) (by omega)).mp w)), e51, sh]
        by_cases c : (ag_o G U S h q).testBit i = true
        · have nb : ¬ nI (g_bt (g_cm G (ag_o G U S h q)) i) = nI 1 := by rw [bt, c]; decide
          rw [if_neg nb, if_pos c, gin, fg_gd_t, ci, fg_wr_s, fn_add]
        · have yb : nI (g_bt (g_cm G (ag_o G U S h q)) i) = nI 1 := by rw [bt]; exact Bool.eq_false_iff.mpr c
          rw [if_pos yb, if_neg c, gin, fg_gd_t, fg_gd_t, ci, h2 i (Nat.le_refl _) hi, fg_wr_s, fn_add]
      refine Or.inl ⟨_, rr - 1, lhs, by omega, i + 1, rfl, by omega, fun k hk => ?_, fun k k1 k2 => ?_, fun a ha => (bs_up_f ha).trans (hf a ha)⟩
      · show bs_iv (bs_up mu1 (m + 33) i (.int (nI ((ag_s G U S h q).1 i))) (m + 33) k) = _
        by_cases e : k = i
        · subst e
          rw [bs_up_eq]
          rfl
        · rw [bs_up_j e]
          exact h1 k (by omega)
      · show bs_iv (bs_up mu1 (m + 33) i (.int (nI ((ag_s G U S h q).1 i))) (m + 33) k) = _
        rw [bs_up_j (by omega)]
        exact h2 k (by omega) k2
  obtain ⟨m4, c1, c2, c3⟩ := L3
  refine ⟨m4, ?_, by rw [c3 _ (by omega)]; exact k51, c2, fun k hk => by rw [c3 _ (by omega), hm3, bs_up_j hk, b4 _ (by omega), a3 _ (by omega) (by omega)], fun a h1 h2 h3 h4 => by rw [c3 a h3, f3 a h1, b4 a h3, a3 a h2 h4]⟩
  unfold FX12_age
  rw [a1, fg_bd_s, e51, b1, fg_bd_s]
  simp only []
  rw [l1, fg_bd_s, fg_wr_s, ← hm3, c1, fg_bd_s]
