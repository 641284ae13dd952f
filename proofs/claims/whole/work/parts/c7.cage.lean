/-! AGEING of the class (own): one hour -/
theorem sf_tellL {x s : Nat} {mu : bs_Mm} {a0 a1 a2 b3 b4 : Int32} (hs : s < 6) (h3 : bs_iv (mu (x + 3) s) = b3) (h4 : bs_iv (mu (x + 2) s) = b4) : ∃ mu', FX0_tellLetters x mu a0 a1 a2 (nI s) = some mu' ∧ (∀ k, k < 5 → bs_iv (mu' (x + 48) k) = u_e a0 a1 a2 b3 b4 k) ∧ ∀ a, a ≠ x + 48 → mu' a = mu a := by
  have f3 : ∀ v0 v1 v2, bs_up (bs_up (bs_up mu (x + 48) 0 v0) (x + 48) 1 v1) (x + 48) 2 v2 (x + 3) = mu (x + 3) := fun v0 v1 v2 => by rw [bs_up_f (by omega), bs_up_f (by omega), bs_up_f (by omega)]
  have f2 : ∀ v0 v1 v2 v3, bs_up (bs_up (bs_up (bs_up mu (x + 48) 0 v0) (x + 48) 1 v1) (x + 48) 2 v2) (x + 48) 3 v3 (x + 2) = mu (x + 2) := fun v0 v1 v2 v3 => by rw [bs_up_f (by omega), bs_up_f (by omega), bs_up_f (by omega), bs_up_f (by omega)]
  refine ⟨bs_up (bs_up (bs_up (bs_up (bs_up mu (x + 48) 0 (.int a0)) (x + 48) 1 (.int a1)) (x + 48) 2 (.int a2)) (x + 48) 3 (.int b3)) (x + 48) 4 (.int b4), ?_, fun k hk => ?_, fun a ha => by rw [bs_up_f ha, bs_up_f ha, bs_up_f ha, bs_up_f ha, bs_up_f ha]⟩
  · unfold FX0_tellLetters
    simp (disch := omega) only [fg_gd_t, fg_bd_s, fg_b2_s, fg_wr_s, fg_let_s, fn_add, fn_sub, fn_mul, fn_cl, fn_lt, fn_le, fn_eq, fn_eq0, fn_lt0, fn_0le, fn_0lt, fn_le0, fn_in, fn_shl, fn_shr, fa_and, fa_or, bs_xorI, if_true, if_false, f3, h3, f2, h4]
  · have hk : k = 0 ∨ k = 1 ∨ k = 2 ∨ k = 3 ∨ k = 4 := by omega
    rcases hk with e | e | e | e | e
    · subst e
      rw [bs_up_j (by decide), bs_up_j (by decide), bs_up_j (by decide), bs_up_j (by decide), bs_up_eq]
      rfl
    · subst e
      rw [bs_up_j (by decide), bs_up_j (by decide), bs_up_j (by decide), bs_up_eq]
      rfl
    · subst e
      rw [bs_up_j (by decide), bs_up_j (by decide), bs_up_eq]
      rfl
    · subst e
      rw [bs_up_j (by decide), bs_up_eq]
      rfl
    · subst e
      rw [bs_up_eq]
      rfl
theorem sf_clearL {x n h lo : Nat} {mu : bs_Mm} {L : Nat → Nat} (hn : n ≤ 24) (hh : h ≤ 60) (hlo : lo < 2 ^ 30) (h46 : bs_iv (mu (x + 46) h) = nI lo) (h47 : ∀ i, i < n → bs_iv (mu (x + 47) (24 * h + i)) = nI (L i)) : ∃ mu', FX0_clearLost x mu (nI n) (nI h) = some mu' ∧ (∀ i, i < n → bs_iv (mu' (x + 47) (24 * h + i)) = nI (if lo.testBit i = true then 0 else L i)) ∧ (∀ k, k < 24 * h → mu' (x + 47) k = mu (x + 47) k) ∧ ∀ a, a ≠ x + 47 → mu' a = mu a := by
  refine Exists.elim (fg_lp_i (body := FX0_clearLost_b2 x (nI n) (nI h)) (fun r s => ∃ i, s.1 = nI i ∧ i + r = n ∧ (∀ k, k < i → bs_iv (s.2 (x + 47) (24 * h + k)) = nI (if lo.testBit k = true then 0 else L k)) ∧ (∀ k, i ≤ k → k < n → bs_iv (s.2 (x + 47) (24 * h + k)) = nI (L k)) ∧ (∀ k, k < 24 * h → s.2 (x + 47) k = mu (x + 47) k) ∧ ∀ a, a ≠ x + 47 → s.2 a = mu a) (fun t => (∀ i, i < n → bs_iv (t (x + 47) (24 * h + i)) = nI (if lo.testBit i = true then 0 else L i)) ∧ (∀ k, k < 24 * h → t (x + 47) k = mu (x + 47) k) ∧ ∀ a, a ≠ x + 47 → t a = mu a) (fun r s hJ => ?_) fg_fu n (nI 0, mu) ⟨0, rfl, by omega, fun k hk => absurd hk (Nat.not_lt_zero k), fun k _ hk => h47 k hk, fun _ _ => rfl, fun _ _ => rfl⟩ (fg_fu_lt (by omega))) (fun t ht => ?_)
  · obtain ⟨iv, mu1⟩ := s
    obtain ⟨i, e1, hr, h1, h2, h3, hf⟩ := hJ
    have e1 : iv = nI i := e1
    subst e1
    have h1 : ∀ k, k < i → bs_iv (mu1 (x + 47) (24 * h + k)) = nI (if lo.testBit k = true then 0 else L k) := h1
    have h2 : ∀ k, i ≤ k → k < n → bs_iv (mu1 (x + 47) (24 * h + k)) = nI (L k) := h2
    have h3 : ∀ k, k < 24 * h → mu1 (x + 47) k = mu (x + 47) k := h3
    have hf : ∀ a, a ≠ x + 47 → mu1 a = mu a := hf
    have e46 : bs_iv (mu1 (x + 46) h) = nI lo := by rw [hf _ (by omega)]; exact h46
    by_cases z : n ≤ i
    · refine Or.inr ⟨mu1, ?_, fun k hk => h1 k (by omega), h3, hf⟩
      unfold FX0_clearLost_b2
      simp (disch := omega) only [fg_gd_t, fg_bd_s, fg_b2_s, fg_wr_s, fg_let_s, fn_add, fn_sub, fn_mul, fn_cl, fn_lt, fn_le, fn_eq, fn_eq0, fn_lt0, fn_0le, fn_0lt, fn_le0, fn_in, fn_shl, fn_shr, fa_and, fa_or, bs_xorI, if_true, if_false, if_pos z]
    · have bit := fn_bit0 (L := lo) (i := i) (by omega)
      by_cases d : lo.testBit i = true
      · refine Or.inl ⟨(nI (i + 1), bs_up mu1 (x + 47) (24 * h + i) (.int (nI 0))), r - 1, ?_, by omega, i + 1, rfl, by omega, fun k hk => ?_, fun k k1 k2 => ?_, fun k hk => ?_, fun a ha => (bs_up_f ha).trans (hf a ha)⟩
        · have d2 : ¬ nI (lo &&& 2 ^ i) = 0 := by rw [bit, d]; decide
          unfold FX0_clearLost_b2
          rw [if_neg (fun w => z ((nI_leI (by omega) (by omega)).mp w)), fn_in (show h < 61 by omega) (by decide), fg_gd_t, fn_cl (show h < 2 ^ 31 by omega), e46, fn_shl (show i < 31 by omega), fa_and, if_neg d2, fn_mul, fn_add, Nat.mul_comm h 24, fn_in (show 24 * h + i < 1464 by omega) (by decide), fg_gd_t, fn_cl (show 24 * h + i < 2 ^ 31 by omega), fg_wr_s, fn_add]
        · show bs_iv (bs_up mu1 (x + 47) (24 * h + i) (.int (nI 0)) (x + 47) (24 * h + k)) = _
          by_cases e : k = i
          · subst e
            rw [bs_up_eq, if_pos d]
            rfl
          · rw [bs_up_j (by omega)]
            exact h1 k (by omega)
        · show bs_iv (bs_up mu1 (x + 47) (24 * h + i) (.int (nI 0)) (x + 47) (24 * h + k)) = _
          rw [bs_up_j (by omega)]
          exact h2 k (by omega) k2
        · show bs_up mu1 (x + 47) (24 * h + i) (.int (nI 0)) (x + 47) k = _
          rw [bs_up_j (by omega)]
          exact h3 k hk
      · have d1 : lo.testBit i = false := Bool.eq_false_iff.mpr d
        refine Or.inl ⟨(nI (i + 1), mu1), r - 1, ?_, by omega, i + 1, rfl, by omega, fun k hk => ?_, fun k k1 k2 => h2 k (by omega) k2, h3, hf⟩
        · have d2 : nI (lo &&& 2 ^ i) = 0 := by rw [bit]; exact d1
          unfold FX0_clearLost_b2
          rw [if_neg (fun w => z ((nI_leI (by omega) (by omega)).mp w)), fn_in (show h < 61 by omega) (by decide), fg_gd_t, fn_cl (show h < 2 ^ 31 by omega), e46, fn_shl (show i < 31 by omega), fa_and, if_pos d2, fn_add]
        · by_cases e : k = i
          · subst e
            rw [if_neg d]
            exact h2 k (Nat.le_refl _) (by omega)
          · exact h1 k (by omega)
  · refine ⟨t, ?_, ht.2⟩
    unfold FX0_clearLost
    rw [ht.1, fg_bd_s]
set_option maxHeartbeats 2000000 in
theorem sf_hour {x p u h : Nat} {mu : bs_Mm} {G : bs_G} {U : bs_U} {S : bs_So} (hp : x + 63 ≤ p) (hu : x + 63 ≤ u) (hI : g_iv G) (hV : cFv p G mu) (hU : cUv u U mu) (hk : ∀ q, q ∈ U → u_k q) (hS : cSo x S mu) (hSo : ∀ b, b < g_nb G → g_so G b < S.1) (hS6 : S.1 ≤ 6) (hh : h < 60) {q : ag_S} (hq : ag_I G q) (h46 : bs_iv (mu (x + 46) h) = nI q.2) (h47 : ∀ i, i < g_nu G → bs_iv (mu (x + 47) (24 * h + i)) = nI (q.1 i)) : ∃ mu', FX0_ageOneHour x mu (nI (h + 1)) p u = some mu' ∧ bs_iv (mu' (x + 46) (h + 1)) = nI (ag_s G U S (h + 1) q).2 ∧ (∀ i, i < g_nu G → bs_iv (mu' (x + 47) (24 * (h + 1) + i)) = nI ((ag_s G U S (h + 1) q).1 i)) ∧ (∀ k, k ≠ h + 1 → mu' (x + 46) k = mu (x + 46) k) ∧ (∀ k, k < 24 * (h + 1) → mu' (x + 47) k = mu (x + 47) k) ∧ ∀ a, a ≠ x + 28 → (a < x + 46 ∨ x + 49 < a) → mu' a = mu a := by
  have hG := hI.1
  have q0 := g_bn hG
  have p24 : 2 ^ g_nu G ≤ 2 ^ 24 := Nat.pow_le_pow_right (by decide) (by omega)
  have hq1 := hq.1
  have go := ag_g_lt (U := U) (S := S) (h := h + 1) hq.1
  have oo := ag_o_lt (U := U) (S := S) (h := h + 1) hq
  obtain ⟨m1, l1, l2, l3⟩ := sf_live (x := x) hp hV hG (show q.2 < 2 ^ 30 by omega)
  have L1 : ∃ t, fg_lp (FX0_ageOneHour_b21 x p u (nI (h + 1))) fg_fu (nI q.2, nI 0, m1) = some t ∧ t.1 = nI (ag_g G U S (h + 1) q (g_nu G)) ∧ (∀ i, i < g_nu G → bs_iv (t.2 (x + 47) (24 * (h + 1) + i)) = nI (ag_L G U S (h + 1) q i)) ∧ (∀ k, k < 24 * (h + 1) → t.2 (x + 47) k = mu (x + 47) k) ∧ ∀ a, a ≠ x + 28 → a ≠ x + 47 → a ≠ x + 48 → a ≠ x + 49 → t.2 a = mu a := by
    refine fg_lp_i (body := FX0_ageOneHour_b21 x p u (nI (h + 1))) (fun r s => ∃ i, s.1 = nI (ag_g G U S (h + 1) q i) ∧ s.2.1 = nI i ∧ i + r = g_nu G ∧ (∀ k, k < i → bs_iv (s.2.2 (x + 47) (24 * (h + 1) + k)) = nI (ag_L G U S (h + 1) q k)) ∧ (∀ k, k < 24 * (h + 1) → s.2.2 (x + 47) k = mu (x + 47) k) ∧ s.2.2 (x + 28) = m1 (x + 28) ∧ ∀ a, a ≠ x + 28 → a ≠ x + 47 → a ≠ x + 48 → a ≠ x + 49 → s.2.2 a = mu a) _ (fun r s hJ => ?_) fg_fu (g_nu G) (nI q.2, nI 0, m1) ⟨0, rfl, rfl, by omega, fun k hk => absurd hk (Nat.not_lt_zero k), fun k _ => congrFun (l2 (x + 47) (by omega)) k, rfl, fun a a1 _ _ _ => l2 a a1⟩ (fg_fu_lt (by omega))
    obtain ⟨gv, iv, mu1⟩ := s
    obtain ⟨i, e1, e2, hr, h1, h2, h28, hf⟩ := hJ
    have e1 : gv = nI (ag_g G U S (h + 1) q i) := e1
    have e2 : iv = nI i := e2
    subst e1
    subst e2
    have h1 : ∀ k, k < i → bs_iv (mu1 (x + 47) (24 * (h + 1) + k)) = nI (ag_L G U S (h + 1) q k) := h1
    have h2 : ∀ k, k < 24 * (h + 1) → mu1 (x + 47) k = mu (x + 47) k := h2
    have h28 : mu1 (x + 28) = m1 (x + 28) := h28
    have hf : ∀ a, a ≠ x + 28 → a ≠ x + 47 → a ≠ x + 48 → a ≠ x + 49 → mu1 a = mu a := hf
    have hP : cFv p G mu1 := cFv_of hV fun k hk => hf _ (by omega) (by omega) (by omega) (by omega)
    by_cases z : g_nu G ≤ i
    · have e : i = g_nu G := by omega
      subst e
      refine Or.inr ⟨(nI (ag_g G U S (h + 1) q (g_nu G)), mu1), ?_, rfl, h1, h2, hf⟩
      unfold FX0_ageOneHour_b21
      simp (disch := omega) only [fg_gd_t, fg_bd_s, fg_b2_s, fg_wr_s, fg_let_s, fn_add, fn_sub, fn_mul, fn_cl, fn_lt, fn_le, fn_eq, fn_eq0, fn_lt0, fn_0le, fn_0lt, fn_le0, fn_in, fn_shl, fn_shr, fa_and, fa_or, bs_xorI, if_true, if_false, hP.2.1, Nat.le_refl]
    · have hi : i < g_nu G := by omega
      have b1 := g_bd hG hi
      have li := hq.2.2.1 i hi
      have gi := go i (by omega)
      have le1 : FX0_lengthAt x mu1 (nI (h + 1) - nI 1) (nI i) = some (nI (q.1 i)) := by
        have e : bs_iv (mu1 (x + 47) (h * 24 + i)) = nI (q.1 i) := by rw [Nat.mul_comm h 24, h2 _ (by omega)]; exact h47 i hi
        unfold FX0_lengthAt
        rw [fn_sub (by omega), Nat.add_sub_cancel, fn_mul, fn_add, fn_in (show h * 24 + i < 1464 by omega) (by decide), fg_gd_t, fn_cl (show h * 24 + i < 2 ^ 31 by omega), e]
      have put : ∀ (m2 : bs_Mm) (g v : Nat), FX0_ageOneHour_j119_L21 x p u m2 (nI (h + 1)) (nI g) (nI i) (nI v) = some (.inl (nI g, nI (i + 1), bs_up m2 (x + 47) (24 * (h + 1) + i) (.int (nI v)))) := fun m2 g v => by
        unfold FX0_ageOneHour_j119_L21
        rw [fn_mul, fn_add, Nat.mul_comm (h + 1) 24, fn_in (show 24 * (h + 1) + i < 1464 by omega) (by decide), fg_gd_t, fn_cl (show 24 * (h + 1) + i < 2 ^ 31 by omega), fg_wr_s, fn_add]
      have rows : ∀ m2 : bs_Mm, m2 (x + 47) = mu1 (x + 47) → (∀ k, k < i + 1 → bs_iv (bs_up m2 (x + 47) (24 * (h + 1) + i) (.int (nI (ag_L G U S (h + 1) q i))) (x + 47) (24 * (h + 1) + k)) = nI (ag_L G U S (h + 1) q k)) ∧ ∀ k, k < 24 * (h + 1) → bs_up m2 (x + 47) (24 * (h + 1) + i) (.int (nI (ag_L G U S (h + 1) q i))) (x + 47) k = mu (x + 47) k := fun m2 e => by
        refine ⟨fun k hk => ?_, fun k hk => ?_⟩
        · by_cases d : k = i
          · subst d
            rw [bs_up_eq]
            rfl
          · rw [bs_up_j (by omega), e]
            exact h1 k (by omega)
        · rw [bs_up_j (by omega), e]
          exact h2 k hk
      by_cases c : q.1 i = 0
      · have eL : ag_L G U S (h + 1) q i = 0 := if_pos c
        have eg : ag_g G U S (h + 1) q (i + 1) = ag_g G U S (h + 1) q i := if_neg (fun w => w.1 c)
        have rw1 := rows mu1 rfl
        rw [eL] at rw1
        refine Or.inl ⟨(nI (ag_g G U S (h + 1) q i), nI (i + 1), bs_up mu1 (x + 47) (24 * (h + 1) + i) (.int (nI 0))), r - 1, ?_, by omega, i + 1, by rw [eg], rfl, by omega, rw1.1, rw1.2, by rw [← h28]; exact bs_up_f (by omega), fun a a1 a2 a3 a4 => (bs_up_f a2).trans (hf a a1 a2 a3 a4)⟩
        unfold FX0_ageOneHour_b21
        rw [hP.2.1, if_neg (fun w => z ((nI_leI (by omega) (by omega)).mp w)), le1, fg_bd_s, c, if_pos (by decide), put]
      · have bo1 := hP.2.2.2.2.2.2.2.2.1 i hi
        have so1 := hP.2.2.2.2.1 (g_bo G i) b1.2.2.1
        have ss := hSo (g_bo G i) b1.2.2.1
        have s6 : g_so G (g_bo G i) < 6 := by omega
        have lv1 := g_lv_le G q.2 (g_fr G i) (g_nu G)
        have lv2 := g_lv_le G q.2 (g_to G i) (g_nu G)
        have en : FX5_liveEndsOf x mu1 p (nI i) = some (nI (g_lv G q.2 (g_fr G i) (g_nu G) + g_lv G q.2 (g_to G i) (g_nu G))) := by
          unfold FX5_liveEndsOf
          rw [fn_in (show i < 24 by omega) (by decide), fg_gd_t, fn_cl (show i < 2 ^ 31 by omega), hP.2.2.2.2.2.2.1 i hi, fn_in (show g_fr G i < 30 by omega) (by decide), fg_gd_t, fg_gd_t, hP.2.2.2.2.2.2.2.1 i hi, fn_in (show g_to G i < 30 by omega) (by decide), fg_gd_t, fn_cl (show g_fr G i < 2 ^ 31 by omega), fn_cl (show g_to G i < 2 ^ 31 by omega), h28, l3 _ (by omega), l3 _ (by omega), fn_add]
        obtain ⟨m2, t1, t2, t3⟩ := sf_tellL (x := x) (mu := mu1) (a0 := nI (q.1 i)) (a1 := nI (h + 1)) (a2 := nI (g_lv G q.2 (g_fr G i) (g_nu G) + g_lv G q.2 (g_to G i) (g_nu G))) (b3 := nI (S.2.2.1 (g_so G (g_bo G i)))) (b4 := nI (S.2.1 (g_so G (g_bo G i)))) s6 (by rw [hf _ (by omega) (by omega) (by omega) (by omega)]; exact hS.2.2.1 _ ss) (by rw [hf _ (by omega) (by omega) (by omega) (by omega)]; exact hS.2.1 _ ss)
        have hU2 : cUv u U m2 := cUv_of hU (by rw [t3 _ (by omega), hf _ (by omega) (by omega) (by omega) (by omega)]) (by rw [t3 _ (by omega), hf _ (by omega) (by omega) (by omega) (by omega)])
        obtain ⟨m3, w1, w2⟩ := sf_worthBy (x := x) (p1 := x + 48) (p2 := x + 49) (by omega) (by omega) (by omega) hU2 hk t2
        have cl := ag_clI (w := ag_w G U S (h + 1) q i) (l := q.1 i) (by omega)
        have w1 : FX6_worthBy x u m2 (x + 48) (x + 49) = some (ag_w G U S (h + 1) q i, m3) := w1
        have eL : ag_L G U S (h + 1) q i = q.1 i - ag_cl (ag_w G U S (h + 1) q i) (q.1 i) := ag_Lc c
        have m3f : ∀ a, a ≠ x + 48 → a ≠ x + 49 → m3 a = mu1 a := fun a a1 a2 => (w2 a a2).trans (t3 a a1)
        have sub : nI (q.1 i) - nI (ag_cl (ag_w G U S (h + 1) q i) (q.1 i)) = nI (ag_L G U S (h + 1) q i) := by rw [fn_sub cl.2, eL]
        have rw1 := rows m3 (m3f _ (by omega) (by omega))
        have Ll := ag_L_le (G := G) (U := U) (S := S) (h := h + 1) (q := q) (i := i)
        refine Or.inl ⟨(nI (ag_g G U S (h + 1) q (i + 1)), nI (i + 1), bs_up m3 (x + 47) (24 * (h + 1) + i) (.int (nI (ag_L G U S (h + 1) q i)))), r - 1, ?_, by omega, i + 1, rfl, rfl, by omega, rw1.1, rw1.2, ?_, fun a a1 a2 a3 a4 => (bs_up_f a2).trans ((m3f a a3 a4).trans (hf a a1 a2 a3 a4))⟩
        · unfold FX0_ageOneHour_b21
          rw [hP.2.1, if_neg (fun w => z ((nI_leI (by omega) (by omega)).mp w)), le1, fg_bd_s, if_neg (fun w => c (by rw [fn_le0 (by omega)] at w; exact w)), en, fg_bd_s, fn_in (show i < 24 by omega) (by decide), fg_gd_t, fn_cl (show i < 2 ^ 31 by omega), bo1, fn_in (show g_bo G i < 6 by omega) (by decide), fg_gd_t, fn_cl (show g_bo G i < 2 ^ 31 by omega), so1, t1, fg_bd_s, w1, fg_b2_s, cl.1, sub]
          by_cases d : ag_L G U S (h + 1) q i = 0
          · have eg : ag_g G U S (h + 1) q (i + 1) = ag_g G U S (h + 1) q i ||| 2 ^ i := if_pos ⟨c, d⟩
            rw [eg, if_pos (by rw [d]; rfl)]
            unfold FX0_ageOneHour_j116_L21
            rw [fn_shl (show i < 31 by omega), fa_or, put]
          · have eg : ag_g G U S (h + 1) q (i + 1) = ag_g G U S (h + 1) q i := if_neg (fun w => d w.2)
            rw [eg, if_neg (fun w => d (by rw [fn_eq0 (by omega)] at w; exact w))]
            unfold FX0_ageOneHour_j116_L21
            rw [fa_or, Nat.or_zero, put]
        · show bs_up m3 (x + 47) (24 * (h + 1) + i) (.int (nI (ag_L G U S (h + 1) q i))) (x + 28) = m1 (x + 28)
          rw [bs_up_f (by omega), m3f _ (by omega) (by omega), h28]
  obtain ⟨⟨gv, m2⟩, o1, o2, o3, o4, o5⟩ := L1
  have o2 : gv = nI (ag_g G U S (h + 1) q (g_nu G)) := o2
  subst o2
  have o3 : ∀ i, i < g_nu G → bs_iv (m2 (x + 47) (24 * (h + 1) + i)) = nI (ag_L G U S (h + 1) q i) := o3
  have o4 : ∀ k, k < 24 * (h + 1) → m2 (x + 47) k = mu (x + 47) k := o4
  have o5 : ∀ a, a ≠ x + 28 → a ≠ x + 47 → a ≠ x + 48 → a ≠ x + 49 → m2 a = mu a := o5
  have P2 : cFv p G m2 := cFv_of hV fun k hk => o5 _ (by omega) (by omega) (by omega) (by omega)
  have e46 : bs_iv (m2 (x + 46) h) = nI q.2 := by rw [o5 _ (by omega) (by omega) (by omega) (by omega)]; exact h46
  have gn := go (g_nu G) (Nat.le_refl _)
  -- the set that is told, and the clearing
  have fin : ∀ m3 : bs_Mm, (∀ a, a ≠ x + 28 → m3 a = m2 a) → ∃ mu', (fg_wr m3 (x + 46) (nI (h + 1)).toNatClampNeg (.int (nI (ag_o G U S (h + 1) q))) fun mu28 => fg_bd (FX0_clearLost x mu28 (bs_iv (mu28 p 7)) (nI (h + 1))) fun mu30 => some mu30) = some mu' ∧ bs_iv (mu' (x + 46) (h + 1)) = nI (ag_s G U S (h + 1) q).2 ∧ (∀ i, i < g_nu G → bs_iv (mu' (x + 47) (24 * (h + 1) + i)) = nI ((ag_s G U S (h + 1) q).1 i)) ∧ (∀ k, k ≠ h + 1 → mu' (x + 46) k = mu (x + 46) k) ∧ (∀ k, k < 24 * (h + 1) → mu' (x + 47) k = mu (x + 47) k) ∧ ∀ a, a ≠ x + 28 → (a < x + 46 ∨ x + 49 < a) → mu' a = mu a := by
    intro m3 hf3
    obtain ⟨m4, hm4⟩ : ∃ y, y = bs_up m3 (x + 46) (h + 1) (.int (nI (ag_o G U S (h + 1) q))) := ⟨_, rfl⟩
    have f4 : ∀ a, a ≠ x + 28 → a ≠ x + 46 → m4 a = m2 a := fun a a1 a2 => by rw [hm4, bs_up_f a2, hf3 a a1]
    have P4 : cFv p G m4 := cFv_of P2 fun k hk => f4 _ (by omega) (by omega)
    obtain ⟨m5, c1, c2, c3, c4⟩ := sf_clearL (x := x) (n := g_nu G) (h := h + 1) (lo := ag_o G U S (h + 1) q) (mu := m4) (L := ag_L G U S (h + 1) q) (by omega) (by omega) (by omega) (by rw [hm4, bs_up_eq]; rfl) (fun i hi => by rw [f4 _ (by omega) (by omega)]; exact o3 i hi)
    refine ⟨m5, ?_, by rw [c4 _ (by omega), hm4, bs_up_eq]; rfl, c2, fun k hk => ?_, fun k hk => by rw [c3 k hk, f4 _ (by omega) (by omega)]; exact o4 k hk, fun a a1 a2 => by rw [c4 a (by omega), f4 a a1 (by omega)]; exact o5 a a1 (by omega) (by omega) (by omega)⟩
    · rw [fg_wr_s, fn_cl (show h + 1 < 2 ^ 31 by omega), ← hm4, P4.2.1, c1, fg_bd_s]
    · rw [c4 _ (by omega), hm4, bs_up_j hk, hf3 _ (by omega), o5 _ (by omega) (by omega) (by omega) (by omega)]
  unfold FX0_ageOneHour
  rw [fn_sub (show 1 ≤ h + 1 by omega), Nat.add_sub_cancel, fn_in (show h < 61 by omega) (by decide), fg_gd_t, fn_cl (show h < 2 ^ 31 by omega), h46, l1, fg_bd_s, o1, fg_bd_s, fg_gd_t]
  by_cases d : ag_g G U S (h + 1) q (g_nu G) = q.2
  · obtain ⟨m5, r1, r2⟩ := fin m2 fun _ _ => rfl
    have eo : ag_o G U S (h + 1) q = ag_g G U S (h + 1) q (g_nu G) := by
      unfold ag_o
      rw [if_pos d, d]
    rw [eo] at r1
    refine ⟨m5, ?_, r2⟩
    rw [if_pos (by rw [e46, d]), fn_in (show h + 1 < 61 by omega) (by decide), fg_gd_t]
    exact r1
  · obtain ⟨m3, s1, s2⟩ := sf_lost (x := x) hp P2 hG gn
    obtain ⟨m5, r1, r2⟩ := fin m3 s2
    have eo : ag_o G U S (h + 1) q = g_lc G (ag_g G U S (h + 1) q (g_nu G)) := if_neg d
    rw [eo] at r1
    refine ⟨m5, ?_, r2⟩
    rw [if_neg (by rw [e46]; exact fun w => d ((nI_eq (by omega) (by omega)).mp w)), s1, fg_b2_s, fn_in (show h + 1 < 61 by omega) (by decide), fg_gd_t]
    exact r1
