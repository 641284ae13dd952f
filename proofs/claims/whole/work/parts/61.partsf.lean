/-! PARTS (own), as functions: the class's -/
theorem sf_merge {x np a b : Nat} {lab : Nat → Nat} {mu : bs_Mm} (hn : np ≤ 30) (hl : ∀ p, p < np → lab p < 30) (ha : a < 30) (hb : b < 30) (hrow : bs_rw mu (x + 29) np lab) : ∃ mu', FX5_mergeGroups x mu (nI np) (nI a) (nI b) = some mu' ∧ (∀ c, c ≠ x + 29 → mu' c = mu c) ∧ bs_rw mu' (x + 29) np (fun p => if lab p = b then a else lab p) := by
  unfold FX5_mergeGroups
  refine Exists.elim (fg_lp_i (body := FX5_mergeGroups_b3 x (nI np) (nI a) (nI b)) (fun r s => ∃ i, s.1 = nI i ∧ i + r = np ∧ (∀ c, c ≠ x + 29 → s.2 c = mu c) ∧ bs_rw s.2 (x + 29) np (fun p => if p < i then (if lab p = b then a else lab p) else lab p)) (fun t => (∀ c, c ≠ x + 29 → t c = mu c) ∧ bs_rw t (x + 29) np (fun p => if lab p = b then a else lab p)) (fun r s hI => ?_) fg_fu np (nI 0, mu) ⟨0, rfl, by omega, fun _ _ => rfl, fun p hp => by show bs_iv (mu (x + 29) p) = nI (if p < 0 then (if lab p = b then a else lab p) else lab p); rw [if_neg (by omega)]; exact hrow p hp⟩ (fg_fu_lt (by omega))) (fun t ht => ?_)
  · obtain ⟨iv, mu1⟩ := s
    obtain ⟨i, e, hr, hfr, hrow⟩ := hI
    have e : iv = nI i := e
    subst e
    have hfr : ∀ c, c ≠ x + 29 → mu1 c = mu c := hfr
    have hrow : bs_rw mu1 (x + 29) np (fun p => if p < i then (if lab p = b then a else lab p) else lab p) := hrow
    by_cases c : np ≤ i
    · refine Or.inr ⟨mu1, ?_, hfr, fun p hp => by
        have h := hrow p hp
        dsimp only at h
        show bs_iv (mu1 (x + 29) p) = nI (if lab p = b then a else lab p)
        rw [h, if_pos (by omega)]⟩
      unfold FX5_mergeGroups_b3
      simp (disch := omega) only [fg_gd_t, fg_bd_s, fg_b2_s, fg_wr_s, fg_let_s, fn_add, fn_sub, fn_mul, fn_cl, fn_lt, fn_le, fn_eq, fn_eq0, fn_lt0, fn_0le, fn_0lt, fn_le0, fn_in, fn_shl, fn_shr, fa_and, fa_or, bs_xorI, if_true, if_false, if_pos c]
    · refine Or.inl ?_
      have ri := hrow i (by omega)
      dsimp only at ri
      rw [if_neg (by omega)] at ri
      have li := hl i (by omega)
      have nx : ∀ v, v = (if lab i = b then a else lab i) → ∀ p, p < np → bs_iv (bs_up mu1 (x + 29) i (.int (nI v)) (x + 29) p) = nI (if p < i + 1 then (if lab p = b then a else lab p) else lab p) := by
        intro v hv p hp
        rw [hrow.up i v p hp]
        congr 1
        simp only [bs_fn]
        by_cases z : p = i
        · subst z; rw [if_pos rfl, if_pos (by omega)]; exact hv
        · rw [if_neg z]
          by_cases y : p < i
          · rw [if_pos y, if_pos (show p < i + 1 by omega)]
          · rw [if_neg y, if_neg (show ¬ p < i + 1 by omega)]
      by_cases d : lab i = b
      · refine ⟨(nI (i + 1), bs_up mu1 (x + 29) i (.int (nI a))), r - 1, ?_, by omega, i + 1, rfl, by omega, fun c hc => by show bs_up mu1 _ _ _ c = mu c; rw [bs_up_f hc]; exact hfr c hc, nx a (by rw [if_pos d])⟩
        unfold FX5_mergeGroups_b3
        simp (disch := omega) only [fg_gd_t, fg_bd_s, fg_b2_s, fg_wr_s, fg_let_s, fn_add, fn_sub, fn_mul, fn_cl, fn_lt, fn_le, fn_eq, fn_eq0, fn_lt0, fn_0le, fn_0lt, fn_le0, fn_in, fn_shl, fn_shr, fa_and, fa_or, bs_xorI, if_true, if_false, if_neg c, ri, if_pos d]
      · refine ⟨(nI (i + 1), bs_up mu1 (x + 29) i (.int (nI (lab i)))), r - 1, ?_, by omega, i + 1, rfl, by omega, fun c hc => by show bs_up mu1 _ _ _ c = mu c; rw [bs_up_f hc]; exact hfr c hc, nx (lab i) (by rw [if_neg d])⟩
        unfold FX5_mergeGroups_b3
        simp (disch := omega) only [fg_gd_t, fg_bd_s, fg_b2_s, fg_wr_s, fg_let_s, fn_add, fn_sub, fn_mul, fn_cl, fn_lt, fn_le, fn_eq, fn_eq0, fn_lt0, fn_0le, fn_0lt, fn_le0, fn_in, fn_shl, fn_shr, fa_and, fa_or, bs_xorI, if_true, if_false, if_neg c, ri, if_neg d]
  · obtain ⟨h1, h2, h3⟩ := ht
    rw [h1]; exact ⟨t, rfl, h2, h3⟩
theorem sf_parts1 {x f L : Nat} {mu : bs_Mm} {G : bs_G} (hx : x + 63 ≤ f) (hV : cFv f G mu) (hG : g_ok G) (hrow : bs_rw mu (x + 28) 30 (fun p => g_lv G L p (g_nu G))) (l2 : Int32) : ∃ mu', fg_lp (FX5_parts_b11 x f l2) fg_fu (nI 0, nI 0, mu) = some (nI (g_sm (fun p => g_if (0 < g_lv G L p (g_nu G))) (g_np G)), mu') ∧ (∀ c, c ≠ x + 29 → mu' c = mu c) ∧ bs_rw mu' (x + 29) (g_np G) (fun p => p) := by
  have q0 := g_bn hG
  refine Exists.elim (fg_lp_i (body := FX5_parts_b11 x f l2) (fun r s => ∃ i, s.1 = nI (g_sm (fun p => g_if (0 < g_lv G L p (g_nu G))) i) ∧ s.2.1 = nI i ∧ i + r = g_np G ∧ (∀ c, c ≠ x + 29 → s.2.2 c = mu c) ∧ bs_rw s.2.2 (x + 29) i (fun p => p)) (fun t => t.1 = nI (g_sm (fun p => g_if (0 < g_lv G L p (g_nu G))) (g_np G)) ∧ (∀ c, c ≠ x + 29 → t.2 c = mu c) ∧ bs_rw t.2 (x + 29) (g_np G) (fun p => p)) (fun r s hI => ?_) fg_fu (g_np G) (nI 0, nI 0, mu) ⟨0, rfl, rfl, by omega, fun _ _ => rfl, fun p hp => by omega⟩ (fg_fu_lt (by omega))) (fun t ht => ?_)
  · obtain ⟨nv, iv, mu1⟩ := s
    obtain ⟨i, e1, e2, hr, hfr, hg⟩ := hI
    have e1 : nv = _ := e1
    have e2 : iv = nI i := e2
    subst e1
    subst e2
    have hfr : ∀ c, c ≠ x + 29 → mu1 c = mu c := hfr
    have hg : bs_rw mu1 (x + 29) i (fun p => p) := hg
    have hV1 : cFv f G mu1 := cFv_of hV (fun k _ => hfr _ (by omega))
    by_cases c : g_np G ≤ i
    · have e : i = g_np G := by omega
      refine Or.inr ⟨(nI (g_sm (fun p => g_if (0 < g_lv G L p (g_nu G))) i), mu1), ?_, by rw [e], hfr, by rw [← e]; exact hg⟩
      unfold FX5_parts_b11
      simp (disch := omega) only [fg_gd_t, fg_bd_s, fg_b2_s, fg_wr_s, fg_let_s, fn_add, fn_sub, fn_mul, fn_cl, fn_lt, fn_le, fn_eq, fn_eq0, fn_lt0, fn_0le, fn_0lt, fn_le0, fn_in, fn_shl, fn_shr, fa_and, fa_or, bs_xorI, if_true, if_false, hV1.2.2.1, if_pos c]
    · refine Or.inl ?_
      have rl : bs_iv (mu1 (x + 28) i) = nI (g_lv G L i (g_nu G)) := by rw [hfr _ (by omega)]; exact hrow i (by omega)
      have bl := g_lv_le G L i (g_nu G)
      refine ⟨(nI (g_sm (fun p => g_if (0 < g_lv G L p (g_nu G))) (i + 1)), nI (i + 1), bs_up mu1 (x + 29) i (.int (nI i))), r - 1, ?_, by omega, i + 1, rfl, rfl, by omega, fun c hc => by show bs_up mu1 _ _ _ c = mu c; rw [bs_up_f hc]; exact hfr c hc, fun p hp => ?_⟩
      · unfold FX5_parts_b11
        have e : g_sm (fun p => g_if (0 < g_lv G L p (g_nu G))) (i + 1) = g_sm (fun p => g_if (0 < g_lv G L p (g_nu G))) i + g_if (0 < g_lv G L i (g_nu G)) := rfl
        simp (disch := omega) only [fg_gd_t, fg_bd_s, fg_b2_s, fg_wr_s, fg_let_s, fn_add, fn_sub, fn_mul, fn_cl, fn_lt, fn_le, fn_eq, fn_eq0, fn_lt0, fn_0le, fn_0lt, fn_le0, fn_in, fn_shl, fn_shr, fa_and, fa_or, bs_xorI, if_true, if_false, hV1.2.2.1, if_neg c, bs_up_f, rl, e]
        by_cases z : g_lv G L i (g_nu G) = 0
        · rw [if_pos z, g_if0 (by omega)]
        · rw [if_neg z, g_if1 (by omega)]
      · rw [hg.push i p hp]
        congr 1
        simp only [bs_fn]
        split
        · rename_i z; exact z.symm
        · rfl
  · obtain ⟨h1, h2, h3, h4⟩ := ht
    obtain ⟨t1, t2⟩ := t
    have h2 : t1 = _ := h2
    subst h2
    exact ⟨t2, h1, h3, h4⟩
theorem sf_parts {x f L W : Nat} {mu : bs_Mm} {G : bs_G} (hx : x + 63 ≤ f) (hV : cFv f G mu) (hG : g_ok G) (hW : g_co G W L) : ∃ mu', FX5_parts x mu f (nI L) = some (nI (g_pa G W L), mu') ∧ (∀ c, c ≠ x + 28 → c ≠ x + 29 → mu' c = mu c) ∧ bs_rw mu' (x + 29) (g_np G) (g_gl G L (g_nu G)) := by
  have q0 := g_bn hG
  have q1 : 2 ^ g_nu G ≤ 2 ^ 24 := Nat.pow_le_pow_right (by decide) q0.2.1
  have hL := hW.2.1
  obtain ⟨mu1, p1, p2, p3⟩ := sf_live hx hV hG (show L < 2 ^ 30 by omega)
  have hV1 : cFv f G mu1 := cFv_of hV (fun j _ => p2 _ (by omega))
  obtain ⟨mu2, m1, m2, m3⟩ := sf_parts1 hx hV1 hG p3 (nI L)
  have dle : ∀ lab, g_dl G W lab (g_np G) ≤ g_np G := fun lab => g_sm1 (fun _ => g_if_le _) _
  refine Exists.elim (fg_lp_i (body := FX5_parts_b56 x f (nI L)) (fun r s => ∃ i, s.1 = nI (g_dl G W (g_gl G L i) (g_np G)) ∧ s.2.1 = nI i ∧ i + r = g_nu G ∧ (∀ c, c ≠ x + 28 → c ≠ x + 29 → s.2.2 c = mu c) ∧ bs_rw s.2.2 (x + 29) (g_np G) (g_gl G L i)) (fun t => t.1 = nI (g_pa G W L) ∧ (∀ c, c ≠ x + 28 → c ≠ x + 29 → t.2 c = mu c) ∧ bs_rw t.2 (x + 29) (g_np G) (g_gl G L (g_nu G))) (fun r s hI => ?_) fg_fu (g_nu G) (nI (g_sm (fun p => g_if (0 < g_lv G L p (g_nu G))) (g_np G)), nI 0, mu2) ⟨0, by rw [g_dl_0 hW], rfl, by omega, fun c hc hd => by show mu2 c = mu c; rw [m2 c hd, p2 c hc], m3⟩ (fg_fu_lt (by omega))) (fun t ht => ?_)
  · obtain ⟨nv, iv, mu3⟩ := s
    obtain ⟨i, e1, e2, hr, hfr, hg⟩ := hI
    have e1 : nv = _ := e1
    have e2 : iv = nI i := e2
    subst e1
    subst e2
    have hfr : ∀ c, c ≠ x + 28 → c ≠ x + 29 → mu3 c = mu c := hfr
    have hg : bs_rw mu3 (x + 29) (g_np G) (g_gl G L i) := hg
    have hV3 : cFv f G mu3 := cFv_of hV (fun k _ => hfr _ (by omega) (by omega))
    by_cases c : g_nu G ≤ i
    · have e : i = g_nu G := by omega
      refine Or.inr ⟨(nI (g_dl G W (g_gl G L i) (g_np G)), mu3), ?_, by rw [e]; rfl, hfr, by rw [← e]; exact hg⟩
      unfold FX5_parts_b56
      simp (disch := omega) only [fg_gd_t, fg_bd_s, fg_b2_s, fg_wr_s, fg_let_s, fn_add, fn_sub, fn_mul, fn_cl, fn_lt, fn_le, fn_eq, fn_eq0, fn_lt0, fn_0le, fn_0lt, fn_le0, fn_in, fn_shl, fn_shr, fa_and, fa_or, bs_xorI, if_true, if_false, hV3.2.1, if_pos c]
    · refine Or.inl ?_
      have hi : i < g_nu G := by omega
      have b := g_bd hG hi
      have r3 := hV3.2.2.2.2.2.2.1 i hi
      have r4 := hV3.2.2.2.2.2.2.2.1 i hi
      have l1 := g_gl_lt hG (L := L) b.1 i (by omega)
      have l2 := g_gl_lt hG (L := L) b.2.1 i (by omega)
      have g1 := hg _ b.1
      have g2 := hg _ b.2.1
      cases cb : L.testBit i with
      | true =>
        refine ⟨(nI (g_dl G W (g_gl G L i) (g_np G)), nI (i + 1), mu3), r - 1, ?_, by omega, i + 1, by rw [g_gl_l cb], rfl, by omega, hfr, by rw [g_gl_l cb]; exact hg⟩
        unfold FX5_parts_b56
        simp (disch := omega) only [fg_gd_t, fg_bd_s, fg_b2_s, fg_wr_s, fg_let_s, fn_add, fn_sub, fn_mul, fn_cl, fn_lt, fn_le, fn_eq, fn_eq0, fn_lt0, fn_0le, fn_0lt, fn_le0, fn_in, fn_shl, fn_shr, fa_and, fa_or, bs_xorI, if_true, if_false, hV3.2.1, if_neg c, fn_bit0, cb, Bool.true_eq_false]
      | false =>
        by_cases d : g_gl G L i (g_fr G i) = g_gl G L i (g_to G i)
        · refine ⟨(nI (g_dl G W (g_gl G L i) (g_np G)), nI (i + 1), mu3), r - 1, ?_, by omega, i + 1, by rw [g_gl_e d], rfl, by omega, hfr, by rw [g_gl_e d]; exact hg⟩
          unfold FX5_parts_b56
          simp (disch := omega) only [fg_gd_t, fg_bd_s, fg_b2_s, fg_wr_s, fg_let_s, fn_add, fn_sub, fn_mul, fn_cl, fn_lt, fn_le, fn_eq, fn_eq0, fn_lt0, fn_0le, fn_0lt, fn_le0, fn_in, fn_shl, fn_shr, fa_and, fa_or, bs_xorI, if_true, if_false, hV3.2.1, if_neg c, fn_bit0, cb, r3, r4, g1, g2, if_pos d]
        · obtain ⟨mu4, k1, k2, k3⟩ := sf_merge (x := x) (a := g_gl G L i (g_fr G i)) (b := g_gl G L i (g_to G i)) q0.2.2.1 (fun p hp => by have := g_gl_lt hG (L := L) hp i (by omega); omega) (by omega) (by omega) hg
          have dm := g_dl_merge hG hW hi cb d
          refine ⟨(nI (g_dl G W (g_gl G L (i + 1)) (g_np G)), nI (i + 1), mu4), r - 1, ?_, by omega, i + 1, rfl, rfl, by omega, fun c hc hd => by show mu4 c = mu c; rw [k2 c hd, hfr c hc hd], ?_⟩
          · unfold FX5_parts_b56
            have e : nI (g_dl G W (g_gl G L i) (g_np G)) + (-1) = nI (g_dl G W (g_gl G L (i + 1)) (g_np G)) := by
              rw [dm, show (-1 : Int32) = -nI 1 from rfl, ← Int32.sub_eq_add_neg, fn_sub (by omega)]
              rfl
            simp (disch := omega) only [fg_gd_t, fg_bd_s, fg_b2_s, fg_wr_s, fg_let_s, fn_add, fn_sub, fn_mul, fn_cl, fn_lt, fn_le, fn_eq, fn_eq0, fn_lt0, fn_0le, fn_0lt, fn_le0, fn_in, fn_shl, fn_shr, fa_and, fa_or, bs_xorI, if_true, if_false, hV3.2.1, hV3.2.2.1, if_neg c, fn_bit0, cb, r3, r4, g1, g2, if_neg d, k1, e]
          · rw [g_gl_y cb d]
            exact k3

  · obtain ⟨h1, h2, h3, h4⟩ := ht
    obtain ⟨t1, t2⟩ := t
    have h2 : t1 = _ := h2
    subst h2
    refine ⟨t2, ?_, h3, h4⟩
    unfold FX5_parts
    rw [p1, fg_bd_s, m1, fg_bd_s, h1]
    rfl