/-! PLAIN of the class (own), its calls -/
theorem g_ex_s (P : Nat → Bool) (n : Nat) : g_ex P (n + 1) = true ↔ g_ex P n = true ∨ P n = true := by
  rw [g_ex_c, g_ex_c]
  constructor
  · rintro ⟨i, h1, h2⟩
    by_cases e : i = n
    · subst e
      exact Or.inr h2
    · exact Or.inl ⟨i, by omega, h2⟩
  · rintro (⟨i, h1, h2⟩ | h)
    · exact ⟨i, by omega, h2⟩
    · exact ⟨n, by omega, h⟩
def pl_e (G : bs_G) (i q : Nat) : Bool := g_ex (fun j => decide (g_sl G j = 1) && decide (g_to G j = q)) i
theorem pl_e_s (G : bs_G) (i q : Nat) : pl_e G (i + 1) q = true ↔ pl_e G i q = true ∨ (g_sl G i = 1 ∧ g_to G i = q) := by
  unfold pl_e
  rw [g_ex_s, Bool.and_eq_true, decide_eq_true_eq, decide_eq_true_eq]
def pl_v (G : bs_G) (i q : Nat) : Int32 := if pl_e G i q = true then -1 else nI 0
theorem pl_hn (G : bs_G) : ∀ n, g_hn (pl_T G) n = g_hn (pl_T0 G) n := by
  intro n
  induction n with
  | zero => rfl
  | succ n ih =>
    show max (g_hn (pl_T G) n) (g_sm (g_sl (g_pf (pl_T G) (n + 1))) (n + 1)) = max (g_hn (pl_T0 G) n) (g_sm (g_sl (g_pf (pl_T0 G) (n + 1))) (n + 1))
    rw [ih]
    rfl
theorem pl_pqT (G : bs_G) : g_pq (pl_T G) (g_nb G) (pl_k G (g_nu G)) = pl_T G := by
  show ((g_nb G, pl_k G (g_nu G), pl_n G (g_np G), g_hn (pl_T G) (pl_k G (g_nu G))), (pl_T0 G).2) = _
  rw [pl_hn]
  rfl
set_option maxHeartbeats 1000000 in
theorem sf_tback {x f p : Nat} {mu : bs_Mm} {G : bs_G} (hI : g_iv G) (hfp : f + 6 < p ∨ p + 6 < f) (hx : x + 62 < f) (hxp : x + 62 < p) (hV : cFv p G mu) : ∃ mu', FX1_turnBack x f mu p (x + 62) = some mu' ∧ cFv f (pl_T G) mu' ∧ ∀ a, (a < f ∨ f + 6 < a) → a ≠ x + 62 → mu' a = mu a := by
  have hG := hI.1
  have q0 := g_bn hG
  have oT := (pl_iv hI).1
  have bT : g_nb (pl_T G) = g_nb G := rfl
  have nn : pl_n G (g_np G) ≤ g_np G := g_sm1 (fun _ => g_if_le _) _
  obtain ⟨mu2, c1, c2, -, c4⟩ := sf_clear (x := x) (f := f) (mu := mu)
  unfold FX1_turnBack
  rw [c1, fg_bd_s, fg_wf_s]
  have L1 : ∃ t, fg_lp (FX1_turnBack_b11 x f p (x + 62)) fg_fu (nI 0, bs_fi mu2 (x + 62) 30 (.int (nI 0))) = some t ∧ (∀ q, q < 30 → bs_iv (t (x + 62) q) = pl_v G (g_nu G) q) ∧ ∀ a, a ≠ x + 62 → t a = mu2 a := by
    refine fg_lp_i (body := FX1_turnBack_b11 x f p (x + 62)) (fun r s => ∃ i, s.1 = nI i ∧ i + r = g_nu G ∧ (∀ q, q < 30 → bs_iv (s.2 (x + 62) q) = pl_v G i q) ∧ ∀ a, a ≠ x + 62 → s.2 a = mu2 a) _ (fun r s hJ => ?_) fg_fu (g_nu G) (nI 0, bs_fi mu2 (x + 62) 30 (.int (nI 0))) ⟨0, rfl, by omega, fun q hq => ?_, fun a ha => bs_fi_f ha⟩ (fg_fu_lt (by omega))
    · obtain ⟨iv, mu3⟩ := s
      obtain ⟨i, e1, hr, hq, hf⟩ := hJ
      have e1 : iv = nI i := e1
      subst e1
      have hq : ∀ q, q < 30 → bs_iv (mu3 (x + 62) q) = pl_v G i q := hq
      have hf : ∀ a, a ≠ x + 62 → mu3 a = mu2 a := hf
      have hP : cFv p G mu3 := cFv_of hV fun k hk => by rw [hf _ (by omega), c4 _ (by omega) (by omega)]
      by_cases z : g_nu G ≤ i
      · refine Or.inr ⟨mu3, ?_, ?_, hf⟩
        · unfold FX1_turnBack_b11
          simp (disch := omega) only [fg_gd_t, fg_bd_s, fg_b2_s, fg_wr_s, fg_let_s, fn_add, fn_sub, fn_mul, fn_cl, fn_lt, fn_le, fn_eq, fn_eq0, fn_lt0, fn_0le, fn_0lt, fn_le0, fn_in, fn_shl, fn_shr, fa_and, fa_or, bs_xorI, if_true, if_false, hP.2.1, if_pos z]
        · rw [show g_nu G = i by omega]
          exact hq
      · have hi : i < g_nu G := by omega
        have b1 := g_bd hG hi
        have slB := sf_slB (x := x) hP hG (show i < 2 ^ 30 by omega)
        rcases g_sl01 G i with w | w
        · refine Or.inl ⟨(nI (i + 1), mu3), r - 1, ?_, by omega, i + 1, rfl, by omega, fun q hq2 => ?_, hf⟩
          · unfold FX1_turnBack_b11
            simp (disch := omega) only [fg_gd_t, fg_bd_s, fg_b2_s, fg_wr_s, fg_let_s, fn_add, fn_sub, fn_mul, fn_cl, fn_lt, fn_le, fn_eq, fn_eq0, fn_lt0, fn_0le, fn_0lt, fn_le0, fn_in, fn_shl, fn_shr, fa_and, fa_or, bs_xorI, if_true, if_false, hP.2.1, if_neg z, slB, w]
          · rw [hq q hq2]
            have e : pl_e G (i + 1) q = true ↔ pl_e G i q = true := by
              rw [pl_e_s]
              exact ⟨fun h => h.elim id fun h => by omega, Or.inl⟩
            unfold pl_v
            by_cases d : pl_e G i q = true
            · rw [if_pos d, if_pos (e.mpr d)]
            · rw [if_neg d, if_neg (fun h => d (e.mp h))]
        · have to1 := hP.2.2.2.2.2.2.2.1 i hi
          refine Or.inl ⟨(nI (i + 1), bs_up mu3 (x + 62) (g_to G i) (.int (-1))), r - 1, ?_, by omega, i + 1, rfl, by omega, fun q hq2 => ?_, fun a ha => (bs_up_f ha).trans (hf a ha)⟩
          · unfold FX1_turnBack_b11
            simp (disch := omega) only [fg_gd_t, fg_bd_s, fg_b2_s, fg_wr_s, fg_let_s, fn_add, fn_sub, fn_mul, fn_cl, fn_lt, fn_le, fn_eq, fn_eq0, fn_lt0, fn_0le, fn_0lt, fn_le0, fn_in, fn_shl, fn_shr, fa_and, fa_or, bs_xorI, if_true, if_false, hP.2.1, if_neg z, slB, w, to1, if_neg (show ¬ (1 : Nat) = 0 by decide)]
          · show bs_iv (bs_up mu3 (x + 62) (g_to G i) (.int (-1)) (x + 62) q) = pl_v G (i + 1) q
            unfold pl_v
            by_cases e : q = g_to G i
            · subst e
              rw [bs_up_eq, if_pos ((pl_e_s G i _).mpr (Or.inr ⟨w, rfl⟩))]
              rfl
            · rw [bs_up_j e, hq q hq2]
              unfold pl_v
              by_cases d : pl_e G i q = true
              · rw [if_pos d, if_pos ((pl_e_s G i q).mpr (Or.inl d))]
              · rw [if_neg d, if_neg (fun h => ((pl_e_s G i q).mp h).elim d fun h => e h.2.symm)]
    · show bs_iv (bs_fi mu2 (x + 62) 30 (.int (nI 0)) (x + 62) q) = pl_v G 0 q
      have : bs_fi mu2 (x + 62) 30 (.int (nI 0)) (x + 62) q = .int (nI 0) := by simp [bs_fi, hq]
      rw [this]
      rfl
  obtain ⟨m3, l1, l2, l3⟩ := L1
  rw [l1, fg_bd_s]
  have hP3 : cFv p G m3 := cFv_of hV fun k hk => by rw [l3 _ (by omega), c4 _ (by omega) (by omega)]
  have L2 : ∃ t, fg_lp (FX1_numberAnew_b4 x (x + 62) (nI (g_np G))) fg_fu (nI 0, nI 0, m3) = some t ∧ t.1 = nI (pl_n G (g_np G)) ∧ (∀ q, q < g_np G → bs_iv (t.2 (x + 62) q) = pl_w G q) ∧ ∀ a, a ≠ x + 62 → t.2 a = mu2 a := by
    refine fg_lp_i (body := FX1_numberAnew_b4 x (x + 62) (nI (g_np G))) (fun r s => ∃ q, s.1 = nI (pl_n G q) ∧ s.2.1 = nI q ∧ q + r = g_np G ∧ (∀ j, j < q → bs_iv (s.2.2 (x + 62) j) = pl_w G j) ∧ (∀ j, q ≤ j → j < 30 → bs_iv (s.2.2 (x + 62) j) = pl_v G (g_nu G) j) ∧ ∀ a, a ≠ x + 62 → s.2.2 a = mu2 a) _ (fun r s hJ => ?_) fg_fu (g_np G) (nI 0, nI 0, m3) ⟨0, rfl, rfl, by omega, fun j hj => absurd hj (Nat.not_lt_zero j), fun j _ hj => l2 j hj, l3⟩ (fg_fu_lt (by omega))
    obtain ⟨kv, qv, mu3⟩ := s
    obtain ⟨q, e1, e2, hr, h1, h2, hf⟩ := hJ
    have e1 : kv = nI (pl_n G q) := e1
    have e2 : qv = nI q := e2
    subst e1
    subst e2
    have h1 : ∀ j, j < q → bs_iv (mu3 (x + 62) j) = pl_w G j := h1
    have h2 : ∀ j, q ≤ j → j < 30 → bs_iv (mu3 (x + 62) j) = pl_v G (g_nu G) j := h2
    have hf : ∀ a, a ≠ x + 62 → mu3 a = mu2 a := hf
    by_cases z : g_np G ≤ q
    · have e : q = g_np G := by omega
      subst e
      refine Or.inr ⟨(nI (pl_n G (g_np G)), mu3), ?_, rfl, h1, hf⟩
      unfold FX1_numberAnew_b4
      simp (disch := omega) only [fg_gd_t, fg_bd_s, fg_b2_s, fg_wr_s, fg_let_s, fn_add, fn_sub, fn_mul, fn_cl, fn_lt, fn_le, fn_eq, fn_eq0, fn_lt0, fn_0le, fn_0lt, fn_le0, fn_in, fn_shl, fn_shr, fa_and, fa_or, bs_xorI, if_true, if_false, if_pos z]
    · have v := h2 q (Nat.le_refl _) (by omega)
      have s1 : pl_n G (q + 1) = pl_n G q + g_if (pl_g G q = false) := rfl
      by_cases d : pl_g G q = true
      · have v : bs_iv (mu3 (x + 62) q) = -1 := v.trans (if_pos d)
        rw [d, g_if0 (by decide)] at s1
        refine Or.inl ⟨(nI (pl_n G q), nI (q + 1), mu3), r - 1, ?_, by omega, q + 1, by rw [s1]; rfl, rfl, by omega, fun j hj => ?_, fun j hj hj2 => h2 j (by omega) hj2, hf⟩
        · unfold FX1_numberAnew_b4
          simp (disch := omega) only [fg_gd_t, fg_bd_s, fg_b2_s, fg_wr_s, fg_let_s, fn_add, fn_sub, fn_mul, fn_cl, fn_lt, fn_le, fn_eq, fn_eq0, fn_lt0, fn_0le, fn_0lt, fn_le0, fn_in, fn_shl, fn_shr, fa_and, fa_or, bs_xorI, if_true, if_false, if_neg z, v]
        · by_cases e : j = q
          · subst e
            exact v.trans (if_pos d).symm
          · exact h1 j (by omega)
      · have v : bs_iv (mu3 (x + 62) q) = nI 0 := v.trans (if_neg d)
        have d2 : pl_g G q = false := Bool.eq_false_iff.mpr d
        rw [g_if1 d2] at s1
        refine Or.inl ⟨(nI (pl_n G q + 1), nI (q + 1), bs_up mu3 (x + 62) q (.int (nI (pl_n G q)))), r - 1, ?_, by omega, q + 1, by rw [s1], rfl, by omega, fun j hj => ?_, fun j hj hj2 => ?_, fun a ha => (bs_up_f ha).trans (hf a ha)⟩
        · unfold FX1_numberAnew_b4
          simp (disch := omega) only [fg_gd_t, fg_bd_s, fg_b2_s, fg_wr_s, fg_let_s, fn_add, fn_sub, fn_mul, fn_cl, fn_lt, fn_le, fn_eq, fn_eq0, fn_lt0, fn_0le, fn_0lt, fn_le0, fn_in, fn_shl, fn_shr, fa_and, fa_or, bs_xorI, if_true, if_false, if_neg z, v, if_neg (show ¬ (nI 0 = (-1 : Int32)) by decide)]
        · show bs_iv (bs_up mu3 (x + 62) q (.int (nI (pl_n G q))) (x + 62) j) = pl_w G j
          by_cases e : j = q
          · subst e
            rw [bs_up_eq, pl_w, if_neg d]
            rfl
          · rw [bs_up_j e]
            exact h1 j (by omega)
        · show bs_iv (bs_up mu3 (x + 62) q (.int (nI (pl_n G q))) (x + 62) j) = pl_v G (g_nu G) j
          rw [bs_up_j (by omega)]
          exact h2 j (by omega) hj2
  obtain ⟨⟨kv, m4⟩, k1, k2, k3, k4⟩ := L2
  have k2 : kv = nI (pl_n G (g_np G)) := k2
  subst k2
  have k3 : ∀ q, q < g_np G → bs_iv (m4 (x + 62) q) = pl_w G q := k3
  have k4 : ∀ a, a ≠ x + 62 → m4 a = mu2 a := k4
  have nu1 : FX1_numberAnew x m3 (x + 62) (bs_iv (m3 p 8)) = some (nI (pl_n G (g_np G)), m4) := by
    unfold FX1_numberAnew
    rw [hP3.2.2.1, k1, fg_bd_s]
  rw [nu1, fg_b2_s, fg_wr_s]
  obtain ⟨m5, hm5⟩ : ∃ m, m = bs_up m4 f 8 (.int (nI (pl_n G (g_np G)))) := ⟨_, rfl⟩
  rw [← hm5]
  have f5 : ∀ a, (a < f ∨ f + 6 < a) → m5 a = m4 a := fun a ha => by rw [hm5, bs_up_f (by omega)]
  have V5 : cFv f (g_pq (pl_T G) 0 (pl_k G 0)) m5 := by
    refine cFv_cg (G := g_em (pl_n G (g_np G))) (cFv_of (c2 (pl_n G (g_np G)) (by omega)) fun k hk => ?_) rfl (fun j hj => absurd hj (Nat.not_lt_zero j)) (fun j hj => absurd hj (Nat.not_lt_zero j)) (fun j hj => absurd hj (Nat.not_lt_zero j)) (fun j hj => absurd hj (Nat.not_lt_zero j)) fun j hj => absurd hj (Nat.not_lt_zero j)
    rw [hm5]
    by_cases e : k = 0
    · subst e
      funext j
      by_cases ej : j = 8
      · subst ej
        rw [Nat.add_zero, bs_up_eq, bs_up_eq]
      · rw [Nat.add_zero, bs_up_j ej, bs_up_j ej, k4 _ (by omega)]
    · rw [bs_up_f (by omega), bs_up_f (by omega), k4 _ (by omega)]
  have L3 : ∃ t, fg_lp (FX1_turnBack_b59 x f p (x + 62)) fg_fu (nI 0, nI 0, m5) = some t ∧ cFv f (pl_T G) t ∧ ∀ a, (a < f ∨ f + 6 < a) → t a = m5 a := by
    refine fg_lp_i (body := FX1_turnBack_b59 x f p (x + 62)) (fun r s => ∃ b n, s.1 = nI n ∧ s.2.1 = nI b ∧ b + r = g_nb G ∧ n ≤ g_nu G ∧ (∀ i, i < n → g_bo G i < b) ∧ (∀ i, n ≤ i → i < g_nu G → b ≤ g_bo G i) ∧ pl_m G n = 0 ∧ pl_s G n = n ∧ cFv f (g_pq (pl_T G) b (pl_k G n)) s.2.2 ∧ ∀ a, (a < f ∨ f + 6 < a) → s.2.2 a = m5 a) _ (fun r s hJ => ?_) fg_fu (g_nb G) (nI 0, nI 0, m5) ⟨0, 0, rfl, rfl, by omega, Nat.zero_le _, fun i hi => absurd hi (Nat.not_lt_zero i), fun i _ _ => Nat.zero_le _, rfl, rfl, V5, fun _ _ => rfl⟩ (fg_fu_lt (by omega))
    obtain ⟨nv, bv, mu3⟩ := s
    obtain ⟨b, n, e1, e2, hr, hn, h1, h2, h3, h4, h5, hf⟩ := hJ
    have e1 : nv = nI n := e1
    have e2 : bv = nI b := e2
    subst e1
    subst e2
    have h5 : cFv f (g_pq (pl_T G) b (pl_k G n)) mu3 := h5
    have hf : ∀ a, (a < f ∨ f + 6 < a) → mu3 a = m5 a := hf
    have hP : cFv p G mu3 := cFv_of hV fun k hk => by rw [hf _ (by omega), f5 _ (by omega), k4 _ (by omega), c4 _ (by omega) (by omega)]
    by_cases z : g_nb G ≤ b
    · have eb : b = g_nb G := by omega
      subst eb
      have en : n = g_nu G := by
        by_cases y : n < g_nu G
        · have := h2 n (Nat.le_refl _) y
          have := g_bd hG y
          omega
        · omega
      subst en
      rw [pl_pqT] at h5
      refine Or.inr ⟨mu3, ?_, h5, hf⟩
      unfold FX1_turnBack_b59
      simp (disch := omega) only [fg_gd_t, fg_bd_s, fg_b2_s, fg_wr_s, fg_let_s, fn_add, fn_sub, fn_mul, fn_cl, fn_lt, fn_le, fn_eq, fn_eq0, fn_lt0, fn_0le, fn_0lt, fn_le0, fn_in, fn_shl, fn_shr, fa_and, fa_or, bs_xorI, if_true, if_false, hP.1, if_pos z]
    · have hb : b < g_nb G := by omega
      obtain ⟨m6, a1, a2, a3⟩ := sf_stT (x := x) oT h5 (show b < g_nb (pl_T G) by rw [bT]; omega)
      have a1 : FX1_startBalloon x f mu3 (nI (g_so G b)) = some m6 := a1
      have hP6 : cFv p G m6 := cFv_of hP fun k hk => by rw [a3 _ (by omega)]
      obtain ⟨n1, m7, d1, d2, d3, d4, d5, d6, d7, d8⟩ := sf_tbB (x := x) hI hfp hx hP6 (fun q hq => by rw [a3 _ (by omega), hf _ (by omega), f5 _ (by omega)]; exact k3 q hq) a2 hb h1 h2 hn h3 h4
      refine Or.inl ⟨(nI n1, nI (b + 1), m7), r - 1, ?_, by omega, b + 1, n1, rfl, rfl, by omega, d4, d5, d6, d7, d8, d2, fun a ha => by rw [← hf a ha, ← a3 a ha]; exact d3 a ha⟩
      unfold FX1_turnBack_b59
      simp (disch := omega) only [fg_gd_t, fg_bd_s, fg_b2_s, fg_wr_s, fg_let_s, fn_add, fn_sub, fn_mul, fn_cl, fn_lt, fn_le, fn_eq, fn_eq0, fn_lt0, fn_0le, fn_0lt, fn_le0, fn_in, fn_shl, fn_shr, fa_and, fa_or, bs_xorI, if_true, if_false, hP.1, if_neg z, hP.2.2.2.2.1 b hb, a1, d1]
  obtain ⟨m8, o1, o2, o3⟩ := L3
  rw [o1, fg_bd_s]
  exact ⟨m8, rfl, o2, fun a ha hb => by rw [o3 a ha, f5 a ha, k4 a hb, c4 a (by omega) (by omega)]⟩
/-- one figure more -/
def g_pu (FG : Nat → bs_G) (fc : Nat) (G : bs_G) : Nat → bs_G := fun k => if k = fc then G else FG k
theorem g_pu_s (FG : Nat → bs_G) (fc : Nat) (G : bs_G) : g_pu FG fc G fc = G := if_pos rfl
theorem g_pu_n {FG : Nat → bs_G} {fc k : Nat} {G : bs_G} (h : k ≠ fc) : g_pu FG fc G k = FG k := if_neg h
theorem cFG_pu {x fc : Nat} {FG : Nat → bs_G} {mu mu' : bs_Mm} {G : bs_G} (hF : cFG x fc FG mu) (h12 : fc < 12) (hG : g_ok G) (hV : cFv (x + 63 + 7 * fc) G mu') (hc : bs_iv (mu' x 13) = nI (fc + 1)) (hf : ∀ a, x + 63 ≤ a → a < x + 63 + 7 * fc → mu' a = mu a) : cFG x (fc + 1) (g_pu FG fc G) mu' := by
  refine ⟨by omega, hc, fun k hk => ?_⟩
  by_cases e : k = fc
  · subst e
    rw [g_pu_s]
    exact ⟨hG, hV⟩
  · rw [g_pu_n e]
    exact ⟨(hF.2.2 k (by omega)).1, cFv_of (hF.2.2 k (by omega)).2 fun i hi => hf _ (by omega) (by omega)⟩
theorem sf_plainN {x fc : Nat} {mu : bs_Mm} (hc : bs_iv (mu x 13) = nI fc) (h : fc ≤ 12) {a : Int32} (ha : a < 0 ∨ nI fc ≤ a) : FX11_plain x mu a = some (-1, mu) := by
  unfold FX11_plain
  rw [sf_figN hc ha, fg_bd_s, fg_oq_n]
  by_cases y : fc < 12
  · rw [sf_freeY hc y, fg_bd_s, fg_oq_s, fg_isF_y y, fg_gd_t]
  · have : fc = 12 := by omega
    subst this
    rw [sf_freeN hc, fg_bd_s, fg_oq_n]
theorem sf_plainB {x j : Nat} {mu : bs_Mm} (hc : bs_iv (mu x 13) = nI 12) (hj : j < 12) : FX11_plain x mu (nI j) = some (-1, mu) := by
  unfold FX11_plain
  rw [sf_figY hc (by omega) hj, fg_bd_s, fg_oq_s, fg_isF_y hj, fg_gd_t, sf_freeN hc, fg_bd_s, fg_oq_n]
theorem sf_plainY {x fc j : Nat} {FG : Nat → bs_G} {mu : bs_Mm} (hF : cFG x fc FG mu) (h12 : fc < 12) (hj : j < fc) (hI : g_iv (FG j)) : ∃ mu', FX11_plain x mu (nI j) = some (nI fc, mu') ∧ cFG x (fc + 1) (g_pu FG fc (pl_T (FG j))) mu' ∧ (∀ k, k ≠ 13 → mu' x k = mu x k) ∧ ∀ a, a ≠ x → a ≠ x + 62 → (a < x + 63 + 7 * fc ∨ x + 63 + 7 * fc + 6 < a) → mu' a = mu a := by
  have hc := hF.2.1
  obtain ⟨mu1, a1, a2, a3⟩ := sf_tback (x := x) (f := x + 63 + 7 * fc) hI (by omega) (by omega) (by omega) (hF.2.2 j hj).2
  have e13 : bs_iv (mu1 x 13) = nI fc := by rw [a3 _ (by omega) (by omega)]; exact hc
  refine ⟨bs_up mu1 x 13 (.int (nI (fc + 1))), ?_, ?_, fun k hk => by rw [bs_up_j hk, a3 _ (by omega) (by omega)], fun a h1 h2 h3 => by rw [bs_up_f h1, a3 a h3 h2]⟩
  · unfold FX11_plain
    rw [sf_figY hc (by omega) hj, fg_bd_s, fg_oq_s, fg_isF_y (by omega), fg_gd_t, sf_freeY hc h12, fg_bd_s, fg_oq_s, fg_isF_y h12, fg_gd_t, a1, fg_bd_s, fg_wr_s, e13, fn_add]
  · refine cFG_pu hF h12 (pl_iv hI).1 (cFv_of a2 fun k hk => by rw [bs_up_f (by omega)]) (by rw [bs_up_eq]; rfl) fun a h1 h2 => by rw [bs_up_f (by omega), a3 a (by omega) (by omega)]
