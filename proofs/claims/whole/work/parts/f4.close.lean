/-! READING A FIGURE (own): points numbered anew, both sides -/
def rf_li (s : rf_S) (p : Nat) : Bool := decide (rf_r s p = p)
def rf_T (s : rf_S) : bs_G := ((g_nb (rf_g s), g_nu (rf_g s), pl_lv (rf_li s) (g_np (rf_g s)), g_mh (rf_g s)), g_so (rf_g s), g_le (rf_g s), (fun i => pl_lv (rf_li s) (rf_r s (g_fr (rf_g s) i))), (fun i => pl_lv (rf_li s) (rf_r s (g_to (rf_g s) i))), g_bo (rf_g s))
theorem rl_lt {live : Nat → Bool} {p n : Nat} (h : p < n) (hl : live p = true) : pl_lv live p < pl_lv live n := by
  have a := g_sm_ul (fun q => g_if (live q = true)) (show p + 1 ≤ n by omega)
  have b : pl_lv live (p + 1) = pl_lv live p + g_if (live p = true) := rfl
  rw [g_if1 hl] at b
  have a : pl_lv live (p + 1) ≤ pl_lv live n := a
  omega
theorem rl_inj {live : Nat → Bool} {p q : Nat} (hp : live p = true) (hq : live q = true) (h : pl_lv live p = pl_lv live q) : p = q := by
  by_cases c : p < q
  · have := rl_lt c hp
    omega
  · by_cases d : q < p
    · have := rl_lt d hq
      omega
    · omega
theorem rl_ix {live : Nat → Bool} : ∀ n c, c < pl_lv live n → ∃ p, p < n ∧ live p = true ∧ pl_lv live p = c := by
  intro n
  induction n with
  | zero => intro c h; exact absurd h (Nat.not_lt_zero c)
  | succ n ih =>
    intro c h
    have e : pl_lv live (n + 1) = pl_lv live n + g_if (live n = true) := rfl
    by_cases d : c < pl_lv live n
    · obtain ⟨p, h1, h2⟩ := ih c d
      exact ⟨p, by omega, h2⟩
    · cases u : live n with
      | true =>
        rw [u, g_if1 rfl] at e
        exact ⟨n, by omega, u, by omega⟩
      | false =>
        rw [u, g_if0 (by decide)] at e
        omega
theorem rf_lr {s : rf_S} (h : rf_ok s) {z : Nat} (hz : z < g_np (rf_g s)) : rf_li s (rf_r s z) = true ∧ rf_r s z < g_np (rf_g s) := by
  have c := h.2.2.2.2.2.2.2.1 z hz
  exact ⟨decide_eq_true c.2, by omega⟩
theorem rf_T_en {s : rf_S} (h : rf_ok s) {p : Nat} (hp : rf_li s p = true) : g_en (rf_T s) (pl_lv (rf_li s) p) = g_en (rf_R (rf_g s) (rf_r s)) p := by
  have one : ∀ z, z < g_np (rf_g s) → g_if (pl_lv (rf_li s) (rf_r s z) = pl_lv (rf_li s) p) = g_if (rf_r s z = p) := fun z hz => g_if_congr ⟨fun e => rl_inj (rf_lr h hz).1 hp e, fun e => by rw [e]⟩
  refine g_sm_cg _ fun i hi => ?_
  have c := h.2.2.1 i hi
  show g_if (pl_lv (rf_li s) (rf_r s (g_fr (rf_g s) i)) = pl_lv (rf_li s) p) + g_if (pl_lv (rf_li s) (rf_r s (g_to (rf_g s) i)) = pl_lv (rf_li s) p) = g_if (rf_r s (g_fr (rf_g s) i) = p) + g_if (rf_r s (g_to (rf_g s) i) = p)
  rw [one _ c.1, one _ c.2]
theorem rf_T_iv {s : rf_S} (h : rf_ok s) : g_iv (rf_T s) := by
  have lr := fun z hz => rf_lr (s := s) h (z := z) hz
  have np := pl_lv_le (rf_li s) (g_np (rf_g s))
  have q0 := g_bn h.1
  obtain ⟨h1, h2, h3, h4, h5, h6, h7, h8, h9, h10, h11, h12⟩ := h
  have q1 : g_np (rf_g s) ≤ 30 := q0.2.2.1
  refine ⟨⟨h1.1, h1.2.1, show pl_lv (rf_li s) (g_np (rf_g s)) ≤ 30 by omega, fun i hi => ?_, h1.2.2.2.2.1, h1.2.2.2.2.2.1, h1.2.2.2.2.2.2.1, h1.2.2.2.2.2.2.2⟩, fun i hi => ?_, show pl_lv (rf_li s) (g_np (rf_g s)) ≤ g_nb (rf_g s) + g_nu (rf_g s) by omega, fun i hi => (h9 i hi).1⟩
  · have c := h3 i hi
    exact ⟨rl_lt (lr _ c.1).2 (lr _ c.1).1, rl_lt (lr _ c.2).2 (lr _ c.2).1, (h1.2.2.2.1 i hi).2.2⟩
  · obtain ⟨-, t2, t3⟩ := g_tw_in (G := rf_T s) (i := i) (by omega)
    have e := h10 i t2 t3
    show pl_lv (rf_li s) (rf_r s (g_fr (rf_g s) (i + 1))) = pl_lv (rf_li s) (rf_r s (g_to (rf_g s) i))
    rw [e]
theorem sf_numA {x p0 n : Nat} {live : Nat → Bool} {mu : bs_Mm} (hn : n ≤ 30) (h : ∀ j, j < n → bs_iv (mu p0 j) = if live j = true then nI 0 else -1) : ∃ mu', FX1_numberAnew x mu p0 (nI n) = some (nI (pl_lv live n), mu') ∧ (∀ j, j < n → bs_iv (mu' p0 j) = if live j = true then nI (pl_lv live j) else -1) ∧ ∀ a, a ≠ p0 → mu' a = mu a := by
  have L : ∃ t, fg_lp (FX1_numberAnew_b4 x p0 (nI n)) fg_fu (nI 0, nI 0, mu) = some t ∧ t.1 = nI (pl_lv live n) ∧ (∀ j, j < n → bs_iv (t.2 p0 j) = if live j = true then nI (pl_lv live j) else -1) ∧ ∀ a, a ≠ p0 → t.2 a = mu a := by
    refine fg_lp_i (body := FX1_numberAnew_b4 x p0 (nI n)) (fun r s => ∃ q, s.1 = nI (pl_lv live q) ∧ s.2.1 = nI q ∧ q + r = n ∧ (∀ j, j < q → bs_iv (s.2.2 p0 j) = if live j = true then nI (pl_lv live j) else -1) ∧ (∀ j, q ≤ j → j < n → bs_iv (s.2.2 p0 j) = if live j = true then nI 0 else -1) ∧ ∀ a, a ≠ p0 → s.2.2 a = mu a) _ (fun r s hJ => ?_) fg_fu n (nI 0, nI 0, mu) ⟨0, rfl, rfl, by omega, fun j hj => absurd hj (Nat.not_lt_zero j), fun j _ hj => h j hj, fun _ _ => rfl⟩ (fg_fu_lt (by omega))
    obtain ⟨kv, qv, mu3⟩ := s
    obtain ⟨q, e1, e2, hr, h1, h2, hf⟩ := hJ
    have e1 : kv = nI (pl_lv live q) := e1
    have e2 : qv = nI q := e2
    subst e1
    subst e2
    have h1 : ∀ j, j < q → bs_iv (mu3 p0 j) = if live j = true then nI (pl_lv live j) else -1 := h1
    have h2 : ∀ j, q ≤ j → j < n → bs_iv (mu3 p0 j) = if live j = true then nI 0 else -1 := h2
    have hf : ∀ a, a ≠ p0 → mu3 a = mu a := hf
    by_cases z : n ≤ q
    · have e : q = n := by omega
      subst e
      refine Or.inr ⟨(nI (pl_lv live q), mu3), ?_, rfl, h1, hf⟩
      unfold FX1_numberAnew_b4
      simp (disch := omega) only [fg_gd_t, fg_bd_s, fg_b2_s, fg_wr_s, fg_let_s, fn_add, fn_sub, fn_mul, fn_cl, fn_lt, fn_le, fn_eq, fn_eq0, fn_lt0, fn_0le, fn_0lt, fn_le0, fn_in, fn_shl, fn_shr, fa_and, fa_or, bs_xorI, if_true, if_false, if_pos z]
    · have v := h2 q (Nat.le_refl _) (by omega)
      have s1 : pl_lv live (q + 1) = pl_lv live q + g_if (live q = true) := rfl
      by_cases d : live q = true
      · rw [if_pos d] at v
        rw [g_if1 d] at s1
        refine Or.inl ⟨(nI (pl_lv live q + 1), nI (q + 1), bs_up mu3 p0 q (.int (nI (pl_lv live q)))), r - 1, ?_, by omega, q + 1, by rw [s1], rfl, by omega, fun j hj => ?_, fun j hj hj2 => ?_, fun a ha => (bs_up_f ha).trans (hf a ha)⟩
        · unfold FX1_numberAnew_b4
          simp (disch := omega) only [fg_gd_t, fg_bd_s, fg_b2_s, fg_wr_s, fg_let_s, fn_add, fn_sub, fn_mul, fn_cl, fn_lt, fn_le, fn_eq, fn_eq0, fn_lt0, fn_0le, fn_0lt, fn_le0, fn_in, fn_shl, fn_shr, fa_and, fa_or, bs_xorI, if_true, if_false, if_neg z, v, if_neg (show ¬ (nI 0 = (-1 : Int32)) by decide)]
        · show bs_iv (bs_up mu3 p0 q (.int (nI (pl_lv live q))) p0 j) = _
          by_cases e : j = q
          · subst e
            rw [bs_up_eq, if_pos d]
            rfl
          · rw [bs_up_j e]
            exact h1 j (by omega)
        · show bs_iv (bs_up mu3 p0 q (.int (nI (pl_lv live q))) p0 j) = _
          rw [bs_up_j (by omega)]
          exact h2 j (by omega) hj2
      · rw [if_neg d] at v
        rw [g_if0 d] at s1
        refine Or.inl ⟨(nI (pl_lv live q), nI (q + 1), mu3), r - 1, ?_, by omega, q + 1, by rw [s1]; rfl, rfl, by omega, fun j hj => ?_, fun j hj hj2 => h2 j (by omega) hj2, hf⟩
        · unfold FX1_numberAnew_b4
          simp (disch := omega) only [fg_gd_t, fg_bd_s, fg_b2_s, fg_wr_s, fg_let_s, fn_add, fn_sub, fn_mul, fn_cl, fn_lt, fn_le, fn_eq, fn_eq0, fn_lt0, fn_0le, fn_0lt, fn_le0, fn_in, fn_shl, fn_shr, fa_and, fa_or, bs_xorI, if_true, if_false, if_neg z, v]
        · by_cases e : j = q
          · subst e
            rw [if_neg d]
            exact v
          · exact h1 j (by omega)
  obtain ⟨⟨kv, m4⟩, k1, k2, k3, k4⟩ := L
  have k2 : kv = nI (pl_lv live n) := k2
  subst k2
  refine ⟨m4, ?_, k3, k4⟩
  unfold FX1_numberAnew
  rw [k1, fg_bd_s]
set_option maxHeartbeats 2000000 in
theorem sf_close {x : Nat} {s : rf_S} {mu : bs_Mm} (hok : rf_ok s) (hc : rf_c x s mu) : ∃ mu', FX1_closeUp x (x + 10) mu (x + 17) = some mu' ∧ cFv (x + 10) (rf_T s) mu' ∧ cfr x mu mu' := by
  have lr := fun z hz => rf_lr (s := s) hok (z := z) hz
  have q0 := g_bn hok.1
  have q1 : g_np (rf_g s) ≤ 30 := q0.2.2.1
  have q2 : g_nu (rf_g s) ≤ 24 := q0.2.1
  have h3 := hok.2.2.1
  obtain ⟨c1, c2, c3, c4, c5, c6, c7⟩ := hc
  obtain ⟨m1, a1, a2, a3⟩ := sf_numA (x := x) (p0 := x + 17) (n := g_np (rf_g s)) (live := rf_li s) (mu := mu) q1 (fun j hj => by
    rw [c2 j (by omega)]
    unfold rf_li
    by_cases e : rf_r s j = j
    · rw [if_neg (fun h => h.2 e), decide_eq_true e, if_pos rfl]
    · rw [if_pos ⟨hj, e⟩, decide_eq_false e, if_neg (by decide)])
  have e8 : bs_iv (mu (x + 10) 8) = nI (g_np (rf_g s)) := c1.2.2.1
  have e81 : bs_iv (m1 (x + 10) 8) = nI (g_np (rf_g s)) := by rw [a3 _ (by omega)]; exact e8
  have e71 : bs_iv (m1 (x + 10) 7) = nI (g_nu (rf_g s)) := by rw [a3 _ (by omega)]; exact c1.2.1
  -- ends
  have L1 : ∃ t, fg_lp (FX1_closeUp_b11 x (x + 10) (x + 17) (nI (pl_lv (rf_li s) (g_np (rf_g s))))) fg_fu (nI 0, m1) = some t ∧ (∀ q, q < g_np (rf_g s) → rf_li s q = true → bs_iv (t (x + 16) (pl_lv (rf_li s) q)) = nI (g_en (rf_R (rf_g s) (rf_r s)) q)) ∧ ∀ a, a ≠ x + 16 → t a = m1 a := by
    refine fg_lp_i (body := FX1_closeUp_b11 x (x + 10) (x + 17) (nI (pl_lv (rf_li s) (g_np (rf_g s))))) (fun r st => ∃ p, st.1 = nI p ∧ p + r = g_np (rf_g s) ∧ (∀ q, q < p → rf_li s q = true → bs_iv (st.2 (x + 16) (pl_lv (rf_li s) q)) = nI (g_en (rf_R (rf_g s) (rf_r s)) q)) ∧ (∀ q, p ≤ q → q < 30 → bs_iv (st.2 (x + 16) q) = nI (g_en (rf_R (rf_g s) (rf_r s)) q)) ∧ ∀ a, a ≠ x + 16 → st.2 a = m1 a) _ (fun r st hJ => ?_) fg_fu (g_np (rf_g s)) (nI 0, m1) ⟨0, rfl, by omega, fun q hq => absurd hq (Nat.not_lt_zero q), fun q _ hq => by show bs_iv (m1 (x + 16) q) = _; rw [a3 _ (by omega)]; exact c7 q hq, fun _ _ => rfl⟩ (fg_fu_lt (by omega))
    obtain ⟨pv, mu1⟩ := st
    obtain ⟨p, e1, hr, h1, h2, hf⟩ := hJ
    have e1 : pv = nI p := e1
    subst e1
    have h1 : ∀ q, q < p → rf_li s q = true → bs_iv (mu1 (x + 16) (pl_lv (rf_li s) q)) = nI (g_en (rf_R (rf_g s) (rf_r s)) q) := h1
    have h2 : ∀ q, p ≤ q → q < 30 → bs_iv (mu1 (x + 16) q) = nI (g_en (rf_R (rf_g s) (rf_r s)) q) := h2
    have hf : ∀ a, a ≠ x + 16 → mu1 a = m1 a := hf
    have u8 : bs_iv (mu1 (x + 10) 8) = nI (g_np (rf_g s)) := by rw [hf _ (by omega)]; exact e81
    by_cases z : g_np (rf_g s) ≤ p
    · refine Or.inr ⟨mu1, ?_, fun q hq => h1 q (by omega), hf⟩
      unfold FX1_closeUp_b11
      simp (disch := omega) only [fg_gd_t, fg_bd_s, fg_b2_s, fg_wr_s, fg_let_s, fn_add, fn_sub, fn_mul, fn_cl, fn_lt, fn_le, fn_eq, fn_eq0, fn_lt0, fn_0le, fn_0lt, fn_le0, fn_in, fn_shl, fn_shr, fa_and, fa_or, bs_xorI, if_true, if_false, u8, if_pos z]
    · have hp : p < g_np (rf_g s) := by omega
      have v := a2 p hp
      rw [← hf (x + 17) (by omega)] at v
      have lp := pl_lv_le (rf_li s) p
      by_cases d : rf_li s p = true
      · rw [if_pos d] at v
        have up : x + 10 + 6 = x + 16 := by omega
        refine Or.inl ⟨(nI (p + 1), bs_up mu1 (x + 16) (pl_lv (rf_li s) p) (.int (nI (g_en (rf_R (rf_g s) (rf_r s)) p)))), r - 1, ?_, by omega, p + 1, rfl, by omega, fun q hq hl => ?_, fun q q1 q2 => ?_, fun a ha => (bs_up_f ha).trans (hf a ha)⟩
        · have v2 := h2 p (Nat.le_refl _) (by omega)
          unfold FX1_closeUp_b11
          rw [u8, if_neg (fun w => z ((nI_leI (by omega) (by omega)).mp w)), fn_in (show p < 30 by omega) (by decide), fg_gd_t, fn_cl (show p < 2 ^ 31 by omega), v, if_neg (al_nm (by omega)), fg_gd_t, fg_gd_t, fn_in (show pl_lv (rf_li s) p < 30 by omega) (by decide), fg_gd_t, fn_cl (show pl_lv (rf_li s) p < 2 ^ 31 by omega), up, v2, fg_wr_s, fn_add]
        · show bs_iv (bs_up mu1 (x + 16) (pl_lv (rf_li s) p) (.int (nI (g_en (rf_R (rf_g s) (rf_r s)) p))) (x + 16) (pl_lv (rf_li s) q)) = _
          by_cases e : q = p
          · subst e
            rw [bs_up_eq]
            rfl
          · rw [bs_up_j (fun w => e (rl_inj hl d w))]
            exact h1 q (by omega) hl
        · show bs_iv (bs_up mu1 (x + 16) (pl_lv (rf_li s) p) (.int (nI (g_en (rf_R (rf_g s) (rf_r s)) p))) (x + 16) q) = _
          rw [bs_up_j (by omega)]
          exact h2 q (by omega) q2
      · rw [if_neg d] at v
        refine Or.inl ⟨(nI (p + 1), mu1), r - 1, ?_, by omega, p + 1, rfl, by omega, fun q hq hl => ?_, fun q q1 q2 => h2 q (by omega) q2, hf⟩
        · unfold FX1_closeUp_b11
          rw [u8, if_neg (fun w => z ((nI_leI (by omega) (by omega)).mp w)), fn_in (show p < 30 by omega) (by decide), fg_gd_t, fn_cl (show p < 2 ^ 31 by omega), v, if_pos rfl, fn_add]
        · by_cases e : q = p
          · subst e
            exact (d hl).elim
          · exact h1 q (by omega) hl
  obtain ⟨m2, b1, b2, b3⟩ := L1
  have r13 : ∀ j, j < g_nu (rf_g s) → bs_iv (m2 (x + 13) j) = nI (rf_r s (g_fr (rf_g s) j)) ∧ bs_iv (m2 (x + 14) j) = nI (rf_r s (g_to (rf_g s) j)) := fun j hj => by
    rw [b3 _ (by omega), a3 _ (by omega), b3 _ (by omega), a3 _ (by omega)]
    exact ⟨c1.2.2.2.2.2.2.1 j hj, c1.2.2.2.2.2.2.2.1 j hj⟩
  have r17 : ∀ z, z < g_np (rf_g s) → bs_iv (m2 (x + 17) (rf_r s z)) = nI (pl_lv (rf_li s) (rf_r s z)) := fun z hz => by
    rw [b3 _ (by omega), a2 _ (lr z hz).2, if_pos (lr z hz).1]
  have u71 : bs_iv (m2 (x + 10) 7) = nI (g_nu (rf_g s)) := by rw [b3 _ (by omega)]; exact e71
  have L2 : ∃ t, fg_lp (FX1_closeUp_b48 x (x + 10) (x + 17) (nI (pl_lv (rf_li s) (g_np (rf_g s))))) fg_fu (nI 0, m2) = some t ∧ (∀ j, j < g_nu (rf_g s) → bs_iv (t (x + 13) j) = nI (g_fr (rf_T s) j) ∧ bs_iv (t (x + 14) j) = nI (g_to (rf_T s) j)) ∧ ∀ a, a ≠ x + 13 → a ≠ x + 14 → t a = m2 a := by
    refine fg_lp_i (body := FX1_closeUp_b48 x (x + 10) (x + 17) (nI (pl_lv (rf_li s) (g_np (rf_g s))))) (fun r st => ∃ i, st.1 = nI i ∧ i + r = g_nu (rf_g s) ∧ (∀ j, j < i → bs_iv (st.2 (x + 13) j) = nI (g_fr (rf_T s) j) ∧ bs_iv (st.2 (x + 14) j) = nI (g_to (rf_T s) j)) ∧ (∀ j, i ≤ j → j < g_nu (rf_g s) → bs_iv (st.2 (x + 13) j) = nI (rf_r s (g_fr (rf_g s) j)) ∧ bs_iv (st.2 (x + 14) j) = nI (rf_r s (g_to (rf_g s) j))) ∧ ∀ a, a ≠ x + 13 → a ≠ x + 14 → st.2 a = m2 a) _ (fun r st hJ => ?_) fg_fu (g_nu (rf_g s)) (nI 0, m2) ⟨0, rfl, by omega, fun q hq => absurd hq (Nat.not_lt_zero q), fun j _ hj => r13 j hj, fun _ _ _ => rfl⟩ (fg_fu_lt (by omega))
    obtain ⟨iv, mu1⟩ := st
    obtain ⟨i, e1, hr, h1, h2, hf⟩ := hJ
    have e1 : iv = nI i := e1
    subst e1
    have h1 : ∀ j, j < i → bs_iv (mu1 (x + 13) j) = nI (g_fr (rf_T s) j) ∧ bs_iv (mu1 (x + 14) j) = nI (g_to (rf_T s) j) := h1
    have h2 : ∀ j, i ≤ j → j < g_nu (rf_g s) → bs_iv (mu1 (x + 13) j) = nI (rf_r s (g_fr (rf_g s) j)) ∧ bs_iv (mu1 (x + 14) j) = nI (rf_r s (g_to (rf_g s) j)) := h2
    have hf : ∀ a, a ≠ x + 13 → a ≠ x + 14 → mu1 a = m2 a := hf
    have u7 : bs_iv (mu1 (x + 10) 7) = nI (g_nu (rf_g s)) := by rw [hf _ (by omega) (by omega)]; exact u71
    have up3 : x + 10 + 3 = x + 13 := by omega
    have up4 : x + 10 + 4 = x + 14 := by omega
    by_cases z : g_nu (rf_g s) ≤ i
    · refine Or.inr ⟨mu1, ?_, fun q hq => h1 q (by omega), hf⟩
      unfold FX1_closeUp_b48
      simp (disch := omega) only [fg_gd_t, fg_bd_s, fg_b2_s, fg_wr_s, fg_let_s, fn_add, fn_sub, fn_mul, fn_cl, fn_lt, fn_le, fn_eq, fn_eq0, fn_lt0, fn_0le, fn_0lt, fn_le0, fn_in, fn_shl, fn_shr, fa_and, fa_or, bs_xorI, if_true, if_false, u7, if_pos z]
    · have hi : i < g_nu (rf_g s) := by omega
      have v := h2 i (Nat.le_refl _) hi
      have b := h3 i hi
      have n1 := lr _ b.1
      have n2 := lr _ b.2
      obtain ⟨mA, hA⟩ : ∃ y, y = bs_up mu1 (x + 13) i (.int (nI (g_fr (rf_T s) i))) := ⟨_, rfl⟩
      have e17 : bs_iv (mu1 (x + 17) (rf_r s (g_fr (rf_g s) i))) = nI (g_fr (rf_T s) i) := by rw [hf _ (by omega) (by omega)]; exact r17 _ b.1
      have v2 : bs_iv (mA (x + 14) i) = nI (rf_r s (g_to (rf_g s) i)) := by rw [hA, bs_up_f (by omega)]; exact v.2
      have e172 : bs_iv (mA (x + 17) (rf_r s (g_to (rf_g s) i))) = nI (g_to (rf_T s) i) := by rw [hA, bs_up_f (by omega), hf _ (by omega) (by omega)]; exact r17 _ b.2
      refine Or.inl ⟨(nI (i + 1), bs_up mA (x + 14) i (.int (nI (g_to (rf_T s) i)))), r - 1, ?_, by omega, i + 1, rfl, by omega, fun j hj => ?_, fun j j1 j2 => ?_, fun a a1 a2 => (bs_up_f a2).trans (by rw [hA, bs_up_f a1]; exact hf a a1 a2)⟩
      · unfold FX1_closeUp_b48
        rw [up3, up4, u7, if_neg (fun w => z ((nI_leI (by omega) (by omega)).mp w)), fn_in (show i < 24 by omega) (by decide), fg_gd_t, fn_cl (show i < 2 ^ 31 by omega), v.1, fn_in (show rf_r s (g_fr (rf_g s) i) < 30 by omega) (by decide), fg_gd_t, fg_gd_t, fn_cl (show rf_r s (g_fr (rf_g s) i) < 2 ^ 31 by omega), e17, fg_wr_s, ← hA, fg_gd_t, v2, fn_in (show rf_r s (g_to (rf_g s) i) < 30 by omega) (by decide), fg_gd_t, fg_gd_t, fn_cl (show rf_r s (g_to (rf_g s) i) < 2 ^ 31 by omega), e172, fg_wr_s, fn_add]
      · show bs_iv (bs_up mA (x + 14) i (.int (nI (g_to (rf_T s) i))) (x + 13) j) = _ ∧ bs_iv (bs_up mA (x + 14) i (.int (nI (g_to (rf_T s) i))) (x + 14) j) = _
        rw [bs_up_f (by omega)]
        by_cases e : j = i
        · subst e
          rw [bs_up_eq, hA, bs_up_eq]
          exact ⟨rfl, rfl⟩
        · rw [bs_up_j e, hA, bs_up_j e, bs_up_f (by omega)]
          exact h1 j (by omega)
      · show bs_iv (bs_up mA (x + 14) i (.int (nI (g_to (rf_T s) i))) (x + 13) j) = _ ∧ bs_iv (bs_up mA (x + 14) i (.int (nI (g_to (rf_T s) i))) (x + 14) j) = _
        rw [bs_up_f (by omega), bs_up_j (by omega), hA, bs_up_j (by omega), bs_up_f (by omega)]
        exact h2 j (by omega) j2
  obtain ⟨m3, d1, d2, d3⟩ := L2
  have m3f : ∀ a, a ≠ x + 13 → a ≠ x + 14 → a ≠ x + 16 → a ≠ x + 17 → m3 a = mu a := fun a a13 a14 a16 a17 => by rw [d3 a a13 a14, b3 a a16, a3 a a17]
  refine ⟨bs_up m3 (x + 10) 8 (.int (nI (pl_lv (rf_li s) (g_np (rf_g s))))), ?_, ?_, fun a ha => by rw [bs_up_f (by omega), m3f a (by omega) (by omega) (by omega) (by omega)]⟩
  · unfold FX1_closeUp
    rw [e8, a1, fg_b2_s, b1, fg_bd_s, d1, fg_bd_s, fg_wr_s]
  · obtain ⟨v6, v7, v8, v9, w1, w2, w3, w4, w5, w6⟩ := c1
    have n9 : ∀ c v, c ≠ x + 10 → bs_up m3 (x + 10) 8 v c = m3 c := fun c v hc => bs_up_f hc
    have n1 : ∀ k, k ≠ 8 → ∀ v, bs_up m3 (x + 10) 8 v (x + 10) k = mu (x + 10) k := fun k hk v => by rw [bs_up_j hk, m3f _ (by omega) (by omega) (by omega) (by omega)]
    refine ⟨by rw [n1 6 (by decide)]; exact v6, by rw [n1 7 (by decide)]; exact v7, by rw [bs_up_eq]; rfl, by rw [n1 9 (by decide)]; exact v9, w1.of (by rw [n9 _ _ (by omega), m3f _ (by omega) (by omega) (by omega) (by omega)]), w2.of (by rw [n9 _ _ (by omega), m3f _ (by omega) (by omega) (by omega) (by omega)]), fun j hj => by rw [n9 _ _ (by omega)]; exact (d2 j hj).1, fun j hj => by rw [n9 _ _ (by omega)]; exact (d2 j hj).2, w5.of (by rw [n9 _ _ (by omega), m3f _ (by omega) (by omega) (by omega) (by omega)]), fun c hc => ?_⟩
    have hc : c < pl_lv (rf_li s) (g_np (rf_g s)) := hc
    obtain ⟨p, p1, p2, p3⟩ := rl_ix _ c hc
    subst p3
    rw [n9 _ _ (by omega), d3 _ (by omega) (by omega), show x + 10 + 6 = x + 16 by omega, b2 p p1 p2, rf_T_en hok p2]
