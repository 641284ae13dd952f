/-! TWICE: the model's list of the odd points -/
theorem g_es_sum {G : bs_G} (hG : g_ok G) (S : Nat) : ∀ n, n ≤ g_nu G → g_sm (fun p => g_es G p S n) (g_np G) ≤ 2 * n := by
  intro n
  induction n with
  | zero => intro _; exact Nat.le_of_eq (g_sm_z _ fun _ _ => rfl)
  | succ n ih =>
    intro hn
    have b := g_bd hG (show n < g_nu G by omega)
    have h := ih (by omega)
    have s : g_sm (fun p => g_es G p S (n + 1)) (g_np G) ≤ g_sm (fun p => g_es G p S n + ((if g_fr G n = p then 1 else 0) + (if g_to G n = p then 1 else 0))) (g_np G) := by
      refine g_sm_mono _ fun p _ => ?_
      by_cases c : g_bt S n = 1
      · rw [g_es_1 c]
        exact Nat.le_refl _
      · rw [g_es_0 c]
        exact Nat.le_add_right _ _
    have e := g_sm_add (fun p => g_es G p S n) (fun p => (if g_fr G n = p then 1 else 0) + (if g_to G n = p then 1 else 0)) (g_np G)
    have e2 := g_sm_add (fun p => if g_fr G n = p then 1 else 0) (fun p => if g_to G n = p then 1 else 0) (g_np G)
    have e3 := g_sm_pt (h := fun _ => 1) b.1
    have e4 := g_sm_pt (h := fun _ => 1) b.2.1
    rw [e, e2, e3, e4] at s
    omega
theorem g_on_b {G : bs_G} (hG : g_ok G) (S : Nat) : g_on G S (g_np G) ≤ 2 * g_nu G := by
  refine Nat.le_trans (g_sm_mono _ fun p _ => ?_) (g_es_sum hG S _ (Nat.le_refl _))
  exact Nat.mod_le _ _
theorem g_on_s (G : bs_G) (S p : Nat) : g_on G S (p + 1) = g_on G S p + g_es G p S (g_nu G) % 2 := rfl
theorem g_on_m (G : bs_G) (S p : Nat) : ∀ r, g_on G S p ≤ g_on G S (p + r) := by
  intro r
  induction r with
  | zero => exact Nat.le_refl _
  | succ r ih =>
    rw [← Nat.add_assoc, g_on_s]
    omega
theorem tf_odds {m g : Nat} {mu : bs_Mm} {G : bs_G} (hV : mFv m g G mu) (hg : g < 13) (hG : g_ok G) (hnu : g_nu G ≤ 12) : ∃ mu', fg_lp (FX12_twice_b39 m (nI g)) fg_fu (nI 0, nI 0, mu) = some (nI (g_on G (2 ^ g_nu G - 1) (g_np G)), mu') ∧ (∀ c, c ≠ m + 27 → mu' c = mu c) ∧ ∀ p, p < g_np G → g_en G p % 2 = 1 → bs_iv (mu' (m + 27) (g_on G (2 ^ g_nu G - 1) p)) = nI p := by
  have q0 := g_bn hG
  refine Exists.elim (fg_lp_i (body := FX12_twice_b39 m (nI g)) (fun r s => ∃ p, s.1 = nI (g_on G (2 ^ g_nu G - 1) p) ∧ s.2.1 = nI p ∧ p + r = g_np G ∧ (∀ c, c ≠ m + 27 → s.2.2 c = mu c) ∧ ∀ k, k < p → g_en G k % 2 = 1 → bs_iv (s.2.2 (m + 27) (g_on G (2 ^ g_nu G - 1) k)) = nI k) (fun t => t.1 = nI (g_on G (2 ^ g_nu G - 1) (g_np G)) ∧ (∀ c, c ≠ m + 27 → t.2 c = mu c) ∧ ∀ p, p < g_np G → g_en G p % 2 = 1 → bs_iv (t.2 (m + 27) (g_on G (2 ^ g_nu G - 1) p)) = nI p) (fun r s hI => ?_) fg_fu (g_np G) (nI 0, nI 0, mu) ⟨0, rfl, rfl, by omega, fun _ _ => rfl, fun k hk => by omega⟩ (fg_fu_lt (by omega))) (fun t ht => ?_)
  · obtain ⟨cv, pv, mu1⟩ := s
    obtain ⟨p, e1, e2, hr, f1, f2⟩ := hI
    have e1 : cv = nI (g_on G (2 ^ g_nu G - 1) p) := e1
    have e2 : pv = nI p := e2
    subst e1
    subst e2
    have f1 : ∀ c, c ≠ m + 27 → mu1 c = mu c := f1
    have f2 : ∀ k, k < p → g_en G k % 2 = 1 → bs_iv (mu1 (m + 27) (g_on G (2 ^ g_nu G - 1) k)) = nI k := f2
    have hV1 : mFv m g G mu1 := mFv_of2 hV (fun c hc => f1 c (by omega))
    by_cases z : g_np G ≤ p
    · have e : p = g_np G := by omega
      subst e
      refine Or.inr ⟨(nI (g_on G (2 ^ g_nu G - 1) (g_np G)), mu1), ?_, rfl, f1, f2⟩
      unfold FX12_twice_b39
      rw [fn_in (show g < 13 by omega) (by decide), fg_gd_t]
      simp only []
      rw [fn_cl (show g < 2 ^ 31 by omega), hV1.2.2.1, if_pos ((nI_leI (by omega) (by omega)).mpr (Nat.le_refl _))]
    · have nle : ¬ nI (g_np G) ≤ nI p := fun h => z ((nI_leI (by omega) (by omega)).mp h)
      have en := g_be hG p
      have t1 := g_on_b hG (2 ^ g_nu G - 1)
      have t2 := g_on_m G (2 ^ g_nu G - 1) (p + 1) (g_np G - (p + 1))
      rw [show p + 1 + (g_np G - (p + 1)) = g_np G by omega] at t2
      have t3 := g_on_s G (2 ^ g_nu G - 1) p
      rw [g_es_all] at t3
      by_cases c : g_en G p % 2 = 1
      · refine Or.inl ⟨(nI (g_on G (2 ^ g_nu G - 1) (p + 1)), nI (p + 1), bs_up mu1 (m + 27) (g_on G (2 ^ g_nu G - 1) p) (.int (nI p))), r - 1, ?_, by omega, p + 1, rfl, rfl, by omega, fun c hc => (bs_up_f hc).trans (f1 c hc), fun k hk hk2 => ?_⟩
        · unfold FX12_twice_b39
          rw [fn_in (show g < 13 by omega) (by decide), fg_gd_t]
          simp only []
          rw [fn_cl (show g < 2 ^ 31 by omega), hV1.2.2.1, if_neg nle, tf_all hV1 hg hG, fg_bd_s, tf_endsA hV1 hg hG (show p < 2 ^ 30 by omega), fg_bd_s, fn_rem (by omega) (by decide) (by decide), c, if_pos rfl, fn_in (show g_on G (2 ^ g_nu G - 1) p < 24 by omega) (by decide), fg_gd_t, fg_wr_s, fn_cl (show g_on G (2 ^ g_nu G - 1) p < 2 ^ 31 by omega), fn_add, fn_add, t3, c]
        · show bs_iv (bs_up mu1 (m + 27) (g_on G (2 ^ g_nu G - 1) p) (.int (nI p)) (m + 27) (g_on G (2 ^ g_nu G - 1) k)) = nI k
          by_cases e : k = p
          · subst e
            rw [bs_up_eq, bs_iv_i]
          · have u1 := g_on_s G (2 ^ g_nu G - 1) k
            rw [g_es_all, hk2] at u1
            have u2 := g_on_m G (2 ^ g_nu G - 1) (k + 1) (p - (k + 1))
            rw [show k + 1 + (p - (k + 1)) = p by omega] at u2
            rw [bs_up_ne _ _ (by rintro ⟨-, q⟩; omega)]
            exact f2 k (by omega) hk2
      · have c0 : g_en G p % 2 = 0 := by omega
        refine Or.inl ⟨(nI (g_on G (2 ^ g_nu G - 1) (p + 1)), nI (p + 1), mu1), r - 1, ?_, by omega, p + 1, rfl, rfl, by omega, f1, fun k hk hk2 => ?_⟩
        · unfold FX12_twice_b39
          rw [fn_in (show g < 13 by omega) (by decide), fg_gd_t]
          simp only []
          rw [fn_cl (show g < 2 ^ 31 by omega), hV1.2.2.1, if_neg nle, tf_all hV1 hg hG, fg_bd_s, tf_endsA hV1 hg hG (show p < 2 ^ 30 by omega), fg_bd_s, fn_rem (by omega) (by decide) (by decide), c0, if_neg (by decide), fn_add, t3, c0]
          rfl
        · by_cases e : k = p
          · subst e
            exact absurd hk2 c
          · exact f2 k (by omega) hk2
  · obtain ⟨tv, mu1⟩ := t
    have h1 : tv = _ := ht.2.1
    subst h1
    exact ⟨mu1, ht.1, ht.2.2⟩
