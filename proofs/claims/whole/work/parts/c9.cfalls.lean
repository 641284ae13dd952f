/-! FALLS of the class (own) -/
theorem g_pa_le {G : bs_G} (hG : g_ok G) (W L : Nat) : g_pa G W L ≤ 30 := by
  have a : g_pa G W L ≤ g_np G := g_sm1 (fun _ => g_if_le _) _
  have b := g_bn hG
  omega
def fl_b (G : bs_G) (w L : Nat) : Bool := if w = 0 then decide (L ≠ 0) else if w = 1 then decide (2 ≤ g_pa G (g_cm G L) L) else decide (L = 2 ^ g_nu G - 1)
def fl_f (G : bs_G) (U : bs_U) (S : bs_So) (w : Nat) : Nat → Nat → Int32
  | 0, _ => -1
  | r + 1, h => if fl_b G w (ag_n G U S h).2 = true then nI h else fl_f G U S w r (h + 1)
theorem sf_hasFa {x p w L : Nat} {mu : bs_Mm} {G : bs_G} (hp : x + 63 ≤ p) (hV : cFv p G mu) (hG : g_ok G) (hw : w < 3) (hL : L < 2 ^ g_nu G) : ∃ mu', FX11_hasFallen x mu p (nI L) (nI w) = some (nI (if fl_b G w L = true then 1 else 0), mu') ∧ ∀ a, a ≠ x + 28 → a ≠ x + 29 → mu' a = mu a := by
  have q0 := g_bn hG
  have p24 : 2 ^ g_nu G ≤ 2 ^ 24 := Nat.pow_le_pow_right (by decide) (by omega)
  have hw : w = 0 ∨ w = 1 ∨ w = 2 := by omega
  unfold FX11_hasFallen
  rcases hw with e | e | e
  · subst e
    have eb : fl_b G 0 L = decide (L ≠ 0) := by rw [fl_b, if_pos rfl]
    rw [eb, if_pos nI_0]
    by_cases c : L = 0
    · rw [if_pos (by rw [c]; rfl), decide_eq_false (fun h => h c)]
      exact ⟨mu, rfl, fun _ _ _ => rfl⟩
    · rw [if_neg (fun h => c (by rw [fn_eq0 (by omega)] at h; exact h)), decide_eq_true c]
      exact ⟨mu, rfl, fun _ _ _ => rfl⟩
  · subst e
    have eb : fl_b G 1 L = decide (2 ≤ g_pa G (g_cm G L) L) := by rw [fl_b, if_neg (by decide), if_pos rfl]
    obtain ⟨mu1, a1, a2, -⟩ := sf_parts (x := x) hp hV hG (g_cm_co hL)
    have pl := g_pa_le hG (g_cm G L) L
    rw [eb, if_neg (by decide), if_pos rfl, a1, fg_b2_s]
    by_cases c : g_pa G (g_cm G L) L < 2
    · rw [if_pos ((nI_ltI (by omega) (by decide)).mpr c), decide_eq_false (by omega)]
      exact ⟨mu1, rfl, a2⟩
    · rw [if_neg (fun h => c ((nI_ltI (by omega) (by decide)).mp h)), decide_eq_true (by omega)]
      exact ⟨mu1, rfl, a2⟩
  · subst e
    have eb : fl_b G 2 L = decide (L = 2 ^ g_nu G - 1) := by rw [fl_b, if_neg (by decide), if_neg (by decide)]
    have al : FX1_allBubbles x p mu = some (nI (2 ^ g_nu G - 1)) := by
      unfold FX1_allBubbles
      rw [hV.2.1, fn_shl (by omega), fn_sub (Nat.two_pow_pos _)]
    rw [eb, if_neg (by decide), if_neg (by decide), al, fg_bd_s]
    by_cases c : L = 2 ^ g_nu G - 1
    · rw [if_pos (by rw [c]), decide_eq_true c]
      exact ⟨mu, rfl, fun _ _ _ => rfl⟩
    · rw [if_neg (fun h => c ((nI_eq (by omega) (by omega)).mp h)), decide_eq_false c]
      exact ⟨mu, rfl, fun _ _ _ => rfl⟩
def fl_may (fc rc : Nat) (FG : Nat → bs_G) (a r w : Int32) : Prop := ∃ i j k, a = nI i ∧ r = nI j ∧ w = nI k ∧ i < fc ∧ j < rc ∧ k < 3 ∧ 0 < g_nu (FG i)
theorem sf_fallsN {x fc rc : Nat} {FG : Nat → bs_G} {UR : Nat → bs_U} {mu : bs_Mm} (hF : cFG x fc FG mu) (hU : cUR x rc UR mu) {a r w : Int32} (hn : ¬ fl_may fc rc FG a r w) : FX11_falls x mu a r w = some (-1, mu) := by
  have hc := hF.2.1
  have h12 := hF.1
  have h6 := hU.1
  unfold FX11_falls
  rcases fn_any a (show fc < 2 ^ 31 by omega) with ha | ⟨i, hi, ha⟩
  · rw [sf_figN hc ha, fg_bd_s, fg_oq_n]
    rcases fn_any r (show rc < 2 ^ 31 by omega) with hr | ⟨j, hj, hr⟩
    · rw [sf_rulN hU hr, fg_bd_s, fg_oq_n]
    · subst hr
      rw [sf_rulY hU hj, fg_bd_s, fg_oq_s, fg_isU_y (by omega), fg_gd_t]
  · subst ha
    rw [sf_figY hc h12 hi, fg_bd_s, fg_oq_s, fg_isF_y (by omega), fg_gd_t]
    rcases fn_any r (show rc < 2 ^ 31 by omega) with hr | ⟨j, hj, hr⟩
    · rw [sf_rulN hU hr, fg_bd_s, fg_oq_n]
    · subst hr
      rw [sf_rulY hU hj, fg_bd_s, fg_oq_s, fg_isU_y (by omega), fg_gd_t]
      have FA := hF.2.2 i hi
      have q0 := g_bn FA.1
      rw [FA.2.2.1]
      by_cases c : g_nu (FG i) = 0
      · rw [if_pos (by rw [c]; rfl)]
      · rw [if_neg (fun h => c (by rw [fn_eq0 (by omega)] at h; exact h))]
        rcases fn_any w (show 3 < 2 ^ 31 by decide) with hh | ⟨k, hk, hh⟩
        · by_cases c : w < 0
          · rw [if_pos c]
          · have h2 := hh.resolve_left c
            have h3 : nI 2 < nI 3 := by decide
            rw [if_neg c, if_neg (Int32.not_le.mpr (Int32.lt_of_lt_of_le h3 h2))]
        · subst hh
          exact (hn ⟨i, j, k, rfl, rfl, rfl, hi, hj, hk, by omega⟩).elim
set_option maxHeartbeats 1000000 in
theorem sf_fallsY {x fc rc i j w : Nat} {FG : Nat → bs_G} {UR : Nat → bs_U} {S : bs_So} {mu : bs_Mm} (hF : cFG x fc FG mu) (hU : cUR x rc UR mu) (hS : cSo x S mu) (hS6 : S.1 ≤ 6) (hSo : ∀ b, b < g_nb (FG i) → g_so (FG i) b < S.1) (hA : cAG x fc rc FG UR S mu) (hI : g_iv (FG i)) (hi : i < fc) (hj : j < rc) (hw : w < 3) (hn : 0 < g_nu (FG i)) : ∃ mu', FX11_falls x mu (nI i) (nI j) (nI w) = some (fl_f (FG i) (UR j) S w 60 1, mu') ∧ cAG x fc rc FG UR S mu' ∧ ag_fr x mu mu' := by
  have hc := hF.2.1
  have h12 := hF.1
  have h6 := hU.1
  have FA := hF.2.2 i hi
  have UA := hU.2.2 j hj
  have q0 := g_bn FA.1
  have p24 : 2 ^ g_nu (FG i) ≤ 2 ^ 24 := Nat.pow_le_pow_right (by decide) (by omega)
  obtain ⟨m1, kn, a1, a2, a3, a4, a5⟩ := sf_turnTo (k := j) hA hI FA.2
  have C0 : ag_C x (x + 63 + 7 * i) (x + 147 + 2 * j) (FG i) (UR j) S mu := ⟨FA.2, UA.2, hS⟩
  have lo := fun h => (ag_n_I hI (UR j) S h).1
  -- what holds hour by hour
  have key : ∃ t, fg_lp (FX11_falls_b57 x (x + 63 + 7 * i) (x + 147 + 2 * j) (nI i) (nI j) (nI w)) fg_fu (nI 1, m1) = some t ∧ ∃ mu', ((t = .inl mu' ∧ fl_f (FG i) (UR j) S w 60 1 = -1) ∨ t = .inr (fl_f (FG i) (UR j) S w 60 1, mu')) ∧ (∃ k2, ag_K x (FG i) (UR j) S k2 mu') ∧ bs_rv (mu' (x + 45) 4) = some (x + 63 + 7 * i) ∧ bs_rv (mu' (x + 45) 5) = some (x + 147 + 2 * j) ∧ ag_fr x mu mu' := by
    refine fg_lp_i (body := FX11_falls_b57 x (x + 63 + 7 * i) (x + 147 + 2 * j) (nI i) (nI j) (nI w)) (fun r s => ∃ h, s.1 = nI h ∧ 1 ≤ h ∧ h + r = 61 ∧ fl_f (FG i) (UR j) S w 60 1 = fl_f (FG i) (UR j) S w r h ∧ (1 < h → fl_b (FG i) w (ag_n (FG i) (UR j) S (h - 1)).2 = false) ∧ (∃ k2, ag_K x (FG i) (UR j) S k2 s.2) ∧ bs_rv (s.2 (x + 45) 4) = some (x + 63 + 7 * i) ∧ bs_rv (s.2 (x + 45) 5) = some (x + 147 + 2 * j) ∧ ag_fr x mu s.2) _ (fun r s hJ => ?_) fg_fu 60 (nI 1, m1) ⟨1, rfl, Nat.le_refl _, rfl, rfl, fun h => absurd h (Nat.lt_irrefl _), ⟨kn, a2⟩, a3, a4, fun a b1 b2 => a5 a (by omega) (by omega) (by omega)⟩ (fg_fu_lt (by omega))
    obtain ⟨hv, mu1⟩ := s
    obtain ⟨h, e1, h1, hr, he, hb, ⟨k1, hK⟩, r4, r5, hf⟩ := hJ
    have e1 : hv = nI h := e1
    subst e1
    have hK : ag_K x (FG i) (UR j) S k1 mu1 := hK
    have r4 : bs_rv (mu1 (x + 45) 4) = some (x + 63 + 7 * i) := r4
    have r5 : bs_rv (mu1 (x + 45) 5) = some (x + 147 + 2 * j) := r5
    have hf : ag_fr x mu mu1 := hf
    by_cases z : 60 < h
    · have e : r = 0 := by omega
      subst e
      refine Or.inr ⟨.inl mu1, ?_, mu1, Or.inl ⟨rfl, he⟩, ⟨k1, hK⟩, r4, r5, hf⟩
      unfold FX11_falls_b57
      simp (disch := omega) only [fg_gd_t, fg_bd_s, fg_b2_s, fg_wr_s, fg_let_s, fn_add, fn_sub, fn_mul, fn_cl, fn_lt, fn_le, fn_eq, fn_eq0, fn_lt0, fn_0le, fn_0lt, fn_le0, fn_in, fn_shl, fn_shr, fa_and, fa_or, bs_xorI, if_true, if_false, if_pos z]
    · obtain ⟨m2, k2, b1, b2, b3, b4, b5⟩ := sf_reach (by omega) (by omega) hI UA.1 hSo hS6 (ag_C_of (by omega) (by omega) C0 hf) (show h ≤ 60 by omega) hK
      have s4 : bs_rv (m2 (x + 45) 4) = some (x + 63 + 7 * i) := by rw [b4 4 (by decide)]; exact r4
      have s5 : bs_rv (m2 (x + 45) 5) = some (x + 147 + 2 * j) := by rw [b4 5 (by decide)]; exact r5
      have f2 : ag_fr x mu m2 := fun a c1 c2 => by rw [b5 a (by omega) c2]; exact hf a c1 c2
      have V2 : cFv (x + 63 + 7 * i) (FG i) m2 := cFv_of FA.2 fun k hk => f2 _ (by omega) (by omega)
      have v1 := (b3.2.2 h b2).1
      obtain ⟨m3, d1, d2⟩ := sf_hasFa (x := x) (by omega) V2 FA.1 hw (lo h)
      have hK3 : ag_K x (FG i) (UR j) S k2 m3 := ag_K_of b3 (d2 _ (by omega) (by omega)) (d2 _ (by omega) (by omega)) (d2 _ (by omega) (by omega))
      have t4 : bs_rv (m3 (x + 45) 4) = some (x + 63 + 7 * i) := by rw [d2 _ (by omega) (by omega)]; exact s4
      have t5 : bs_rv (m3 (x + 45) 5) = some (x + 147 + 2 * j) := by rw [d2 _ (by omega) (by omega)]; exact s5
      have f3 : ag_fr x mu m3 := fun a c1 c2 => by rw [d2 a (by omega) (by omega)]; exact f2 a c1 c2
      obtain ⟨r, hr2⟩ : ∃ r2, r = r2 + 1 := ⟨r - 1, by omega⟩
      subst hr2
      have fe : fl_f (FG i) (UR j) S w (r + 1) h = if fl_b (FG i) w (ag_n (FG i) (UR j) S h).2 = true then nI h else fl_f (FG i) (UR j) S w r (h + 1) := rfl
      rw [fe] at he
      have lh := lo h
      have ask : ∀ q, FX11_falls_j121_L57 x (x + 63 + 7 * i) (x + 147 + 2 * j) m2 (nI i) (nI j) (nI w) (nI h) (nI 0) = q → (fl_b (FG i) w (ag_n (FG i) (UR j) S h).2 = true → q = some (.inr (.inr (nI h, m3)))) ∧ (fl_b (FG i) w (ag_n (FG i) (UR j) S h).2 = false → q = some (.inl (nI (h + 1), m3))) := by
        intro q hq
        subst hq
        unfold FX11_falls_j121_L57
        rw [if_pos nI_0, fn_in (show h < 61 by omega) (by decide), fg_gd_t, fn_cl (show h < 2 ^ 31 by omega), v1, d1, fg_b2_s]
        refine ⟨fun c => ?_, fun c => ?_⟩
        · rw [if_pos c, if_neg (by decide)]
        · have c2 : ¬ fl_b (FG i) w (ag_n (FG i) (UR j) S h).2 = true := by rw [c]; decide
          rw [if_neg c2, if_pos nI_0, fn_add]
      have ask := ask _ rfl
      have body : FX11_falls_b57 x (x + 63 + 7 * i) (x + 147 + 2 * j) (nI i) (nI j) (nI w) (nI h, mu1) = if 1 < h ∧ (ag_n (FG i) (UR j) S h).2 = (ag_n (FG i) (UR j) S (h - 1)).2 then some (.inl (nI (h + 1), m2)) else FX11_falls_j121_L57 x (x + 63 + 7 * i) (x + 147 + 2 * j) m2 (nI i) (nI j) (nI w) (nI h) (nI 0) := by
        unfold FX11_falls_b57
        rw [if_neg (fun w => z ((nI_ltI (by decide) (by omega)).mp w)), b1, fg_bd_s]
        by_cases c : h ≤ 1
        · rw [if_pos ((nI_leI (by omega) (by decide)).mpr c), if_neg (fun w => by omega)]
          rfl
        · have v0 := (b3.2.2 (h - 1) (by omega)).1
          have l0 := lo (h - 1)
          rw [if_neg (fun w => c ((nI_leI (by omega) (by decide)).mp w)), fn_in (show h < 61 by omega) (by decide), fg_gd_t, fn_sub (by omega), fn_in (show h - 1 < 61 by omega) (by decide), fg_gd_t, fn_cl (show h < 2 ^ 31 by omega), fn_cl (show h - 1 < 2 ^ 31 by omega), v1, v0]
          by_cases d : (ag_n (FG i) (UR j) S h).2 = (ag_n (FG i) (UR j) S (h - 1)).2
          · rw [if_pos (by rw [d]), if_pos ⟨by omega, d⟩]
            unfold FX11_falls_j121_L57
            rw [if_neg (by decide), fn_add]
          · rw [if_neg (fun w => d ((nI_eq (by omega) (by omega)).mp w)), if_neg (fun w => d w.2)]
            rfl
      cases c : fl_b (FG i) w (ag_n (FG i) (UR j) S h).2 with
      | true =>
        rw [c, if_pos rfl] at he
        refine Or.inr ⟨.inr (nI h, m3), ?_, m3, Or.inr (by rw [he]), ⟨k2, hK3⟩, t4, t5, f3⟩
        rw [body, if_neg (fun w => by rw [w.2, hb w.1] at c; cases c)]
        exact ask.1 c
      | false =>
        rw [c, if_neg (by decide)] at he
        by_cases d : 1 < h ∧ (ag_n (FG i) (UR j) S h).2 = (ag_n (FG i) (UR j) S (h - 1)).2
        · refine Or.inl ⟨(nI (h + 1), m2), r, ?_, by omega, h + 1, rfl, by omega, by omega, he, fun _ => by rw [Nat.add_sub_cancel]; exact c, ⟨k2, b3⟩, s4, s5, f2⟩
          rw [body, if_pos d]
        · refine Or.inl ⟨(nI (h + 1), m3), r, ?_, by omega, h + 1, rfl, by omega, by omega, he, fun _ => by rw [Nat.add_sub_cancel]; exact c, ⟨k2, hK3⟩, t4, t5, f3⟩
          rw [body, if_neg d]
          exact ask.2 c
  obtain ⟨t, t1, m2, t2, ⟨k2, hK⟩, e4, e5, hf⟩ := key
  refine ⟨m2, ?_, ⟨fun b hb => ?_, fun b hb => ?_, fun j2 k3 h1 h2 => ?_⟩, hf⟩
  · unfold FX11_falls
    rw [sf_figY hc h12 hi, fg_bd_s, fg_oq_s, fg_isF_y (by omega), fg_gd_t, sf_rulY hU hj, fg_bd_s, fg_oq_s, fg_isU_y (by omega), fg_gd_t, FA.2.2.1, if_neg (fun h => by rw [fn_eq0 (by omega)] at h; omega), if_neg (nI_pos (by omega)), if_pos ((nI_leI (by omega) (by decide)).mpr (by omega)), a1, fg_bd_s, t1]
    rcases t2 with ⟨t2, t3⟩ | t2
    · rw [t2, fg_l3_l, t3]
    · rw [t2, fg_l3_r]
  · rw [e4] at hb
    exact ⟨i, hi, (Option.some.inj hb).symm⟩
  · rw [e5] at hb
    exact ⟨j, hj, (Option.some.inj hb).symm⟩
  · rw [e4] at h1
    rw [e5] at h2
    have x1 := Option.some.inj h1
    have x2 := Option.some.inj h2
    have : j2 = i := by omega
    subst this
    have : k3 = j := by omega
    subst this
    exact ⟨k2, hK⟩
