/-! AGEING of the class (own): aged, falls -/
/-- rules of a state -/
def u_K (U : bs_U) : Prop := ∀ q, q ∈ U → u_k q
def cUR (x rc : Nat) (UR : Nat → bs_U) (mu : bs_Mm) : Prop := rc ≤ 6 ∧ bs_iv (mu x 14) = nI rc ∧ ∀ k, k < rc → u_K (UR k) ∧ cUv (x + 147 + 2 * k) (UR k) mu
theorem sf_rulN {x rc : Nat} {UR : Nat → bs_U} {mu : bs_Mm} (h : cUR x rc UR mu) {a : Int32} (ha : a < 0 ∨ nI rc ≤ a) : FX11_ruleAt x mu a = some none := by
  unfold FX11_ruleAt
  rw [h.2.1]
  by_cases c : a < 0
  · rw [if_pos c]
  · rw [if_neg c, if_neg (Int32.not_lt.mpr (ha.resolve_left c))]
theorem sf_rulY {x rc k : Nat} {UR : Nat → bs_U} {mu : bs_Mm} (h : cUR x rc UR mu) (hk : k < rc) : FX11_ruleAt x mu (nI k) = some (some (x + 147 + 2 * k)) := by
  have h6 := h.1
  unfold FX11_ruleAt
  simp (disch := omega) only [h.2.1, fn_lt0, fn_lt, if_false, if_pos hk, fn_in, fg_gd_t, fg_let_s, fn_cl]
/-- what is kept of the latest ageing -/
def ag_K (x : Nat) (G : bs_G) (U : bs_U) (S : bs_So) (kn : Nat) (mu : bs_Mm) : Prop := kn ≤ 60 ∧ bs_iv (mu (x + 45) 6) = nI kn ∧ ∀ h, h ≤ kn → bs_iv (mu (x + 46) h) = nI (ag_n G U S h).2 ∧ ∀ i, i < g_nu G → bs_iv (mu (x + 47) (24 * h + i)) = nI ((ag_n G U S h).1 i)
def cAG (x fc rc : Nat) (FG : Nat → bs_G) (UR : Nat → bs_U) (S : bs_So) (mu : bs_Mm) : Prop := (∀ b, bs_rv (mu (x + 45) 4) = some b → ∃ j, j < fc ∧ b = x + 63 + 7 * j) ∧ (∀ b, bs_rv (mu (x + 45) 5) = some b → ∃ k, k < rc ∧ b = x + 147 + 2 * k) ∧ ∀ j k, bs_rv (mu (x + 45) 4) = some (x + 63 + 7 * j) → bs_rv (mu (x + 45) 5) = some (x + 147 + 2 * k) → ∃ kn, ag_K x (FG j) (UR k) S kn mu
theorem ag_K_of {x kn : Nat} {G : bs_G} {U : bs_U} {S : bs_So} {mu mu' : bs_Mm} (h : ag_K x G U S kn mu) (e5 : mu' (x + 45) = mu (x + 45)) (e6 : mu' (x + 46) = mu (x + 46)) (e7 : mu' (x + 47) = mu (x + 47)) : ag_K x G U S kn mu' := by
  unfold ag_K
  rw [e5, e6, e7]
  exact h
theorem cAG_of {x fc rc : Nat} {FG : Nat → bs_G} {UR : Nat → bs_U} {S : bs_So} {mu mu' : bs_Mm} (h : cAG x fc rc FG UR S mu) (e5 : mu' (x + 45) = mu (x + 45)) (e6 : mu' (x + 46) = mu (x + 46)) (e7 : mu' (x + 47) = mu (x + 47)) : cAG x fc rc FG UR S mu' := by
  unfold cAG ag_K
  rw [e5, e6, e7]
  exact h
theorem sf_turnTo {x j k fc rc : Nat} {FG : Nat → bs_G} {UR : Nat → bs_U} {S : bs_So} {mu : bs_Mm} (hA : cAG x fc rc FG UR S mu) (hI : g_iv (FG j)) (hV : cFv (x + 63 + 7 * j) (FG j) mu) : ∃ mu' kn, FX0_turnTo x mu (x + 63 + 7 * j) (x + 147 + 2 * k) = some mu' ∧ ag_K x (FG j) (UR k) S kn mu' ∧ bs_rv (mu' (x + 45) 4) = some (x + 63 + 7 * j) ∧ bs_rv (mu' (x + 45) 5) = some (x + 147 + 2 * k) ∧ ∀ a, a ≠ x + 45 → a ≠ x + 46 → a ≠ x + 47 → mu' a = mu a := by
  have q0 := g_bn hI.1
  have fresh : ∃ mu' kn, FX0_turnTo_j17 x (x + 63 + 7 * j) (x + 147 + 2 * k) mu = some mu' ∧ ag_K x (FG j) (UR k) S kn mu' ∧ bs_rv (mu' (x + 45) 4) = some (x + 63 + 7 * j) ∧ bs_rv (mu' (x + 45) 5) = some (x + 147 + 2 * k) ∧ ∀ a, a ≠ x + 45 → a ≠ x + 46 → a ≠ x + 47 → mu' a = mu a := by
    obtain ⟨m1, hm1⟩ : ∃ y, y = bs_up (bs_up (bs_up mu (x + 45) 4 (.ref (x + 63 + 7 * j))) (x + 45) 5 (.ref (x + 147 + 2 * k))) (x + 45) 6 (.int (nI 0)) := ⟨_, rfl⟩
    have f1 : ∀ a, a ≠ x + 45 → m1 a = mu a := fun a ha => by rw [hm1, bs_up_f ha, bs_up_f ha, bs_up_f ha]
    obtain ⟨m2, hm2⟩ : ∃ y, y = bs_up m1 (x + 46) 0 (.int (nI 0)) := ⟨_, rfl⟩
    have f2 : ∀ a, a ≠ x + 46 → m2 a = m1 a := fun a ha => by rw [hm2, bs_up_f ha]
    have f3 : ∀ a, a ≠ x + 47 → bs_cp m2 (x + 63 + 7 * j + 2) (x + 47) 0 0 24 a = m2 a := fun a ha => by
      funext i
      exact if_neg (fun h => ha h.1)
    have c5 : bs_cp m2 (x + 63 + 7 * j + 2) (x + 47) 0 0 24 (x + 45) = m1 (x + 45) := by rw [f3 _ (by omega), f2 _ (by omega)]
    refine ⟨bs_cp m2 (x + 63 + 7 * j + 2) (x + 47) 0 0 24, 0, ?_, ⟨by omega, ?_, fun h hh => ⟨?_, fun i hi => ?_⟩⟩, ?_, ?_, fun a a1 a2 a3 => by rw [f3 a a3, f2 a a2, f1 a a1]⟩
    · unfold FX0_turnTo_j17
      rw [fg_wr_s, fg_wr_s, fg_wr_s, ← hm1, fn_in (show 0 < 61 by decide) (by decide), fg_gd_t, fn_cl (by decide), fg_wr_s, ← hm2, fg_wc_s]
    · rw [c5, hm1, bs_up_eq]
      rfl
    · have : h = 0 := by omega
      subst this
      rw [f3 _ (by omega), hm2, bs_up_eq]
      rfl
    · have : h = 0 := by omega
      subst this
      have e : bs_cp m2 (x + 63 + 7 * j + 2) (x + 47) 0 0 24 (x + 47) (24 * 0 + i) = .int (bs_iv (m2 (x + 63 + 7 * j + 2) i)) := by
        rw [show 24 * 0 + i = i by omega]
        unfold bs_cp
        rw [if_pos ⟨rfl, Nat.zero_le _, by omega⟩, Nat.sub_zero, Nat.zero_add]
      rw [e, f2 _ (by omega), f1 _ (by omega)]
      exact hV.2.2.2.2.2.1 i hi
    · rw [c5, hm1, bs_up_j (by decide), bs_up_j (by decide), bs_up_eq]
      rfl
    · rw [c5, hm1, bs_up_j (by decide), bs_up_eq]
      rfl
  unfold FX0_turnTo
  by_cases c : bs_rv (mu (x + 45) 4) = some (x + 63 + 7 * j)
  · rw [if_pos c]
    by_cases d : bs_rv (mu (x + 45) 5) = some (x + 147 + 2 * k)
    · rw [if_pos d]
      obtain ⟨kn, hkn⟩ := hA.2.2 j k c d
      exact ⟨mu, kn, rfl, hkn, c, d, fun _ _ _ _ => rfl⟩
    · rw [if_neg d]
      exact fresh
  · rw [if_neg c]
    exact fresh
/-- what ageing needs of a state -/
def ag_C (x p u : Nat) (G : bs_G) (U : bs_U) (S : bs_So) (mu : bs_Mm) : Prop := cFv p G mu ∧ cUv u U mu ∧ cSo x S mu
theorem ag_C_of {x p u : Nat} {G : bs_G} {U : bs_U} {S : bs_So} {mu mu' : bs_Mm} (hp : x + 63 ≤ p) (hu : x + 63 ≤ u) (h : ag_C x p u G U S mu) (hf : ∀ a, (a < x + 28 ∨ x + 29 < a) → (a < x + 45 ∨ x + 49 < a) → mu' a = mu a) : ag_C x p u G U S mu' := by
  refine ⟨cFv_of h.1 fun k hk => hf _ (by omega) (by omega), cUv_of h.2.1 (hf _ (by omega) (by omega)) (hf _ (by omega) (by omega)), ?_⟩
  unfold cSo bs_rw
  rw [hf (x + 1) (by omega) (by omega), hf (x + 2) (by omega) (by omega), hf (x + 3) (by omega) (by omega), hf (x + 4) (by omega) (by omega)]
  exact h.2.2
theorem sf_reach {x p u h kn : Nat} {mu : bs_Mm} {G : bs_G} {U : bs_U} {S : bs_So} (hp : x + 63 ≤ p) (hu : x + 63 ≤ u) (hI : g_iv G) (hk : u_K U) (hSo : ∀ b, b < g_nb G → g_so G b < S.1) (hS6 : S.1 ≤ 6) (hC : ag_C x p u G U S mu) (hh : h ≤ 60) (hK : ag_K x G U S kn mu) : ∃ mu' k2, FX0_reach x mu (nI h) p u = some mu' ∧ h ≤ k2 ∧ ag_K x G U S k2 mu' ∧ (∀ k, k ≠ 6 → mu' (x + 45) k = mu (x + 45) k) ∧ ∀ a, a ≠ x + 28 → (a < x + 45 ∨ x + 49 < a) → mu' a = mu a := by
  have q0 := g_bn hI.1
  have e60 : (if nI 60 < nI h then nI 60 else nI h) = nI h := if_neg (fun w => by have := (nI_ltI (by decide) (by omega)).mp w; omega)
  refine Exists.elim (fg_lp_i (body := FX0_reach_b16 x p u (nI h) (nI h)) (fun r s => ∃ k, s.1 = nI (k + 1) ∧ r = h - k ∧ kn ≤ k ∧ ag_K x G U S k s.2 ∧ (∀ j, j ≠ 6 → s.2 (x + 45) j = mu (x + 45) j) ∧ ∀ a, a ≠ x + 28 → (a < x + 45 ∨ x + 49 < a) → s.2 a = mu a) (fun t => ∃ k2, h ≤ k2 ∧ ag_K x G U S k2 t ∧ (∀ j, j ≠ 6 → t (x + 45) j = mu (x + 45) j) ∧ ∀ a, a ≠ x + 28 → (a < x + 45 ∨ x + 49 < a) → t a = mu a) (fun r s hJ => ?_) fg_fu (h - kn) (nI (kn + 1), mu) ⟨kn, rfl, rfl, Nat.le_refl _, hK, fun _ _ => rfl, fun _ _ _ => rfl⟩ (fg_fu_lt (by omega))) (fun t ht => ?_)
  · obtain ⟨kv, mu1⟩ := s
    obtain ⟨k, e1, hr, hkn, hK1, h45, hf⟩ := hJ
    have e1 : kv = nI (k + 1) := e1
    subst e1
    have hK1 : ag_K x G U S k mu1 := hK1
    have h45 : ∀ j, j ≠ 6 → mu1 (x + 45) j = mu (x + 45) j := h45
    have hf : ∀ a, a ≠ x + 28 → (a < x + 45 ∨ x + 49 < a) → mu1 a = mu a := hf
    have hk60 := hK1.1
    by_cases z : h < k + 1
    · refine Or.inr ⟨mu1, ?_, k, by omega, hK1, h45, hf⟩
      unfold FX0_reach_b16
      simp (disch := omega) only [fg_gd_t, fg_bd_s, fg_b2_s, fg_wr_s, fg_let_s, fn_add, fn_sub, fn_mul, fn_cl, fn_lt, fn_le, fn_eq, fn_eq0, fn_lt0, fn_0le, fn_0lt, fn_le0, fn_in, fn_shl, fn_shr, fa_and, fa_or, bs_xorI, if_true, if_false, if_pos z]
    · have C1 := ag_C_of hp hu hC (mu' := mu1) fun a a1 a2 => hf a (by omega) a2
      have q := hK1.2.2 k (Nat.le_refl _)
      obtain ⟨m2, s1, s2, s3, s4, s5, s6⟩ := sf_hour (x := x) hp hu hI C1.1 C1.2.1 hk C1.2.2 hSo hS6 (show k < 60 by omega) (ag_n_I hI U S k) q.1 q.2
      refine Or.inl ⟨(nI (k + 2), bs_up m2 (x + 45) 6 (.int (nI (k + 1)))), r - 1, ?_, by omega, k + 1, rfl, by omega, by omega, ⟨by omega, by show bs_iv (bs_up m2 (x + 45) 6 (.int (nI (k + 1))) (x + 45) 6) = _; rw [bs_up_eq]; rfl, fun h2 hh2 => ?_⟩, fun j hj => ?_, fun a a1 a2 => ?_⟩
      · unfold FX0_reach_b16
        simp (disch := omega) only [fg_gd_t, fg_bd_s, fg_b2_s, fg_wr_s, fg_let_s, fn_add, fn_sub, fn_mul, fn_cl, fn_lt, fn_le, fn_eq, fn_eq0, fn_lt0, fn_0le, fn_0lt, fn_le0, fn_in, fn_shl, fn_shr, fa_and, fa_or, bs_xorI, if_true, if_false, if_neg z, s1, Nat.add_assoc]
      · show bs_iv (bs_up m2 (x + 45) 6 (.int (nI (k + 1))) (x + 46) h2) = _ ∧ ∀ i, i < g_nu G → bs_iv (bs_up m2 (x + 45) 6 (.int (nI (k + 1))) (x + 47) (24 * h2 + i)) = _
        rw [bs_up_f (by omega), bs_up_f (by omega)]
        by_cases e : h2 = k + 1
        · subst e
          exact ⟨s2, s3⟩
        · have o := hK1.2.2 h2 (by omega)
          rw [s4 _ e]
          exact ⟨o.1, fun i hi => by rw [s5 _ (by omega)]; exact o.2 i hi⟩
      · show bs_up m2 (x + 45) 6 (.int (nI (k + 1))) (x + 45) j = _
        rw [bs_up_j hj, s6 _ (by omega) (by omega)]
        exact h45 j hj
      · show bs_up m2 (x + 45) 6 (.int (nI (k + 1))) a = _
        rw [bs_up_f (by omega), s6 _ a1 (by omega)]
        exact hf a a1 a2
  · obtain ⟨t1, k2, t2⟩ := ht
    refine ⟨t, k2, ?_, t2⟩
    unfold FX0_reach
    rw [e60, hK.2.1, fn_add, t1, fg_bd_s]
theorem sf_lenAt {x h i : Nat} {mu : bs_Mm} {v : Nat} (hh : h ≤ 60) (hi : i < 24) (e : bs_iv (mu (x + 47) (24 * h + i)) = nI v) : FX0_lengthAt x mu (nI h) (nI i) = some (nI v) := by
  unfold FX0_lengthAt
  rw [fn_mul, fn_add, Nat.mul_comm h 24, fn_in (show 24 * h + i < 1464 by omega) (by decide), fg_gd_t, fn_cl (show 24 * h + i < 2 ^ 31 by omega), e]
/-- when aged answers -/
def ag_may (fc rc : Nat) (FG : Nat → bs_G) (a r h b : Int32) : Prop := ∃ i j k n, a = nI i ∧ r = nI j ∧ h = nI k ∧ b = nI n ∧ i < fc ∧ j < rc ∧ k ≤ 60 ∧ n < g_nu (FG i)
theorem sf_agedN {x fc rc : Nat} {FG : Nat → bs_G} {UR : Nat → bs_U} {mu : bs_Mm} (hF : cFG x fc FG mu) (hU : cUR x rc UR mu) {a r h b : Int32} (hn : ¬ ag_may fc rc FG a r h b) : FX11_aged x mu a r h b = some (-1, mu) := by
  have hc := hF.2.1
  have h12 := hF.1
  have h6 := hU.1
  unfold FX11_aged
  rcases fn_any a (show fc < 2 ^ 31 by omega) with ha | ⟨i, hi, ha⟩
  · rw [sf_figN hc ha, fg_bd_s, fg_oq_n]
    rcases fn_any r (show rc < 2 ^ 31 by omega) with hr | ⟨j, hj, hr⟩
    · rw [sf_rulN hU hr, fg_bd_s, fg_oq_n]
    · subst hr
      rw [sf_rulY hU hj, fg_bd_s, fg_oq_s, fg_isU_y (by omega), fg_gd_t]
  · subst ha
    rw [sf_figY hc h12 hi, fg_bd_s, fg_oq_s, fg_isF_y (by omega), fg_gd_t]
    rcases fn_any r (show rc < 2 ^ 31 by omega) with hr | ⟨j, hj, hr⟩
    · rw [sf_rulN hU hr, fg_bd_s, fg_oq_n]
    · subst hr
      rw [sf_rulY hU hj, fg_bd_s, fg_oq_s, fg_isU_y (by omega), fg_gd_t]
      have FA := hF.2.2 i hi
      have q0 := g_bn FA.1
      rcases fn_any b (show g_nu (FG i) < 2 ^ 31 by omega) with hb | ⟨n, hb1, hb⟩
      · rw [sf_hasBN FA.2 hb, fg_bd_s, if_pos rfl]
      · subst hb
        rw [sf_hasBY FA.2 FA.1 hb1, fg_bd_s, if_neg (by decide)]
        rcases fn_any h (show 61 < 2 ^ 31 by decide) with hh | ⟨k, hk, hh⟩
        · by_cases c : h < 0
          · rw [if_pos c]
          · have h2 := hh.resolve_left c
            have h3 : nI 60 < nI 61 := by decide
            rw [if_neg c, if_neg (Int32.not_le.mpr (Int32.lt_of_lt_of_le h3 h2))]
        · subst hh
          exact (hn ⟨i, j, k, n, rfl, rfl, rfl, rfl, hi, hj, by omega, hb1⟩).elim
/-- behind aged and falls all stands as it stood, but what is kept -/
def ag_fr (x : Nat) (mu mu' : bs_Mm) : Prop := ∀ a, (a < x + 28 ∨ x + 29 < a) → (a < x + 45 ∨ x + 49 < a) → mu' a = mu a
theorem sf_agedY {x fc rc i j k n : Nat} {FG : Nat → bs_G} {UR : Nat → bs_U} {S : bs_So} {mu : bs_Mm} (hF : cFG x fc FG mu) (hU : cUR x rc UR mu) (hS : cSo x S mu) (hS6 : S.1 ≤ 6) (hSo : ∀ b, b < g_nb (FG i) → g_so (FG i) b < S.1) (hA : cAG x fc rc FG UR S mu) (hI : g_iv (FG i)) (hi : i < fc) (hj : j < rc) (hk : k ≤ 60) (hn : n < g_nu (FG i)) : ∃ mu', FX11_aged x mu (nI i) (nI j) (nI k) (nI n) = some (nI ((ag_n (FG i) (UR j) S k).1 n), mu') ∧ cAG x fc rc FG UR S mu' ∧ ag_fr x mu mu' := by
  have hc := hF.2.1
  have h12 := hF.1
  have h6 := hU.1
  have FA := hF.2.2 i hi
  have UA := hU.2.2 j hj
  have q0 := g_bn FA.1
  obtain ⟨m1, kn, a1, a2, a3, a4, a5⟩ := sf_turnTo (k := j) hA hI FA.2
  have C1 : ag_C x (x + 63 + 7 * i) (x + 147 + 2 * j) (FG i) (UR j) S m1 := ag_C_of (by omega) (by omega) ⟨FA.2, UA.2, hS⟩ fun a b1 b2 => a5 a (by omega) (by omega) (by omega)
  obtain ⟨m2, k2, b1, b2, b3, b4, b5⟩ := sf_reach (by omega) (by omega) hI UA.1 hSo hS6 C1 hk a2
  have e4 : bs_rv (m2 (x + 45) 4) = some (x + 63 + 7 * i) := by rw [b4 4 (by decide)]; exact a3
  have e5 : bs_rv (m2 (x + 45) 5) = some (x + 147 + 2 * j) := by rw [b4 5 (by decide)]; exact a4
  refine ⟨m2, ?_, ⟨fun b hb => ?_, fun b hb => ?_, fun j2 k3 h1 h2 => ?_⟩, fun a c1 c2 => by rw [b5 a (by omega) c2, a5 a (by omega) (by omega) (by omega)]⟩
  · unfold FX11_aged
    rw [sf_figY hc h12 hi, fg_bd_s, fg_oq_s, fg_isF_y (by omega), fg_gd_t, sf_rulY hU hj, fg_bd_s, fg_oq_s, fg_isU_y (by omega), fg_gd_t, sf_hasBY FA.2 FA.1 hn, fg_bd_s, if_neg (by decide), if_neg (nI_pos (by omega)), if_pos ((nI_leI (by omega) (by decide)).mpr hk), a1, fg_bd_s, b1, fg_bd_s, sf_lenAt hk (by omega) ((b3.2.2 k b2).2 n hn), fg_bd_s]
  · rw [e4] at hb
    exact ⟨i, hi, (Option.some.inj hb).symm⟩
  · rw [e5] at hb
    exact ⟨j, hj, (Option.some.inj hb).symm⟩
  · rw [e4] at h1
    rw [e5] at h2
    have x1 := Option.some.inj h1
    have x2 := Option.some.inj h2
    have : j2 = i := by omega
    subst this
    have : k3 = j := by omega
    subst this
    exact ⟨k2, b3⟩
