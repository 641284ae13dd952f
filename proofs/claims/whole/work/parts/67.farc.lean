/-! FAR (own), the class's, as functions -/
def ds_en (o : Option Nat) : Int32 := match o with | none => -1 | some v => nI v
def ds_row (mu : bs_Mm) (x : Nat) (A : Nat → Option Nat) : Prop := ∀ p, p < 30 → bs_iv (mu (x + 27) p) = ds_en (A p)
def ds_bn (A : Nat → Option Nat) (M : Nat) : Prop := ∀ q v, A q = some v → v ≤ M
theorem fn_ne1 {v : Nat} (h : v < 2 ^ 31) : (nI v = -1) = False := by
  apply propext
  refine ⟨fun z => ?_, fun z => z.elim⟩
  have z2 := congrArg (fun v : Int32 => decide (v < 0)) z
  simp only [fn_lt0 h] at z2
  exact absurd z2 (by decide)
theorem ds_bn_r {A : Nat → Option Nat} {M a b l : Nat} (h : ds_bn A M) (hl : l ≤ 720) : ds_bn (ds_r A a b l) (M + 720) := by
  cases c : ds_sh A a b l with
  | none =>
    rw [(ds_sh_n c).1]
    intro q v hq
    have := h q v hq
    omega
  | some v =>
    rw [(ds_sh_s c).1]
    obtain ⟨u, u1, u2, -⟩ := ds_sh_v c
    intro q w hq
    have hq : (if q = b then some v else A q) = some w := hq
    by_cases e : q = b
    · rw [if_pos e] at hq
      cases hq
      have := h a u u1
      omega
    · rw [if_neg e] at hq
      have := h q w hq
      omega
theorem sf_short {x a b l M : Nat} {A : Nat → Option Nat} {mu : bs_Mm} (ha : a < 30) (hb : b < 30) (hl : l ≤ 720) (hM : M < 2 ^ 29) (hr : ds_row mu x A) (hn : ds_bn A M) : ∃ mu', FX5_shortens x mu (nI a) (nI b) (nI l) = some (nI (ds_c A a b l), mu') ∧ (∀ c, c ≠ x + 27 → mu' c = mu c) ∧ ds_row mu' x (ds_r A a b l) := by
  have ra := hr a ha
  have rb := hr b hb
  have up : ∀ u, A a = some u → ds_sh A a b l = some (u + l) → ∃ mu', FX5_shortens_j39 x mu (nI a) (nI b) (nI l) = some (nI (ds_c A a b l), mu') ∧ (∀ c, c ≠ x + 27 → mu' c = mu c) ∧ ds_row mu' x (ds_r A a b l) := by
    intro u hu hs
    rw [hu] at ra
    have ra : bs_iv (mu (x + 27) a) = nI u := ra
    have bu := hn a u hu
    refine ⟨bs_up mu (x + 27) b (.int (nI (u + l))), ?_, fun c hc => bs_up_f hc, fun p hp => ?_⟩
    · unfold FX5_shortens_j39
      simp (disch := omega) only [fg_gd_t, fg_bd_s, fg_b2_s, fg_wr_s, fg_let_s, fn_add, fn_sub, fn_mul, fn_cl, fn_lt, fn_le, fn_eq, fn_eq0, fn_lt0, fn_0le, fn_0lt, fn_le0, fn_in, fn_shl, fn_shr, fa_and, fa_or, bs_xorI, if_true, if_false, ra]
      rw [(ds_sh_s hs).2]
    · rw [(ds_sh_s hs).1]
      show _ = ds_en (if p = b then some (u + l) else A p)
      by_cases e : p = b
      · subst e; rw [if_pos rfl, bs_up_eq]; rfl
      · rw [if_neg e, bs_up_j e]; exact hr p hp
  have no : ds_sh A a b l = none → ∃ mu', (some (nI 0, mu) : Option (Int32 × bs_Mm)) = some (nI (ds_c A a b l), mu') ∧ (∀ c, c ≠ x + 27 → mu' c = mu c) ∧ ds_row mu' x (ds_r A a b l) := by
    intro hs
    rw [(ds_sh_n hs).1, (ds_sh_n hs).2]
    exact ⟨mu, rfl, fun _ _ => rfl, hr⟩
  unfold FX5_shortens
  cases hA : A a with
  | none =>
    rw [hA] at ra
    have ra : bs_iv (mu (x + 27) a) = -1 := ra
    simp (disch := omega) only [fg_gd_t, fg_bd_s, fg_b2_s, fg_wr_s, fg_let_s, fn_add, fn_sub, fn_mul, fn_cl, fn_lt, fn_le, fn_eq, fn_eq0, fn_lt0, fn_0le, fn_0lt, fn_le0, fn_in, fn_shl, fn_shr, fa_and, fa_or, bs_xorI, if_true, if_false, ra]
    exact no (by unfold ds_sh; rw [hA])
  | some u =>
    have bu := hn a u hA
    rw [hA] at ra
    have ra : bs_iv (mu (x + 27) a) = nI u := ra
    cases hB : A b with
    | none =>
      rw [hB] at rb
      have rb : bs_iv (mu (x + 27) b) = -1 := rb
      simp (disch := omega) only [fg_gd_t, fg_bd_s, fg_b2_s, fg_wr_s, fg_let_s, fn_add, fn_sub, fn_mul, fn_cl, fn_lt, fn_le, fn_eq, fn_eq0, fn_lt0, fn_0le, fn_0lt, fn_le0, fn_in, fn_shl, fn_shr, fa_and, fa_or, bs_xorI, if_true, if_false, ra, rb, fn_ne1]
      exact up u hA (by unfold ds_sh; rw [hA, hB])
    | some w =>
      have bw := hn b w hB
      rw [hB] at rb
      have rb : bs_iv (mu (x + 27) b) = nI w := rb
      simp (disch := omega) only [fg_gd_t, fg_bd_s, fg_b2_s, fg_wr_s, fg_let_s, fn_add, fn_sub, fn_mul, fn_cl, fn_lt, fn_le, fn_eq, fn_eq0, fn_lt0, fn_0le, fn_0lt, fn_le0, fn_in, fn_shl, fn_shr, fa_and, fa_or, bs_xorI, if_true, if_false, ra, rb, fn_ne1]
      have e : ds_sh A a b l = if u + l < w then some (u + l) else none := by unfold ds_sh; rw [hA, hB]
      by_cases c : u + l < w
      · rw [if_pos c]
        rw [if_pos c] at e
        exact up u hA e
      · rw [if_neg c]
        rw [if_neg c] at e
        exact no e
theorem ds_ar (M i : Nat) : M + 1440 * (i + 1) = M + 1440 * i + 720 + 720 := by omega
theorem ds_p_s1 (G : bs_G) (A : Nat → Option Nat) (n : Nat) : (ds_p G A (n + 1)).1 = ds_r (ds_r (ds_p G A n).1 (g_fr G n) (g_to G n) (g_le G n)) (g_to G n) (g_fr G n) (g_le G n) := by rw [ds_p]
theorem ds_p_s2 (G : bs_G) (A : Nat → Option Nat) (n : Nat) : (ds_p G A (n + 1)).2 = ((ds_p G A n).2 ||| ds_c (ds_p G A n).1 (g_fr G n) (g_to G n) (g_le G n)) ||| ds_c (ds_r (ds_p G A n).1 (g_fr G n) (g_to G n) (g_le G n)) (g_to G n) (g_fr G n) (g_le G n) := by rw [ds_p]
theorem sf_mround {x f M : Nat} {l2 l4 : Int32} {A : Nat → Option Nat} {mu : bs_Mm} {G : bs_G} (hx : x + 63 ≤ f) (hV : cFv f G mu) (hG : g_ok G) (hM : M + 34560 < 2 ^ 29) (hr : ds_row mu x A) (hn : ds_bn A M) : ∃ mu', fg_lp (FX5_measure_b38_L20 x f l2 l4) fg_fu (nI 0, nI 0, mu) = some (nI (ds_p G A (g_nu G)).2, mu') ∧ (∀ c, c ≠ x + 27 → mu' c = mu c) ∧ ds_row mu' x (ds_p G A (g_nu G)).1 ∧ ds_bn (ds_p G A (g_nu G)).1 (M + 34560) := by
  have q0 := g_bn hG
  refine Exists.elim (fg_lp_i (body := FX5_measure_b38_L20 x f l2 l4) (fun r s => ∃ i, s.1 = nI (ds_p G A i).2 ∧ s.2.1 = nI i ∧ i + r = g_nu G ∧ (∀ c, c ≠ x + 27 → s.2.2 c = mu c) ∧ ds_row s.2.2 x (ds_p G A i).1 ∧ ds_bn (ds_p G A i).1 (M + 1440 * i)) (fun t => t.1 = nI (ds_p G A (g_nu G)).2 ∧ (∀ c, c ≠ x + 27 → t.2 c = mu c) ∧ ds_row t.2 x (ds_p G A (g_nu G)).1 ∧ ds_bn (ds_p G A (g_nu G)).1 (M + 34560)) (fun r s hI => ?_) fg_fu (g_nu G) (nI 0, nI 0, mu) ⟨0, rfl, rfl, by omega, fun _ _ => rfl, hr, hn⟩ (fg_fu_lt (by omega))) (fun t ht => ?_)
  · obtain ⟨cv, iv, mu1⟩ := s
    obtain ⟨i, e1, e2, hr2, hfr, hrow, hbn⟩ := hI
    have e1 : cv = _ := e1
    have e2 : iv = nI i := e2
    subst e1
    subst e2
    have hfr : ∀ c, c ≠ x + 27 → mu1 c = mu c := hfr
    have hrow : ds_row mu1 x (ds_p G A i).1 := hrow
    have hV1 : cFv f G mu1 := cFv_of hV (fun k _ => hfr _ (by omega))
    by_cases c : g_nu G ≤ i
    · have e : i = g_nu G := by omega
      rw [e] at hrow hbn
      refine Or.inr ⟨(nI (ds_p G A i).2, mu1), ?_, by rw [e], hfr, hrow, fun q v hq => by have := hbn q v hq; omega⟩
      unfold FX5_measure_b38_L20
      simp (disch := omega) only [fg_gd_t, fg_bd_s, fg_b2_s, fg_wr_s, fg_let_s, fn_add, fn_sub, fn_mul, fn_cl, fn_lt, fn_le, fn_eq, fn_eq0, fn_lt0, fn_0le, fn_0lt, fn_le0, fn_in, fn_shl, fn_shr, fa_and, fa_or, bs_xorI, if_true, if_false, hV1.2.1, if_pos c]
    · refine Or.inl ?_
      have hi : i < g_nu G := by omega
      have b := g_bd hG hi
      obtain ⟨mu2, m1, m2, m3⟩ := sf_short (x := x) (a := g_fr G i) (b := g_to G i) (l := g_le G i) (M := M + 1440 * i) (by omega) (by omega) (by omega) (by omega) hrow hbn
      have hV2 : cFv f G mu2 := cFv_of hV1 (fun k _ => m2 _ (by omega))
      have hb2 := ds_bn_r (a := g_fr G i) (b := g_to G i) hbn (show g_le G i ≤ 720 by omega)
      obtain ⟨mu3, k1, k2, k3⟩ := sf_short (x := x) (a := g_to G i) (b := g_fr G i) (l := g_le G i) (M := M + 1440 * i + 720) (by omega) (by omega) (by omega) (by omega) m3 hb2
      have hb3 := ds_bn_r (a := g_to G i) (b := g_fr G i) hb2 (show g_le G i ≤ 720 by omega)
      refine ⟨(nI (ds_p G A (i + 1)).2, nI (i + 1), mu3), r - 1, ?_, by omega, i + 1, rfl, rfl, by omega, fun c hc => (k2 c hc).trans ((m2 c hc).trans (hfr c hc)), by rw [ds_p_s1]; exact k3, ?_⟩
      rotate_left
      · rw [ds_p_s1, ds_ar]
        exact hb3
      unfold FX5_measure_b38_L20
      simp (disch := omega) only [fg_gd_t, fg_bd_s, fg_b2_s, fg_wr_s, fg_let_s, fn_add, fn_sub, fn_mul, fn_cl, fn_lt, fn_le, fn_eq, fn_eq0, fn_lt0, fn_0le, fn_0lt, fn_le0, fn_in, fn_shl, fn_shr, fa_and, fa_or, bs_xorI, if_true, if_false, hV1.2.1, if_neg c, hV1.2.2.2.2.2.1 i hi, hV1.2.2.2.2.2.2.1 i hi, hV1.2.2.2.2.2.2.2.1 i hi, m1, hV2.2.2.2.2.2.1 i hi, hV2.2.2.2.2.2.2.1 i hi, hV2.2.2.2.2.2.2.2.1 i hi, k1, ds_p_s2]
  · obtain ⟨h1, h2, h3, h4, h5⟩ := ht
    obtain ⟨t1, t2⟩ := t
    have h2 : t1 = _ := h2
    subst h2
    exact ⟨t2, h1, h3, h4, h5⟩
theorem sf_measure {x f s : Nat} {mu : bs_Mm} {G : bs_G} (hx : x + 63 ≤ f) (hV : cFv f G mu) (hG : g_ok G) (hs : s < g_np G) : ∃ mu' A, FX5_measure x mu f (nI s) = some mu' ∧ (∀ c, c ≠ x + 27 → mu' c = mu c) ∧ ds_row mu' x A ∧ ds_iv G s A ∧ ds_al G s A := by
  have q0 := g_bn hG
  have cl : ∀ A, ds_ct G s A ≤ g_np G := fun A => g_sm1 (fun _ => g_if_le _) _
  have F0 : ds_F G s s = 0 := ds_M_pp G _ _
  have st0 : ds_iv G s (fun q => if q = s then some 0 else none) := by
    refine ⟨fun q w hq => ?_, if_pos rfl⟩
    have hq : (if q = s then some 0 else none) = some w := hq
    by_cases e : q = s
    · rw [if_pos e] at hq
      cases hq
      exact ⟨0, e, rfl⟩
    · rw [if_neg e] at hq; cases hq
  have ct0 : 1 ≤ ds_ct G s (fun q => if q = s then some 0 else none) := by
    have := g_sm_one (h := fun q => g_if ((if q = s then some 0 else none) = some (ds_F G s q))) hs
    have e : g_if ((if s = s then some 0 else none) = some (ds_F G s s)) = 1 := g_if1 (by rw [if_pos rfl, F0])
    have h : g_if ((if s = s then some 0 else none) = some (ds_F G s s)) ≤ ds_ct G s (fun q => if q = s then some 0 else none) := this
    omega
  unfold FX5_measure
  rw [fg_wf_s, fn_in (by omega) (by decide), fg_gd_t, fg_wr_s, fn_cl (by omega)]
  refine Exists.elim (fg_lp_i (body := FX5_measure_b20 x f (nI s)) (fun r z => ∃ A k, z.2.1 = nI k ∧ k + r = g_np G ∧ (∀ c, c ≠ x + 27 → z.2.2 c = mu c) ∧ ds_row z.2.2 x A ∧ ds_iv G s A ∧ ds_bn A (34560 * k) ∧ ((z.1 = nI 0 ∧ ds_al G s A) ∨ (z.1 = nI 1 ∧ (ds_al G s A ∨ k + 1 ≤ ds_ct G s A)))) (fun t => ∃ A, (∀ c, c ≠ x + 27 → t c = mu c) ∧ ds_row t x A ∧ ds_iv G s A ∧ ds_al G s A) (fun r z hI => ?_) fg_fu (g_np G) (nI 1, nI 0, bs_up (bs_fi mu (x + 27) 30 (.int (-1))) (x + 27) s (.int (nI 0))) ⟨fun q => if q = s then some 0 else none, 0, rfl, by omega, fun c hc => ?_, fun p hp => ?_, st0, fun q v hq => ?_, Or.inr ⟨rfl, Or.inr (by omega)⟩⟩ (fg_fu_lt (by omega))) (fun t ht => ?_)
  · obtain ⟨cv, kv, mu1⟩ := z
    obtain ⟨A, k, e2, hr2, hfr, hrow, hiv, hbn, hh⟩ := hI
    have e2 : kv = nI k := e2
    subst e2
    have hfr : ∀ c, c ≠ x + 27 → mu1 c = mu c := hfr
    have hrow : ds_row mu1 x A := hrow
    have hV1 : cFv f G mu1 := cFv_of hV (fun k _ => hfr _ (by omega))
    by_cases c : g_np G ≤ k
    · refine Or.inr ⟨mu1, ?_, A, hfr, hrow, hiv, ?_⟩
      · unfold FX5_measure_b20
        simp (disch := omega) only [fg_gd_t, fg_bd_s, fg_b2_s, fg_wr_s, fg_let_s, fn_add, fn_sub, fn_mul, fn_cl, fn_lt, fn_le, fn_eq, fn_eq0, fn_lt0, fn_0le, fn_0lt, fn_le0, fn_in, fn_shl, fn_shr, fa_and, fa_or, bs_xorI, if_true, if_false, hV1.2.2.1, if_pos c]
      · rcases hh with ⟨-, h⟩ | ⟨-, h | h⟩
        · exact h
        · exact h
        · have := cl A
          omega
    · rcases hh with ⟨e, h⟩ | ⟨e, h⟩
      · have e : cv = nI 0 := e
        subst e
        refine Or.inr ⟨mu1, ?_, A, hfr, hrow, hiv, h⟩
        unfold FX5_measure_b20
        simp (disch := omega) only [fg_gd_t, fg_bd_s, fg_b2_s, fg_wr_s, fg_let_s, fn_add, fn_sub, fn_mul, fn_cl, fn_lt, fn_le, fn_eq, fn_eq0, fn_lt0, fn_0le, fn_0lt, fn_le0, fn_in, fn_shl, fn_shr, fa_and, fa_or, bs_xorI, if_true, if_false, hV1.2.2.1, if_neg c]
      · have e : cv = nI 1 := e
        subst e
        obtain ⟨mu2, m1, m2, m3, m4⟩ := sf_mround (l2 := nI s) (l4 := nI k) hx hV1 hG (show 34560 * k + 34560 < 2 ^ 29 by omega) hrow hbn
        have iv2 := ds_p_iv hiv (g_nu G) (Nat.le_refl _)
        have al2 : ds_al G s A → ds_al G s (ds_p G A (g_nu G)).1 := fun h n q w hw => ds_p_st hG hiv (h n q w hw) _ (Nat.le_refl _)
        refine Or.inl ⟨(nI (ds_p G A (g_nu G)).2, nI (k + 1), mu2), r - 1, ?_, by omega, (ds_p G A (g_nu G)).1, k + 1, rfl, by omega, fun c hc => (m2 c hc).trans (hfr c hc), m3, iv2, fun q v hq => by have := m4 q v hq; omega, ?_⟩
        · unfold FX5_measure_b20
          simp (disch := omega) only [fg_gd_t, fg_bd_s, fg_b2_s, fg_wr_s, fg_let_s, fn_add, fn_sub, fn_mul, fn_cl, fn_lt, fn_le, fn_eq, fn_eq0, fn_lt0, fn_0le, fn_0lt, fn_le0, fn_in, fn_shl, fn_shr, fa_and, fa_or, bs_xorI, if_true, if_false, hV1.2.2.1, if_neg c]
          rw [if_neg (by decide), m1]
          rfl
        · by_cases al : ds_al G s A
          · rcases ds_p_01 G A (g_nu G) with y | y
            · exact Or.inl ⟨by rw [y], al2 al⟩
            · exact Or.inr ⟨by rw [y], Or.inl (al2 al)⟩
          · obtain ⟨r1, r2⟩ := ds_round hG hs hiv al
            refine Or.inr ⟨by rw [r2], Or.inr ?_⟩
            rcases h with h | h
            · exact absurd h al
            · omega
  · show bs_up (bs_fi mu (x + 27) 30 (.int (-1))) (x + 27) s (.int (nI 0)) c = mu c
    rw [bs_up_f hc]
    funext j
    simp [bs_fi, hc]
  · show bs_iv (bs_up (bs_fi mu (x + 27) 30 (.int (-1))) (x + 27) s (.int (nI 0)) (x + 27) p) = ds_en (if p = s then some 0 else none)
    by_cases e : p = s
    · subst e; rw [if_pos rfl, bs_up_eq]; rfl
    · rw [if_neg e, bs_up_j e]
      simp [bs_fi, hp, bs_iv, ds_en]
  · have hq : (if q = s then some 0 else none) = some v := hq
    by_cases e : q = s
    · rw [if_pos e] at hq; cases hq; exact Nat.zero_le _
    · rw [if_neg e] at hq; cases hq
  · obtain ⟨h1, A, h2, h3, h4, h5⟩ := ht
    exact ⟨t, A, by rw [h1]; rfl, h2, h3, h4, h5⟩
/-- what far answers -/
def k_far (G : bs_G) (s q : Nat) : Int32 := if ds_F G s q < 1000000 then nI (ds_F G s q) else -1
theorem ds_far {G : bs_G} (hG : g_ok G) {s q : Nat} {A : Nat → Option Nat} (h1 : ds_iv G s A) (h2 : ds_al G s A) : ds_en (A q) = k_far G s q := by
  unfold k_far
  cases c : A q with
  | none =>
    rw [if_neg]
    · rfl
    · intro z
      obtain ⟨n, hn⟩ := ds_w_M (g_np G) s q z
      have := h2 n q _ hn
      rw [ds_st, c] at this
      cases this
  | some w =>
    obtain ⟨n, hn⟩ := h1.1 q w c
    have st := h2 n q w hn
    have f := ds_fin hG n q w hn
    rw [ds_st, c] at st
    cases st
    rw [if_pos (by omega)]
    rfl
