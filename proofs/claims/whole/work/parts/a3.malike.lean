/-! ALIKE, MATCH: the model's -/
theorem tf_betw {m g p q l : Nat} {mu : bs_Mm} {G : bs_G} (hV : mFv m g G mu) (hg : g < 13) (hG : g_ok G) (hp : p < 2 ^ 30) (hq : q < 2 ^ 30) (hl : l < 2 ^ 30) : FX12_between m mu (nI g) (nI p) (nI q) (nI l) = some (nI (al_b G p q l (g_nu G))) := by
  have q0 := g_bn hG
  unfold FX12_between
  rw [fg_lp_n (fun i => (nI (al_b G p q l i), nI (24 * g + i))) (nI (al_b G p q l (g_nu G))) (g_nu G) (by rw [fn_mul]; rfl) (fun i hi => ?_) ?_ (fg_fu_lt (by omega))]
  · rfl
  · unfold FX12_between_b9
    simp (disch := omega) only [fg_gd_t, fg_bd_s, fg_b2_s, fg_wr_s, fg_let_s, fn_add, fn_sub, fn_mul, fn_cl, fn_lt, fn_le, fn_eq, fn_eq0, fn_lt0, fn_0le, fn_0lt, fn_le0, fn_in, fn_shl, fn_shr, fa_and, fa_or, bs_xorI, if_true, if_false, hV.2.1, Nat.le_refl]
  · have b := g_bd hG hi
    have e1 := hV.2.2.2.2.2.2.1 i hi
    have e2 := hV.2.2.2.2.2.2.2.1 i hi
    have e3 := hV.2.2.2.2.2.1 i hi
    have st : al_b G p q l (i + 1) = al_b G p q l i + g_if (al_q G p q i ∧ g_le G i = l) := rfl
    have bl := al_b_le G p q l i
    have nn : ¬ 24 * g + g_nu G ≤ 24 * g + i := by omega
    unfold FX12_between_b9
    simp (disch := omega) only [fg_gd_t, fg_bd_s, fg_b2_s, fg_wr_s, fg_let_s, fn_add, fn_sub, fn_mul, fn_cl, fn_lt, fn_le, fn_eq, fn_eq0, fn_lt0, fn_0le, fn_0lt, fn_le0, fn_in, fn_shl, fn_shr, fa_and, fa_or, bs_xorI, if_true, if_false, hV.2.1, if_neg nn, e1, e2]
    have J1 : al_q G p q i → FX12_between_j69_L9 m mu (nI g) (nI p) (nI q) (nI l) (nI (al_b G p q l i)) (nI (24 * g + i)) = some (.inl (nI (al_b G p q l (i + 1)), nI (24 * g + (i + 1)))) := by
      intro h
      unfold FX12_between_j69_L9 FX12_between_j74_L9
      rw [if_neg (show ¬ nI 1 = 0 by decide)]
      simp (disch := omega) only [fg_gd_t, fg_bd_s, fg_b2_s, fg_wr_s, fg_let_s, fn_add, fn_sub, fn_mul, fn_cl, fn_lt, fn_le, fn_eq, fn_eq0, fn_lt0, fn_0le, fn_0lt, fn_le0, fn_in, fn_shl, fn_shr, fa_and, fa_or, bs_xorI, if_true, if_false, e3]
      by_cases c : g_le G i = l
      · rw [if_pos c, st, g_if1 ⟨h, c⟩]
        rfl
      · rw [if_neg c, st, g_if0 (fun z => c z.2)]
        rfl
    have J0 : ¬ al_q G p q i → FX12_between_j73_L9 m mu (nI g) (nI p) (nI q) (nI l) (nI (al_b G p q l i)) (nI (24 * g + i)) = some (.inl (nI (al_b G p q l (i + 1)), nI (24 * g + (i + 1)))) := by
      intro h
      unfold FX12_between_j73_L9 FX12_between_j74_L9
      rw [if_pos (show nI 0 = 0 from rfl), st, g_if0 (fun z => h z.1)]
      simp (disch := omega) only [fg_gd_t, fg_bd_s, fg_b2_s, fg_wr_s, fg_let_s, fn_add, fn_sub, fn_mul, fn_cl, fn_lt, fn_le, fn_eq, fn_eq0, fn_lt0, fn_0le, fn_0lt, fn_le0, fn_in, fn_shl, fn_shr, fa_and, fa_or, bs_xorI, if_true, if_false]
      rfl
    have J2 : ¬ (g_fr G i = p ∧ g_to G i = q) → FX12_between_j47_L9 m mu (nI g) (nI p) (nI q) (nI l) (nI (al_b G p q l i)) (nI (24 * g + i)) = some (.inl (nI (al_b G p q l (i + 1)), nI (24 * g + (i + 1)))) := by
      intro h
      unfold FX12_between_j47_L9
      simp (disch := omega) only [fg_gd_t, fg_bd_s, fg_b2_s, fg_wr_s, fg_let_s, fn_add, fn_sub, fn_mul, fn_cl, fn_lt, fn_le, fn_eq, fn_eq0, fn_lt0, fn_0le, fn_0lt, fn_le0, fn_in, fn_shl, fn_shr, fa_and, fa_or, bs_xorI, if_true, if_false, e1, e2]
      by_cases c : g_fr G i = q
      · rw [if_pos c]
        by_cases d : g_to G i = p
        · rw [if_pos d]
          exact J1 (Or.inr ⟨c, d⟩)
        · rw [if_neg d]
          exact J0 (fun z => z.elim h (fun z => d z.2))
      · rw [if_neg c]
        exact J0 (fun z => z.elim h (fun z => c z.1))
    by_cases c : g_fr G i = p
    · rw [if_pos c]
      by_cases d : g_to G i = q
      · rw [if_pos d]
        exact J1 (Or.inl ⟨c, d⟩)
      · rw [if_neg d]
        exact J2 (fun z => d z.2)
    · rw [if_neg c]
      exact J2 (fun z => c z.1)
theorem al_b_0 {G : bs_G} {p q l n : Nat} (h : ∀ i, i < n → g_le G i ≠ l) : al_b G p q l n = 0 := g_sm_z n fun i hi => g_if0 (fun z => h i hi z.2)
theorem tf_same {m g o p q u v : Nat} {mu : bs_Mm} {G H : bs_G} (hV : mFv m g G mu) (hg : g < 13) (hG : g_ok G) (hW : mFv m o H mu) (ho : o < 13) (hH : g_ok H) (hp : p < 2 ^ 30) (hq : q < 2 ^ 30) (hu : u < 2 ^ 30) (hv : v < 2 ^ 30) : ∃ a, FX12_isSame m mu (nI g) (nI p) (nI q) (nI o) (nI u) (nI v) = some a ∧ ((a = nI 1 ∧ ∀ l, al_b G p q l (g_nu G) = al_b H u v l (g_nu H)) ∨ (a = nI 0 ∧ ¬ ∀ l, al_b G p q l (g_nu G) = al_b H u v l (g_nu H))) := by
  have q0 := g_bn hG
  have q1 := g_bn hH
  unfold FX12_isSame
  have L1 : (fg_lp (FX12_isSame_b6 m mu (nI g) (nI p) (nI q) (nI o) (nI u) (nI v)) fg_fu (nI 24 * nI g) = some (.inl ()) ∧ ∀ i, i < g_nu G → al_b G p q (g_le G i) (g_nu G) = al_b H u v (g_le G i) (g_nu H)) ∨ (fg_lp (FX12_isSame_b6 m mu (nI g) (nI p) (nI q) (nI o) (nI u) (nI v)) fg_fu (nI 24 * nI g) = some (.inr (nI 0)) ∧ ¬ ∀ l, al_b G p q l (g_nu G) = al_b H u v l (g_nu H)) := by
    refine Exists.elim (fg_lp_i (body := FX12_isSame_b6 m mu (nI g) (nI p) (nI q) (nI o) (nI u) (nI v)) (fun w s => ∃ i, s = nI (24 * g + i) ∧ i + w = g_nu G ∧ ∀ j, j < i → al_b G p q (g_le G j) (g_nu G) = al_b H u v (g_le G j) (g_nu H)) (fun t => (t = .inl () ∧ ∀ i, i < g_nu G → al_b G p q (g_le G i) (g_nu G) = al_b H u v (g_le G i) (g_nu H)) ∨ (t = .inr (nI 0) ∧ ¬ ∀ l, al_b G p q l (g_nu G) = al_b H u v l (g_nu H))) (fun w s hI => ?_) fg_fu (g_nu G) (nI 24 * nI g) ⟨0, by rw [fn_mul]; rfl, by omega, fun j hj => by omega⟩ (fg_fu_lt (by omega))) (fun t ht => ?_)
    · obtain ⟨i, e, hw, hh⟩ := hI
      subst e
      by_cases z : g_nu G ≤ i
      · refine Or.inr ⟨.inl (), ?_, Or.inl ⟨rfl, fun j hj => hh j (by omega)⟩⟩
        unfold FX12_isSame_b6
        simp (disch := omega) only [fg_gd_t, fg_bd_s, fg_b2_s, fg_wr_s, fg_let_s, fn_add, fn_sub, fn_mul, fn_cl, fn_lt, fn_le, fn_eq, fn_eq0, fn_lt0, fn_0le, fn_0lt, fn_le0, fn_in, fn_shl, fn_shr, fa_and, fa_or, bs_xorI, if_true, if_false, hV.2.1, if_pos (show 24 * g + g_nu G ≤ 24 * g + i by omega)]
      · have b := g_bd hG (show i < g_nu G by omega)
        have e3 := hV.2.2.2.2.2.1 i (by omega)
        have b1 := al_b_le G p q (g_le G i) (g_nu G)
        have b2 := al_b_le H u v (g_le G i) (g_nu H)
        have t1 := tf_betw (l := g_le G i) hV hg hG hp hq (by omega)
        have t2 := tf_betw (l := g_le G i) hW ho hH hu hv (by omega)
        have nn : ¬ 24 * g + g_nu G ≤ 24 * g + i := by omega
        by_cases c : al_b G p q (g_le G i) (g_nu G) = al_b H u v (g_le G i) (g_nu H)
        · refine Or.inl ⟨nI (24 * g + (i + 1)), w - 1, ?_, by omega, i + 1, rfl, by omega, fun j hj => ?_⟩
          · unfold FX12_isSame_b6
            simp (disch := omega) only [fg_gd_t, fg_bd_s, fg_b2_s, fg_wr_s, fg_let_s, fn_add, fn_sub, fn_mul, fn_cl, fn_lt, fn_le, fn_eq, fn_eq0, fn_lt0, fn_0le, fn_0lt, fn_le0, fn_in, fn_shl, fn_shr, fa_and, fa_or, bs_xorI, if_true, if_false, hV.2.1, if_neg nn, e3, t1, t2, if_pos c]
            rfl
          · by_cases e : j = i
            · rw [e]; exact c
            · exact hh j (by omega)
        · refine Or.inr ⟨.inr (nI 0), ?_, Or.inr ⟨rfl, fun h => c (h _)⟩⟩
          unfold FX12_isSame_b6
          simp (disch := omega) only [fg_gd_t, fg_bd_s, fg_b2_s, fg_wr_s, fg_let_s, fn_add, fn_sub, fn_mul, fn_cl, fn_lt, fn_le, fn_eq, fn_eq0, fn_lt0, fn_0le, fn_0lt, fn_le0, fn_in, fn_shl, fn_shr, fa_and, fa_or, bs_xorI, if_true, if_false, hV.2.1, if_neg nn, e3, t1, t2, if_neg c]
    · rcases ht.2 with ⟨a, b⟩ | ⟨a, b⟩
      · exact Or.inl ⟨by rw [← a]; exact ht.1, b⟩
      · exact Or.inr ⟨by rw [← a]; exact ht.1, b⟩
  have L2 : (fg_lp (FX12_isSame_b71 m mu (nI g) (nI p) (nI q) (nI o) (nI u) (nI v)) fg_fu (nI 24 * nI o) = some (.inl ()) ∧ ∀ i, i < g_nu H → al_b G p q (g_le H i) (g_nu G) = al_b H u v (g_le H i) (g_nu H)) ∨ (fg_lp (FX12_isSame_b71 m mu (nI g) (nI p) (nI q) (nI o) (nI u) (nI v)) fg_fu (nI 24 * nI o) = some (.inr (nI 0)) ∧ ¬ ∀ l, al_b G p q l (g_nu G) = al_b H u v l (g_nu H)) := by
    refine Exists.elim (fg_lp_i (body := FX12_isSame_b71 m mu (nI g) (nI p) (nI q) (nI o) (nI u) (nI v)) (fun w s => ∃ i, s = nI (24 * o + i) ∧ i + w = g_nu H ∧ ∀ j, j < i → al_b G p q (g_le H j) (g_nu G) = al_b H u v (g_le H j) (g_nu H)) (fun t => (t = .inl () ∧ ∀ i, i < g_nu H → al_b G p q (g_le H i) (g_nu G) = al_b H u v (g_le H i) (g_nu H)) ∨ (t = .inr (nI 0) ∧ ¬ ∀ l, al_b G p q l (g_nu G) = al_b H u v l (g_nu H))) (fun w s hI => ?_) fg_fu (g_nu H) (nI 24 * nI o) ⟨0, by rw [fn_mul]; rfl, by omega, fun j hj => by omega⟩ (fg_fu_lt (by omega))) (fun t ht => ?_)
    · obtain ⟨i, e, hw, hh⟩ := hI
      subst e
      by_cases z : g_nu H ≤ i
      · refine Or.inr ⟨.inl (), ?_, Or.inl ⟨rfl, fun j hj => hh j (by omega)⟩⟩
        unfold FX12_isSame_b71
        simp (disch := omega) only [fg_gd_t, fg_bd_s, fg_b2_s, fg_wr_s, fg_let_s, fn_add, fn_sub, fn_mul, fn_cl, fn_lt, fn_le, fn_eq, fn_eq0, fn_lt0, fn_0le, fn_0lt, fn_le0, fn_in, fn_shl, fn_shr, fa_and, fa_or, bs_xorI, if_true, if_false, hW.2.1, if_pos (show 24 * o + g_nu H ≤ 24 * o + i by omega)]
      · have b := g_bd hH (show i < g_nu H by omega)
        have e3 := hW.2.2.2.2.2.1 i (by omega)
        have b1 := al_b_le G p q (g_le H i) (g_nu G)
        have b2 := al_b_le H u v (g_le H i) (g_nu H)
        have t1 := tf_betw (l := g_le H i) hV hg hG hp hq (by omega)
        have t2 := tf_betw (l := g_le H i) hW ho hH hu hv (by omega)
        have nn : ¬ 24 * o + g_nu H ≤ 24 * o + i := by omega
        by_cases c : al_b G p q (g_le H i) (g_nu G) = al_b H u v (g_le H i) (g_nu H)
        · refine Or.inl ⟨nI (24 * o + (i + 1)), w - 1, ?_, by omega, i + 1, rfl, by omega, fun j hj => ?_⟩
          · unfold FX12_isSame_b71
            simp (disch := omega) only [fg_gd_t, fg_bd_s, fg_b2_s, fg_wr_s, fg_let_s, fn_add, fn_sub, fn_mul, fn_cl, fn_lt, fn_le, fn_eq, fn_eq0, fn_lt0, fn_0le, fn_0lt, fn_le0, fn_in, fn_shl, fn_shr, fa_and, fa_or, bs_xorI, if_true, if_false, hW.2.1, if_neg nn, e3, t1, t2, if_pos c]
            rfl
          · by_cases e : j = i
            · rw [e]; exact c
            · exact hh j (by omega)
        · refine Or.inr ⟨.inr (nI 0), ?_, Or.inr ⟨rfl, fun h => c (h _)⟩⟩
          unfold FX12_isSame_b71
          simp (disch := omega) only [fg_gd_t, fg_bd_s, fg_b2_s, fg_wr_s, fg_let_s, fn_add, fn_sub, fn_mul, fn_cl, fn_lt, fn_le, fn_eq, fn_eq0, fn_lt0, fn_0le, fn_0lt, fn_le0, fn_in, fn_shl, fn_shr, fa_and, fa_or, bs_xorI, if_true, if_false, hW.2.1, if_neg nn, e3, t1, t2, if_neg c]
    · rcases ht.2 with ⟨a, b⟩ | ⟨a, b⟩
      · exact Or.inl ⟨by rw [← a]; exact ht.1, b⟩
      · exact Or.inr ⟨by rw [← a]; exact ht.1, b⟩
  rcases L1 with ⟨a1, a2⟩ | ⟨a1, a2⟩
  · rw [a1, fg_l3_l]
    rcases L2 with ⟨b1, b2⟩ | ⟨b1, b2⟩
    · rw [b1, fg_l3_l]
      refine ⟨nI 1, rfl, Or.inl ⟨rfl, fun l => ?_⟩⟩
      by_cases c : ∃ i, i < g_nu G ∧ g_le G i = l
      · obtain ⟨i, i1, i2⟩ := c
        rw [← i2]
        exact a2 i i1
      · by_cases d : ∃ i, i < g_nu H ∧ g_le H i = l
        · obtain ⟨i, i1, i2⟩ := d
          rw [← i2]
          exact b2 i i1
        · rw [al_b_0 (fun i hi e => c ⟨i, hi, e⟩), al_b_0 (fun i hi e => d ⟨i, hi, e⟩)]
    · rw [b1, fg_l3_r]
      exact ⟨nI 0, rfl, Or.inr ⟨rfl, b2⟩⟩
  · rw [a1, fg_l3_r]
    exact ⟨nI 0, rfl, Or.inr ⟨rfl, a2⟩⟩
