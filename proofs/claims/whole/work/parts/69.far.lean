/-! FAR, SPAN (own): the calls, both sides -/
theorem sf_hasPN {x f : Nat} {mu : bs_Mm} {G : bs_G} (hV : cFv f G mu) {a : Int32} (h : a < 0 ∨ nI (g_np G) ≤ a) : FX1_hasPoint x f mu a = some 0 := by
  unfold FX1_hasPoint
  rw [hV.2.2.1]
  by_cases c : a < 0
  · rw [if_pos c]; rfl
  · rw [if_neg c, if_pos (h.resolve_left c)]; rfl
theorem sf_hasPY {x f p : Nat} {mu : bs_Mm} {G : bs_G} (hV : cFv f G mu) (hG : g_ok G) (h : p < g_np G) : FX1_hasPoint x f mu (nI p) = some 1 := by
  have q0 := g_bn hG
  unfold FX1_hasPoint
  simp (disch := omega) only [fg_gd_t, fg_bd_s, fg_b2_s, fg_wr_s, fg_let_s, fn_add, fn_sub, fn_mul, fn_cl, fn_lt, fn_le, fn_eq, fn_eq0, fn_lt0, fn_0le, fn_0lt, fn_le0, fn_in, fn_shl, fn_shr, fa_and, fa_or, bs_xorI, if_true, if_false, hV.2.2.1, if_neg (show ¬ g_np G ≤ p by omega)]
  rfl
theorem tf_ptN {m fc : Nat} {mu : bs_Mm} (hc : bs_iv (mu m 20) = nI fc) (h : fc ≤ 12) {a : Int32} (ha : a < 0 ∨ nI fc ≤ a) (b : Int32) : FX12_isPoint m mu a b = some 0 := by
  unfold FX12_isPoint
  rw [tf_figN hc h ha]
  rfl
theorem tf_ptB {m fc g : Nat} {FG : Nat → bs_G} {mu : bs_Mm} (hF : mFG m fc FG mu) (hg : g < fc) {b : Int32} (hb : b < 0 ∨ nI (g_np (FG g)) ≤ b) : FX12_isPoint m mu (nI g) b = some 0 := by
  have hf := hF.1
  have hV := (hF.2.2 g hg).2
  have q0 := g_bn (hF.2.2 g hg).1
  unfold FX12_isPoint
  rw [tf_figY hF.2.1 hf hg]
  simp (disch := omega) only [fg_gd_t, fg_bd_s, fg_b2_s, fg_wr_s, fg_let_s, fn_add, fn_sub, fn_mul, fn_cl, fn_lt, fn_le, fn_eq, fn_eq0, fn_lt0, fn_0le, fn_0lt, fn_le0, fn_in, fn_shl, fn_shr, fa_and, fa_or, bs_xorI, if_true, if_false, hV.2.2.1]
  rw [if_neg (by decide), tf_inN (by omega) hb]
  rfl
theorem tf_ptY {m fc g p : Nat} {FG : Nat → bs_G} {mu : bs_Mm} (hF : mFG m fc FG mu) (hg : g < fc) (hp : p < g_np (FG g)) : FX12_isPoint m mu (nI g) (nI p) = some 1 := by
  have hf := hF.1
  have hV := (hF.2.2 g hg).2
  have q0 := g_bn (hF.2.2 g hg).1
  unfold FX12_isPoint
  rw [tf_figY hF.2.1 hf hg]
  simp (disch := omega) only [fg_gd_t, fg_bd_s, fg_b2_s, fg_wr_s, fg_let_s, fn_add, fn_sub, fn_mul, fn_cl, fn_lt, fn_le, fn_eq, fn_eq0, fn_lt0, fn_0le, fn_0lt, fn_le0, fn_in, fn_shl, fn_shr, fa_and, fa_or, bs_xorI, if_true, if_false, hV.2.2.1]
  rw [if_neg (by decide), tf_inY (by omega) (by omega) (by omega)]
  rfl
theorem sf_farN {x fc : Nat} {mu : bs_Mm} (hc : bs_iv (mu x 13) = nI fc) {a : Int32} (ha : a < 0 ∨ nI fc ≤ a) (b c : Int32) : FX11_far x mu a b c = some (-1, mu) := by
  unfold FX11_far
  rw [sf_figN hc ha]
  rfl
theorem sf_farB {x fc j : Nat} {FG : Nat → bs_G} {mu : bs_Mm} (hF : cFG x fc FG mu) (hj : j < fc) {b c : Int32} (hb : (b < 0 ∨ nI (g_np (FG j)) ≤ b) ∨ ((∃ p, p < g_np (FG j) ∧ b = nI p) ∧ (c < 0 ∨ nI (g_np (FG j)) ≤ c))) : FX11_far x mu (nI j) b c = some (-1, mu) := by
  have hf := hF.1
  have hV := (hF.2.2 j hj).2
  have hG := (hF.2.2 j hj).1
  unfold FX11_far
  rw [sf_figY hF.2.1 hf hj, fg_bd_s, fg_oq_s, fg_isF_y (by omega), fg_gd_t]
  rcases hb with h | ⟨⟨p, hp, rfl⟩, h⟩
  · rw [sf_hasPN hV h]
    rfl
  · rw [sf_hasPY hV hG hp, fg_bd_s, if_neg (by decide), sf_hasPN hV h]
    rfl
theorem sf_farY {x fc j p q : Nat} {FG : Nat → bs_G} {mu : bs_Mm} (hF : cFG x fc FG mu) (hj : j < fc) (hp : p < g_np (FG j)) (hq : q < g_np (FG j)) : ∃ mu', FX11_far x mu (nI j) (nI p) (nI q) = some (k_far (FG j) p q, mu') ∧ ∀ c, c ≠ x + 27 → mu' c = mu c := by
  have hf := hF.1
  have hV := (hF.2.2 j hj).2
  have hG := (hF.2.2 j hj).1
  have q0 := g_bn hG
  obtain ⟨mu1, A, m1, m2, m3, m4, m5⟩ := sf_measure (show x + 63 ≤ x + 63 + 7 * j by omega) hV hG hp
  refine ⟨mu1, ?_, m2⟩
  unfold FX11_far
  rw [sf_figY hF.2.1 hf hj, fg_bd_s, fg_oq_s, fg_isF_y (by omega), fg_gd_t, sf_hasPY hV hG hp, fg_bd_s, if_neg (by decide), sf_hasPY hV hG hq, fg_bd_s, if_neg (by decide), m1, fg_bd_s, fn_in (by omega) (by decide), fg_gd_t, fn_cl (by omega), m3 q (by omega), ds_far hG m4 m5]
theorem tf_farN {m fc : Nat} {mu : bs_Mm} (hc : bs_iv (mu m 20) = nI fc) (h : fc ≤ 12) {a : Int32} (ha : a < 0 ∨ nI fc ≤ a) (b c : Int32) : FX12_far m mu a b c = some (-1, mu) := by
  unfold FX12_far
  rw [tf_ptN hc h ha]
  rfl
theorem tf_farB {m fc g : Nat} {FG : Nat → bs_G} {mu : bs_Mm} (hF : mFG m fc FG mu) (hg : g < fc) {b c : Int32} (hb : (b < 0 ∨ nI (g_np (FG g)) ≤ b) ∨ ((∃ p, p < g_np (FG g) ∧ b = nI p) ∧ (c < 0 ∨ nI (g_np (FG g)) ≤ c))) : FX12_far m mu (nI g) b c = some (-1, mu) := by
  unfold FX12_far
  rcases hb with h | ⟨⟨p, hp, rfl⟩, h⟩
  · rw [tf_ptB hF hg h]
    rfl
  · rw [tf_ptY hF hg hp, fg_bd_s, if_neg (by decide), tf_ptB hF hg h]
    rfl
theorem ds_F_le (G : bs_G) (p q : Nat) : ds_F G p q ≤ 1000000 := ds_M_le G _ p q
theorem tf_farY {m fc g p q : Nat} {FG : Nat → bs_G} {mu : bs_Mm} (hF : mFG m fc FG mu) (hg : g < fc) (hp : p < g_np (FG g)) (hq : q < g_np (FG g)) : ∃ mu', FX12_far m mu (nI g) (nI p) (nI q) = some (k_far (FG g) p q, mu') ∧ ∀ c, c ≠ m + 24 → mu' c = mu c := by
  have hf := hF.1
  have hV := (hF.2.2 g hg).2
  have hG := (hF.2.2 g hg).1
  have q0 := g_bn hG
  obtain ⟨mu1, m1, m2, m3⟩ := tf_fars hV (show g < 13 by omega) hG
  have r := m3 p q hp hq
  have l := ds_F_le (FG g) p q
  refine ⟨mu1, ?_, m2⟩
  unfold FX12_far k_far
  rw [tf_ptY hF hg hp, fg_bd_s, if_neg (by decide), tf_ptY hF hg hq, fg_bd_s, if_neg (by decide), m1, show (1000000 : Int32) = nI 1000000 from rfl]
  simp (disch := omega) only [fg_gd_t, fg_bd_s, fg_b2_s, fg_wr_s, fg_let_s, fn_add, fn_sub, fn_mul, fn_cl, fn_lt, fn_le, fn_eq, fn_eq0, fn_lt0, fn_0le, fn_0lt, fn_le0, fn_in, fn_shl, fn_shr, fa_and, fa_or, bs_xorI, if_true, if_false, r]
  by_cases c : ds_F (FG g) p q < 1000000
  · rw [if_neg (show ¬ 1000000 ≤ ds_F (FG g) p q by omega), if_pos c]
  · rw [if_pos (show 1000000 ≤ ds_F (FG g) p q by omega), if_neg c]
/-- the longest way from p among the first q points, s so far -/
def ds_sr (G : bs_G) (p s : Nat) : Nat → Nat
  | 0 => s
  | q + 1 => max (ds_sr G p s q) (if ds_F G p q < 1000000 then ds_F G p q else 0)
def ds_sp (G : bs_G) : Nat → Nat
  | 0 => 0
  | p + 1 => ds_sr G p (ds_sp G p) (g_np G)
theorem ds_sr_le {G : bs_G} {p s : Nat} (h : s ≤ 1000000) : ∀ n, ds_sr G p s n ≤ 1000000 := by
  intro n
  induction n with
  | zero => exact h
  | succ n ih =>
    have := ds_F_le G p n
    rw [ds_sr]
    split <;> omega
theorem ds_sp_le (G : bs_G) : ∀ n, ds_sp G n ≤ 1000000 := by
  intro n
  induction n with
  | zero => exact Nat.zero_le _
  | succ n ih => exact ds_sr_le ih _
theorem sf_span1 {x f p s : Nat} {l3 : Int32} {A : Nat → Option Nat} {mu : bs_Mm} {G : bs_G} (hV : cFv f G mu) (hG : g_ok G) (hs : s ≤ 1000000) (hr : ds_row mu x A) (h1 : ds_iv G p A) (h2 : ds_al G p A) : fg_lp (FX5_spanOf_b21_L4 x f mu l3) fg_fu (nI s, nI 0) = some (nI (ds_sr G p s (g_np G))) := by
  have q0 := g_bn hG
  refine fg_lp_n (fun q => (nI (ds_sr G p s q), nI q)) _ (g_np G) rfl (fun q hq => ?_) ?_ (fg_fu_lt (by omega))
  · unfold FX5_spanOf_b21_L4
    have l := ds_F_le G p q
    have l2 := ds_sr_le (G := G) (p := p) hs q
    have r : bs_iv (mu (x + 27) q) = k_far G p q := (hr q (by omega)).trans (ds_far hG h1 h2)
    simp (disch := omega) only [fg_gd_t, fg_bd_s, fg_b2_s, fg_wr_s, fg_let_s, fn_add, fn_sub, fn_mul, fn_cl, fn_lt, fn_le, fn_eq, fn_eq0, fn_lt0, fn_0le, fn_0lt, fn_le0, fn_in, fn_shl, fn_shr, fa_and, fa_or, bs_xorI, if_true, if_false, hV.2.2.1, if_neg (show ¬ g_np G ≤ q by omega), r]
    rw [ds_sr]
    unfold k_far
    by_cases c : ds_F G p q < 1000000
    · rw [if_pos c, if_pos c]
      simp (disch := omega) only [fg_gd_t, fg_bd_s, fg_b2_s, fg_wr_s, fg_let_s, fn_add, fn_sub, fn_mul, fn_cl, fn_lt, fn_le, fn_eq, fn_eq0, fn_lt0, fn_0le, fn_0lt, fn_le0, fn_in, fn_shl, fn_shr, fa_and, fa_or, bs_xorI, if_true, if_false]
      by_cases d : ds_sr G p s q < ds_F G p q
      · rw [if_pos d, Nat.max_eq_right (by omega)]
      · rw [if_neg d, Nat.max_eq_left (by omega)]
    · rw [if_neg c, if_neg c, Nat.max_eq_left (Nat.zero_le _)]
      have : ¬ nI (ds_sr G p s q) < -1 := by
        intro z
        have z1 := Int32.lt_iff_toInt_lt.mp z
        rw [nI_toInt (by omega)] at z1
        have : (-1 : Int32).toInt = -1 := by decide
        omega
      rw [if_neg this]
  · unfold FX5_spanOf_b21_L4
    simp (disch := omega) only [fg_gd_t, fg_bd_s, fg_b2_s, fg_wr_s, fg_let_s, fn_add, fn_sub, fn_mul, fn_cl, fn_lt, fn_le, fn_eq, fn_eq0, fn_lt0, fn_0le, fn_0lt, fn_le0, fn_in, fn_shl, fn_shr, fa_and, fa_or, bs_xorI, if_true, if_false, hV.2.2.1, Nat.le_refl]
theorem sf_span {x f : Nat} {mu : bs_Mm} {G : bs_G} (hx : x + 63 ≤ f) (hV : cFv f G mu) (hG : g_ok G) : ∃ mu', FX5_spanOf x mu f = some (nI (ds_sp G (g_np G)), mu') ∧ ∀ c, c ≠ x + 27 → mu' c = mu c := by
  have q0 := g_bn hG
  unfold FX5_spanOf
  refine Exists.elim (fg_lp_i (body := FX5_spanOf_b4 x f) (fun r s => ∃ p, s.1 = nI (ds_sp G p) ∧ s.2.1 = nI p ∧ p + r = g_np G ∧ ∀ c, c ≠ x + 27 → s.2.2 c = mu c) (fun t => t.1 = nI (ds_sp G (g_np G)) ∧ ∀ c, c ≠ x + 27 → t.2 c = mu c) (fun r s hI => ?_) fg_fu (g_np G) (nI 0, nI 0, mu) ⟨0, rfl, rfl, by omega, fun _ _ => rfl⟩ (fg_fu_lt (by omega))) (fun t ht => ?_)
  · obtain ⟨sv, pv, mu1⟩ := s
    obtain ⟨p, e1, e2, hr, hfr⟩ := hI
    have e1 : sv = _ := e1
    have e2 : pv = nI p := e2
    subst e1
    subst e2
    have hfr : ∀ c, c ≠ x + 27 → mu1 c = mu c := hfr
    have hV1 : cFv f G mu1 := cFv_of hV (fun k _ => hfr _ (by omega))
    by_cases c : g_np G ≤ p
    · have e : p = g_np G := by omega
      refine Or.inr ⟨(nI (ds_sp G p), mu1), ?_, by rw [e], hfr⟩
      unfold FX5_spanOf_b4
      simp (disch := omega) only [fg_gd_t, fg_bd_s, fg_b2_s, fg_wr_s, fg_let_s, fn_add, fn_sub, fn_mul, fn_cl, fn_lt, fn_le, fn_eq, fn_eq0, fn_lt0, fn_0le, fn_0lt, fn_le0, fn_in, fn_shl, fn_shr, fa_and, fa_or, bs_xorI, if_true, if_false, hV1.2.2.1, if_pos c]
    · obtain ⟨mu2, A, m1, m2, m3, m4, m5⟩ := sf_measure hx hV1 hG (show p < g_np G by omega)
      have hV2 : cFv f G mu2 := cFv_of hV1 (fun k _ => m2 _ (by omega))
      refine Or.inl ⟨(nI (ds_sp G (p + 1)), nI (p + 1), mu2), r - 1, ?_, by omega, p + 1, rfl, rfl, by omega, fun c hc => (m2 c hc).trans (hfr c hc)⟩
      unfold FX5_spanOf_b4
      simp (disch := omega) only [fg_gd_t, fg_bd_s, fg_b2_s, fg_wr_s, fg_let_s, fn_add, fn_sub, fn_mul, fn_cl, fn_lt, fn_le, fn_eq, fn_eq0, fn_lt0, fn_0le, fn_0lt, fn_le0, fn_in, fn_shl, fn_shr, fa_and, fa_or, bs_xorI, if_true, if_false, hV1.2.2.1, if_neg c, m1, sf_span1 (l3 := nI p) hV2 hG (ds_sp_le G p) m3 m4 m5]
      rfl
  · obtain ⟨h1, h2, h3⟩ := ht
    obtain ⟨t1, t2⟩ := t
    have h2 : t1 = _ := h2
    subst h2
    refine ⟨t2, ?_, h3⟩
    rw [h1]
    rfl
theorem sf_spanN {x fc : Nat} {mu : bs_Mm} (hc : bs_iv (mu x 13) = nI fc) {a : Int32} (ha : a < 0 ∨ nI fc ≤ a) : FX11_span x mu a = some (-1, mu) := by
  unfold FX11_span
  rw [sf_figN hc ha]
  rfl
theorem sf_spanY {x fc j : Nat} {FG : Nat → bs_G} {mu : bs_Mm} (hF : cFG x fc FG mu) (hj : j < fc) : ∃ mu', FX11_span x mu (nI j) = some (nI (ds_sp (FG j) (g_np (FG j))), mu') ∧ ∀ c, c ≠ x + 27 → mu' c = mu c := by
  have hf := hF.1
  obtain ⟨mu1, m1, m2⟩ := sf_span (show x + 63 ≤ x + 63 + 7 * j by omega) (hF.2.2 j hj).2 (hF.2.2 j hj).1
  refine ⟨mu1, ?_, m2⟩
  unfold FX11_span
  rw [sf_figY hF.2.1 hf hj, fg_bd_s, fg_oq_s, fg_isF_y (by omega), fg_gd_t, m1]
  rfl
theorem tf_spanN {m fc : Nat} {mu : bs_Mm} (hc : bs_iv (mu m 20) = nI fc) (h : fc ≤ 12) {a : Int32} (ha : a < 0 ∨ nI fc ≤ a) : FX12_span m mu a = some (-1, mu) := by
  unfold FX12_span
  rw [tf_figN hc h ha]
  rfl
theorem tf_spanY {m fc g : Nat} {FG : Nat → bs_G} {mu : bs_Mm} (hF : mFG m fc FG mu) (hg : g < fc) : ∃ mu', FX12_span m mu (nI g) = some (nI (ds_sp (FG g) (g_np (FG g))), mu') ∧ ∀ c, c ≠ m + 24 → mu' c = mu c := by
  have hf := hF.1
  have hV := (hF.2.2 g hg).2
  have hG := (hF.2.2 g hg).1
  have hg13 : g < 13 := by omega
  have q0 := g_bn hG
  obtain ⟨mu1, m1, m2, m3⟩ := tf_fars hV hg13 hG
  have hV1 := mFv_of hV m2
  refine ⟨mu1, ?_, m2⟩
  unfold FX12_span
  rw [tf_figY hF.2.1 hf hg, fg_bd_s, if_neg (by decide), m1, fg_bd_s]
  rw [fg_lp_n (fun p => (nI (ds_sp (FG g) p), nI p)) (nI (ds_sp (FG g) (g_np (FG g)))) (g_np (FG g)) (by rfl) (fun p hp => ?_) ?_ (fg_fu_lt (by omega))]
  · rfl
  · unfold FX12_span_b19
    simp (disch := omega) only [fg_gd_t, fg_bd_s, fg_b2_s, fg_wr_s, fg_let_s, fn_add, fn_sub, fn_mul, fn_cl, fn_lt, fn_le, fn_eq, fn_eq0, fn_lt0, fn_0le, fn_0lt, fn_le0, fn_in, fn_shl, fn_shr, fa_and, fa_or, bs_xorI, if_true, if_false, hV1.2.2.1, Nat.le_refl]
  · have inner : fg_lp (FX12_span_b32_L19 m mu1 (nI g) (nI p)) fg_fu (nI (ds_sp (FG g) p), nI 0) = some (nI (ds_sr (FG g) p (ds_sp (FG g) p) (g_np (FG g)))) := by
      refine fg_lp_n (fun q => (nI (ds_sr (FG g) p (ds_sp (FG g) p) q), nI q)) _ (g_np (FG g)) rfl (fun q hq => ?_) ?_ (fg_fu_lt (by omega))
      · unfold FX12_span_b32_L19
        have l := ds_F_le (FG g) p q
        have l2 := ds_sr_le (G := FG g) (p := p) (ds_sp_le (FG g) p) q
        have r := m3 p q hp hq
        rw [show (1000000 : Int32) = nI 1000000 from rfl]
        simp (disch := omega) only [fg_gd_t, fg_bd_s, fg_b2_s, fg_wr_s, fg_let_s, fn_add, fn_sub, fn_mul, fn_cl, fn_lt, fn_le, fn_eq, fn_eq0, fn_lt0, fn_0le, fn_0lt, fn_le0, fn_in, fn_shl, fn_shr, fa_and, fa_or, bs_xorI, if_true, if_false, hV1.2.2.1, if_neg (show ¬ g_np (FG g) ≤ q by omega), r]
        rw [ds_sr]
        by_cases c : ds_F (FG g) p q < 1000000
        · rw [if_neg (show ¬ 1000000 ≤ ds_F (FG g) p q by omega), if_pos c]
          by_cases d : ds_sr (FG g) p (ds_sp (FG g) p) q < ds_F (FG g) p q
          · rw [if_pos d, Nat.max_eq_right (by omega)]
          · rw [if_neg d, Nat.max_eq_left (by omega)]
        · rw [if_pos (show 1000000 ≤ ds_F (FG g) p q by omega), if_neg c, Nat.max_eq_left (Nat.zero_le _)]
      · unfold FX12_span_b32_L19
        simp (disch := omega) only [fg_gd_t, fg_bd_s, fg_b2_s, fg_wr_s, fg_let_s, fn_add, fn_sub, fn_mul, fn_cl, fn_lt, fn_le, fn_eq, fn_eq0, fn_lt0, fn_0le, fn_0lt, fn_le0, fn_in, fn_shl, fn_shr, fa_and, fa_or, bs_xorI, if_true, if_false, hV1.2.2.1, Nat.le_refl]
    unfold FX12_span_b19
    simp (disch := omega) only [fg_gd_t, fg_bd_s, fg_b2_s, fg_wr_s, fg_let_s, fn_add, fn_sub, fn_mul, fn_cl, fn_lt, fn_le, fn_eq, fn_eq0, fn_lt0, fn_0le, fn_0lt, fn_le0, fn_in, fn_shl, fn_shr, fa_and, fa_or, bs_xorI, if_true, if_false, hV1.2.2.1, if_neg (show ¬ g_np (FG g) ≤ p by omega), inner]
    rfl
