/-! POP, WEAKEST (own): the calls, both sides -/
def g_cm (G : bs_G) (L : Nat) : Nat := (2 ^ g_nu G - 1) ^^^ L
theorem g_cm_co {G : bs_G} {L : Nat} (h : L < 2 ^ g_nu G) : g_co G (g_cm G L) L := by
  have q : (2 ^ g_nu G - 1) < 2 ^ g_nu G := by have := Nat.one_le_two_pow (n := g_nu G); omega
  refine ⟨Nat.xor_lt_two_pow q h, h, fun i hi => ?_⟩
  unfold g_cm
  rw [Nat.testBit_xor, Nat.testBit_two_pow_sub_one]
  cases L.testBit i <;> simp [hi]
theorem g_co_eq {G : bs_G} {V L : Nat} (h : g_co G V L) : V = g_cm G L := by
  have h2 := g_cm_co h.2.1
  apply Nat.eq_of_testBit_eq
  intro i
  by_cases hi : i < g_nu G
  · rw [h.2.2 i hi, h2.2.2 i hi]
  · have z : ∀ A, A < 2 ^ g_nu G → A.testBit i = false := by
      intro A hA
      cases c : A.testBit i with
      | false => rfl
      | true => exact absurd (g_tb_lt hA c) hi
    rw [z _ h.1, z _ h2.1]
theorem sf_hasBN {x f : Nat} {mu : bs_Mm} {G : bs_G} (hV : cFv f G mu) {a : Int32} (h : a < 0 ∨ nI (g_nu G) ≤ a) : FX1_hasBubble x f mu a = some 0 := by
  unfold FX1_hasBubble
  rw [hV.2.1]
  by_cases c : a < 0
  · rw [if_pos c]; rfl
  · rw [if_neg c, if_pos (h.resolve_left c)]; rfl
theorem sf_hasBY {x f p : Nat} {mu : bs_Mm} {G : bs_G} (hV : cFv f G mu) (hG : g_ok G) (h : p < g_nu G) : FX1_hasBubble x f mu (nI p) = some 1 := by
  have q0 := g_bn hG
  unfold FX1_hasBubble
  simp (disch := omega) only [fg_gd_t, fg_bd_s, fg_b2_s, fg_wr_s, fg_let_s, fn_add, fn_sub, fn_mul, fn_cl, fn_lt, fn_le, fn_eq, fn_eq0, fn_lt0, fn_0le, fn_0lt, fn_le0, fn_in, fn_shl, fn_shr, fa_and, fa_or, bs_xorI, if_true, if_false, hV.2.1, if_neg (show ¬ g_nu G ≤ p by omega)]
  rfl
/-- what pop answers of a bubble -/
def k_pop (G : bs_G) (b : Nat) (w : Int32) : Int32 := if w = nI 0 then nI (g_lc G (2 ^ b)) else if w = nI 1 then nI (g_lb1 G b) else if w = nI 2 then nI (g_pa G (g_cm G (g_lc G (2 ^ b))) (g_lc G (2 ^ b))) else -1
theorem sf_popN {x fc : Nat} {mu : bs_Mm} (hc : bs_iv (mu x 13) = nI fc) {a : Int32} (ha : a < 0 ∨ nI fc ≤ a) (b w : Int32) : FX11_pop x mu a b w = some (-1, mu) := by
  unfold FX11_pop
  rw [sf_figN hc ha]
  rfl
theorem sf_popB {x fc j : Nat} {FG : Nat → bs_G} {mu : bs_Mm} (hF : cFG x fc FG mu) (hj : j < fc) {b : Int32} (hb : b < 0 ∨ nI (g_nu (FG j)) ≤ b) (w : Int32) : FX11_pop x mu (nI j) b w = some (-1, mu) := by
  have hf := hF.1
  have hV := (hF.2.2 j hj).2
  unfold FX11_pop
  rw [sf_figY hF.2.1 hf hj, fg_bd_s, fg_oq_s, fg_isF_y (by omega), fg_gd_t, sf_hasBN hV hb]
  rfl
theorem sf_popY {x fc j b : Nat} {FG : Nat → bs_G} {mu : bs_Mm} (hF : cFG x fc FG mu) (hj : j < fc) (hb : b < g_nu (FG j)) (w : Int32) : ∃ mu', FX11_pop x mu (nI j) (nI b) w = some (k_pop (FG j) b w, mu') ∧ ∀ a, a ≠ x + 28 → a ≠ x + 29 → mu' a = mu a := by
  have hf := hF.1
  have hV := (hF.2.2 j hj).2
  have hG := (hF.2.2 j hj).1
  have q0 := g_bn hG
  have q1 : 2 ^ g_nu (FG j) ≤ 2 ^ 24 := Nat.pow_le_pow_right (by decide) q0.2.1
  have h2 : 2 ^ b < 2 ^ g_nu (FG j) := Nat.pow_lt_pow_right (by decide) hb
  have hl := g_lc_lt h2
  obtain ⟨mu1, m1, m2⟩ := sf_lost (show x + 63 ≤ x + 63 + 7 * j by omega) hV hG h2
  have hV1 : cFv (x + 63 + 7 * j) (FG j) mu1 := cFv_of hV (fun k _ => m2 _ (by omega))
  obtain ⟨mu2, p1, p2, -⟩ := sf_parts (show x + 63 ≤ x + 63 + 7 * j by omega) hV1 hG (g_cm_co hl)
  unfold FX11_pop k_pop
  rw [sf_figY hF.2.1 hf hj, fg_bd_s, fg_oq_s, fg_isF_y (by omega), fg_gd_t, sf_hasBY hV hG hb, fg_bd_s, if_neg (by decide), fn_shl (by omega), m1, fg_b2_s]
  by_cases w0 : w = nI 0
  · rw [if_pos w0, if_pos w0]
    exact ⟨mu1, rfl, fun a h _ => m2 a h⟩
  · rw [if_neg w0, if_neg w0]
    by_cases w1 : w = nI 1
    · rw [if_pos w1, if_pos w1, pc_bits mu1 (by omega)]
      exact ⟨mu1, rfl, fun a h _ => m2 a h⟩
    · rw [if_neg w1, if_neg w1]
      by_cases w2 : w = nI 2
      · rw [if_pos w2, if_pos w2, p1]
        exact ⟨mu2, rfl, fun a h h3 => by rw [p2 a h h3, m2 a h]⟩
      · rw [if_neg w2, if_neg w2]
        exact ⟨mu1, rfl, fun a h _ => m2 a h⟩
theorem tf_popN {m fc : Nat} {mu : bs_Mm} (hc : bs_iv (mu m 20) = nI fc) (h : fc ≤ 12) {a : Int32} (ha : a < 0 ∨ nI fc ≤ a) (b w : Int32) : FX12_pop m mu a b w = some (-1) := by
  unfold FX12_pop
  rw [tf_bubN hc h ha]
  rfl
theorem tf_popB {m fc g : Nat} {FG : Nat → bs_G} {mu : bs_Mm} (hF : mFG m fc FG mu) (hg : g < fc) {b : Int32} (hb : b < 0 ∨ nI (g_nu (FG g)) ≤ b) (w : Int32) : FX12_pop m mu (nI g) b w = some (-1) := by
  unfold FX12_pop
  rw [tf_bubB hF hg hb]
  rfl
theorem tf_inR {m : Nat} {mu : bs_Mm} {n : Nat} (hn : n + 1 < 2 ^ 30) (w : Int32) : (FX12_in m mu w (nI 0) (nI n) = some 0 ∧ ∀ k, k ≤ n → ¬ w = nI k) ∨ ∃ k, k ≤ n ∧ w = nI k ∧ FX12_in m mu w (nI 0) (nI n) = some 1 := by
  rcases fn_any (n := n + 1) w (by omega) with h | ⟨k, hk, rfl⟩
  · refine Or.inl ⟨?_, fun k hk z => ?_⟩
    · have := tf_inN (m := m) (mu := mu) hn h
      rwa [fn_sub (by omega), Nat.add_sub_cancel] at this
    · subst z
      rcases h with h | h
      · rw [fn_lt0 (by omega)] at h; exact h
      · rw [fn_le (by omega) (by omega)] at h; omega
  · exact Or.inr ⟨k, by omega, rfl, tf_inY (by omega) (by omega) (by omega)⟩
theorem tf_popY {m fc g b : Nat} {FG : Nat → bs_G} {mu : bs_Mm} (hF : mFG m fc FG mu) (hg : g < fc) (hc : g_ch (FG g)) (hb : b < g_nu (FG g)) (w : Int32) : FX12_pop m mu (nI g) (nI b) w = some (k_pop (FG g) b w) := by
  have hf := hF.1
  have hV := (hF.2.2 g hg).2
  have hG := (hF.2.2 g hg).1
  have q0 := g_bn hG
  have q1 : 2 ^ g_nu (FG g) ≤ 2 ^ 24 := Nat.pow_le_pow_right (by decide) q0.2.1
  have h2 : 2 ^ b < 2 ^ g_nu (FG g) := Nat.pow_lt_pow_right (by decide) hb
  obtain ⟨V, v1, v2⟩ := tf_left hV (show g < 13 by omega) hG hc h2 (g_wy_0 q0.2.1 hb)
  have hl := g_lc_lt h2
  have ve := g_co_eq v2
  unfold FX12_pop k_pop
  rw [tf_bubY hF hg hb, fg_bd_s, if_neg (by decide)]
  rcases tf_inR (m := m) (mu := mu) (n := 2) (by decide) w with ⟨h, hn⟩ | ⟨k, hk, rfl, h⟩
  · rw [h, fg_bd_s, if_pos rfl, if_neg (hn 0 (by decide)), if_neg (hn 1 (by decide)), if_neg (hn 2 (by decide))]
  · rw [h, fg_bd_s, if_neg (by decide), tf_all hV (by omega) hG]
    simp (disch := omega) only [fg_gd_t, fg_bd_s, fg_b2_s, fg_wr_s, fg_let_s, fn_add, fn_sub, fn_mul, fn_cl, fn_lt, fn_le, fn_eq, fn_eq0, fn_lt0, fn_0le, fn_0lt, fn_le0, fn_in, fn_shl, fn_shr, fa_and, fa_or, bs_xorI, if_true, if_false, fn_not, v1, g_co_and q0.2.1 v2]
    have hp := tf_parts hV (show g < 13 by omega) hG v2
    have e : k = 0 ∨ k = 1 ∨ k = 2 := by omega
    rcases e with rfl | rfl | rfl
    · rfl
    · rw [if_neg (by decide), if_pos rfl, if_neg (by decide), if_pos rfl, pc_bits mu (by omega)]
      rfl
    · rw [if_neg (by decide), if_neg (by decide), if_neg (by decide), if_neg (by decide), if_pos rfl, hp, ve]
      rfl
theorem sf_weakN {x fc : Nat} {mu : bs_Mm} (hc : bs_iv (mu x 13) = nI fc) {a : Int32} (ha : a < 0 ∨ nI fc ≤ a) : FX11_weakest x mu a = some (-1, mu) := by
  unfold FX11_weakest
  rw [sf_figN hc ha]
  rfl
theorem sf_weakY {x fc j : Nat} {FG : Nat → bs_G} {mu : bs_Mm} (hF : cFG x fc FG mu) (hj : j < fc) : ∃ mu', FX11_weakest x mu (nI j) = some (k_wk (FG j) (g_nu (FG j)), mu') ∧ ∀ a, a ≠ x + 28 → mu' a = mu a := by
  have hf := hF.1
  obtain ⟨mu1, m1, m2⟩ := sf_weak (show x + 63 ≤ x + 63 + 7 * j by omega) (hF.2.2 j hj).2 (hF.2.2 j hj).1
  refine ⟨mu1, ?_, m2⟩
  unfold FX11_weakest
  rw [sf_figY hF.2.1 hf hj, fg_bd_s, fg_oq_s, fg_isF_y (by omega), fg_gd_t, m1]
  rfl
theorem tf_weakN {m fc : Nat} {mu : bs_Mm} (hc : bs_iv (mu m 20) = nI fc) (h : fc ≤ 12) {a : Int32} (ha : a < 0 ∨ nI fc ≤ a) : FX12_weakest m mu a = some (-1) := by
  unfold FX12_weakest
  rw [tf_figN hc h ha]
  rfl
