/-! POP, WEAKEST (own): what of them doesn't ask for parts -/
theorem g_co_and {G : bs_G} (hG : g_nu G ≤ 24) {W L : Nat} (h : g_co G W L) : (2 ^ g_nu G - 1) &&& (W ^^^ 4294967295) = L := by
  apply Nat.eq_of_testBit_eq
  intro i
  rw [Nat.testBit_and, Nat.testBit_two_pow_sub_one, Nat.testBit_xor]
  by_cases hi : i < g_nu G
  · have e1 : (4294967295 : Nat).testBit i = true := by
      have := Nat.testBit_two_pow_sub_one 32 i
      rw [show (2 : Nat) ^ 32 - 1 = 4294967295 from rfl] at this
      rw [this]
      simp
      omega
    rw [e1, h.2.2 i hi]
    cases L.testBit i <;> simp [hi]
  · cases c : L.testBit i with
    | false => simp [hi]
    | true => exact absurd (g_tb_lt h.2.1 c) hi
theorem g_wy_0 {G : bs_G} (hG : g_nu G ≤ 24) {b : Nat} (hb : b < g_nu G) : g_wy G (2 ^ b) ((2 ^ g_nu G - 1) &&& (2 ^ b ^^^ 4294967295)) := by
  have q : (2 ^ g_nu G - 1) < 2 ^ g_nu G := by have := Nat.one_le_two_pow (n := g_nu G); omega
  have tb : ∀ i, i < g_nu G → ((2 ^ g_nu G - 1) &&& (2 ^ b ^^^ 4294967295)).testBit i = !(2 ^ b).testBit i := by
    intro i hi
    have e1 : (4294967295 : Nat).testBit i = true := by
      have := Nat.testBit_two_pow_sub_one 32 i
      rw [show (2 : Nat) ^ 32 - 1 = 4294967295 from rfl] at this
      rw [this]
      simp
      omega
    rw [Nat.testBit_and, Nat.testBit_two_pow_sub_one, Nat.testBit_xor, e1]
    cases (2 ^ b).testBit i <;> simp [hi]
  refine ⟨Nat.lt_of_le_of_lt Nat.and_le_left q, fun i hi hf => by rw [tb i hi, hf]; rfl, fun C _ hs i hi hw => hs i ?_⟩
  rw [tb i hi] at hw
  cases c : (2 ^ b).testBit i with
  | true => rfl
  | false => rw [c] at hw; cases hw
/-- how many are lost with a bubble -/
def g_lb1 (G : bs_G) (b : Nat) : Nat := pc_n (g_lc G (2 ^ b)) 32
theorem tf_bubN {m fc : Nat} {mu : bs_Mm} (hc : bs_iv (mu m 20) = nI fc) (h : fc ≤ 12) {a : Int32} (ha : a < 0 ∨ nI fc ≤ a) (b : Int32) : FX12_isBubble m mu a b = some 0 := by
  unfold FX12_isBubble
  rw [tf_figN hc h ha]
  rfl
theorem tf_bubB {m fc g : Nat} {FG : Nat → bs_G} {mu : bs_Mm} (hF : mFG m fc FG mu) (hg : g < fc) {b : Int32} (hb : b < 0 ∨ nI (g_nu (FG g)) ≤ b) : FX12_isBubble m mu (nI g) b = some 0 := by
  have hf := hF.1
  have hV := (hF.2.2 g hg).2
  have q0 := g_bn (hF.2.2 g hg).1
  unfold FX12_isBubble
  rw [tf_figY hF.2.1 hf hg]
  simp (disch := omega) only [fg_gd_t, fg_bd_s, fg_b2_s, fg_wr_s, fg_let_s, fn_add, fn_sub, fn_mul, fn_cl, fn_lt, fn_le, fn_eq, fn_eq0, fn_lt0, fn_0le, fn_0lt, fn_le0, fn_in, fn_shl, fn_shr, fa_and, fa_or, bs_xorI, if_true, if_false, hV.2.1]
  rw [if_neg (by decide), tf_inN (by omega) hb]
  rfl
theorem tf_bubY {m fc g p : Nat} {FG : Nat → bs_G} {mu : bs_Mm} (hF : mFG m fc FG mu) (hg : g < fc) (hp : p < g_nu (FG g)) : FX12_isBubble m mu (nI g) (nI p) = some 1 := by
  have hf := hF.1
  have hV := (hF.2.2 g hg).2
  have q0 := g_bn (hF.2.2 g hg).1
  unfold FX12_isBubble
  rw [tf_figY hF.2.1 hf hg]
  simp (disch := omega) only [fg_gd_t, fg_bd_s, fg_b2_s, fg_wr_s, fg_let_s, fn_add, fn_sub, fn_mul, fn_cl, fn_lt, fn_le, fn_eq, fn_eq0, fn_lt0, fn_0le, fn_0lt, fn_le0, fn_in, fn_shl, fn_shr, fa_and, fa_or, bs_xorI, if_true, if_false, hV.2.1]
  rw [if_neg (by decide), tf_inY (by omega) (by omega) (by omega)]
  rfl
theorem tf_pop1 {m fc g b : Nat} {FG : Nat → bs_G} {mu : bs_Mm} (hF : mFG m fc FG mu) (hg : g < fc) (hc : g_ch (FG g)) (hb : b < g_nu (FG g)) : FX12_pop m mu (nI g) (nI b) (nI 1) = some (nI (g_lb1 (FG g) b)) := by
  have hf := hF.1
  have hV := (hF.2.2 g hg).2
  have hG := (hF.2.2 g hg).1
  have q0 := g_bn hG
  have q1 : 2 ^ g_nu (FG g) ≤ 2 ^ 24 := Nat.pow_le_pow_right (by decide) q0.2.1
  have h2 : 2 ^ b < 2 ^ g_nu (FG g) := Nat.pow_lt_pow_right (by decide) hb
  obtain ⟨V, v1, v2⟩ := tf_left hV (show g < 13 by omega) hG hc h2 (g_wy_0 q0.2.1 hb)
  have hl := g_lc_lt h2
  unfold FX12_pop g_lb1
  rw [tf_bubY hF hg hb, fg_bd_s, if_neg (by decide), show nI 2 = nI 3 - nI 1 from rfl, tf_inZ (by decide) (by decide), fg_bd_s, if_neg (by decide), tf_all hV (by omega) hG]
  simp (disch := omega) only [fg_gd_t, fg_bd_s, fg_b2_s, fg_wr_s, fg_let_s, fn_add, fn_sub, fn_mul, fn_cl, fn_lt, fn_le, fn_eq, fn_eq0, fn_lt0, fn_0le, fn_0lt, fn_le0, fn_in, fn_shl, fn_shr, fa_and, fa_or, bs_xorI, if_true, if_false, fn_not, v1, g_co_and q0.2.1 v2]
  rw [if_neg (by decide), pc_bits mu (by omega)]
  rfl
theorem g_lb1_pos {G : bs_G} (hG : g_nu G ≤ 24) {b : Nat} (hb : b < g_nu G) : 0 < g_lb1 G b ∧ g_lb1 G b ≤ 32 := by
  have h := g_lc_sub G (2 ^ b) b Nat.testBit_two_pow_self
  have e : g_b (g_lc G (2 ^ b)) b = 1 := by rw [g_b_t, h]; rfl
  have k : g_b (g_lc G (2 ^ b)) b ≤ pc_n (g_lc G (2 ^ b)) 32 := g_sm_one (h := fun i => g_lc G (2 ^ b) / 2 ^ i % 2) (by omega)
  refine ⟨by unfold g_lb1; omega, g_sm1 (fun i => by show _ / _ % 2 ≤ 1; omega) 32⟩
/-- the weakest of the first n bubbles, and how many are lost with it -/
def g_wk (G : bs_G) : Nat → Nat × Nat
  | 0 => (0, 0)
  | n + 1 => if (g_wk G n).2 < g_lb1 G n then (n, g_lb1 G n) else g_wk G n
theorem g_wk_p {G : bs_G} (hG : g_nu G ≤ 24) : ∀ n, n ≤ g_nu G → 0 < n → (g_wk G n).1 < n ∧ (g_wk G n).2 = g_lb1 G (g_wk G n).1 := by
  intro n
  induction n with
  | zero => intro _ h; omega
  | succ n ih =>
    intro hn _
    rw [g_wk]
    by_cases c : (g_wk G n).2 < g_lb1 G n
    · rw [if_pos c]; exact ⟨by show n < n + 1; omega, rfl⟩
    · rw [if_neg c]
      by_cases z : n = 0
      · subst z
        have := (g_lb1_pos hG (b := 0) (by omega)).1
        exact absurd this c
      · have := ih (by omega) (by omega)
        exact ⟨by omega, this.2⟩
theorem g_wk_le {G : bs_G} : ∀ n, (g_wk G n).2 ≤ 32 := by
  intro n
  induction n with
  | zero => exact Nat.zero_le _
  | succ n ih =>
    rw [g_wk]
    split
    · exact g_sm1 (fun i => by show _ / _ % 2 ≤ 1; omega) 32
    · exact ih
/-- what weakest answers -/
def k_wk (G : bs_G) (n : Nat) : Int32 := if n = 0 then -1 else nI (g_wk G n).1
theorem sf_weak {x f : Nat} {mu : bs_Mm} {G : bs_G} (hx : x + 63 ≤ f) (hV : cFv f G mu) (hG : g_ok G) : ∃ mu', FX5_weakestOf x mu f = some (k_wk G (g_nu G), mu') ∧ ∀ a, a ≠ x + 28 → mu' a = mu a := by
  have q0 := g_bn hG
  unfold FX5_weakestOf
  refine Exists.elim (fg_lp_i (body := FX5_weakestOf_b7 x f) (fun r s => ∃ i, s.1 = k_wk G i ∧ s.2.1 = nI (g_wk G i).2 ∧ s.2.2.1 = nI i ∧ i + r = g_nu G ∧ ∀ a, a ≠ x + 28 → s.2.2.2 a = mu a) (fun t => t.1 = k_wk G (g_nu G) ∧ ∀ a, a ≠ x + 28 → t.2 a = mu a) (fun r s hI => ?_) fg_fu (g_nu G) (-1, nI 0, nI 0, mu) ⟨0, rfl, rfl, rfl, by omega, fun _ _ => rfl⟩ (fg_fu_lt (by omega))) (fun t ht => ?_)
  · obtain ⟨wv, mv, iv, mu1⟩ := s
    obtain ⟨i, e1, e2, e3, hr, hfr⟩ := hI
    have e1 : wv = _ := e1
    have e2 : mv = _ := e2
    have e3 : iv = nI i := e3
    subst e1
    subst e2
    subst e3
    have hfr : ∀ a, a ≠ x + 28 → mu1 a = mu a := hfr
    have hV1 : cFv f G mu1 := cFv_of hV (fun k _ => hfr _ (by omega))
    by_cases c : g_nu G ≤ i
    · have e : i = g_nu G := by omega
      refine Or.inr ⟨(k_wk G i, mu1), ?_, by rw [e], hfr⟩
      unfold FX5_weakestOf_b7
      simp (disch := omega) only [fg_gd_t, fg_bd_s, fg_b2_s, fg_wr_s, fg_let_s, fn_add, fn_sub, fn_mul, fn_cl, fn_lt, fn_le, fn_eq, fn_eq0, fn_lt0, fn_0le, fn_0lt, fn_le0, fn_in, fn_shl, fn_shr, fa_and, fa_or, bs_xorI, if_true, if_false, hV1.2.1, if_pos c]
    · refine Or.inl ?_
      have h2 : 2 ^ i < 2 ^ g_nu G := Nat.pow_lt_pow_right (by decide) (by omega)
      have q1 : 2 ^ g_nu G ≤ 2 ^ 24 := Nat.pow_le_pow_right (by decide) q0.2.1
      have hl := g_lc_lt h2
      obtain ⟨mu2, m1, m2⟩ := sf_lost hx hV1 hG h2
      have wl := g_wk_le (G := G) i
      have lp := (g_lb1_pos q0.2.1 (show i < g_nu G by omega)).2
      refine ⟨(k_wk G (i + 1), nI (g_wk G (i + 1)).2, nI (i + 1), mu2), r - 1, ?_, by omega, i + 1, rfl, rfl, rfl, by omega, fun a ha => by show mu2 a = mu a; rw [m2 a ha, hfr a ha]⟩
      unfold FX5_weakestOf_b7
      simp (disch := omega) only [fg_gd_t, fg_bd_s, fg_b2_s, fg_wr_s, fg_let_s, fn_add, fn_sub, fn_mul, fn_cl, fn_lt, fn_le, fn_eq, fn_eq0, fn_lt0, fn_0le, fn_0lt, fn_le0, fn_in, fn_shl, fn_shr, fa_and, fa_or, bs_xorI, if_true, if_false, hV1.2.1, if_neg c, m1]
      rw [pc_bits mu2 (show g_lc G (2 ^ i) < 2 ^ 32 by omega), fg_bd_s, show pc_n (g_lc G (2 ^ i)) 32 = g_lb1 G i from rfl]
      simp (disch := omega) only [fg_gd_t, fg_bd_s, fg_b2_s, fg_wr_s, fg_let_s, fn_add, fn_sub, fn_mul, fn_cl, fn_lt, fn_le, fn_eq, fn_eq0, fn_lt0, fn_0le, fn_0lt, fn_le0, fn_in, fn_shl, fn_shr, fa_and, fa_or, bs_xorI, if_true, if_false]
      unfold k_wk
      rw [g_wk, if_neg (show ¬ i + 1 = 0 by omega)]
      by_cases d : g_lb1 G i ≤ (g_wk G i).2
      · rw [if_pos d, if_neg (Nat.not_lt.mpr d)]
        have z : ¬ i = 0 := by
          intro z
          subst z
          have := (g_lb1_pos q0.2.1 (b := 0) (by omega)).1
          have : g_lb1 G 0 ≤ 0 := d
          omega
        rw [if_neg z]
      · rw [if_neg d, if_pos (Nat.not_le.mp d)]
  · obtain ⟨h1, h2, h3⟩ := ht
    obtain ⟨t1, t2⟩ := t
    have h2 : t1 = _ := h2
    subst h2
    refine ⟨t2, ?_, h3⟩
    rw [h1]
    rfl
theorem tf_weak {m fc g : Nat} {FG : Nat → bs_G} {mu : bs_Mm} (hF : mFG m fc FG mu) (hg : g < fc) (hc : g_ch (FG g)) : FX12_weakest m mu (nI g) = some (k_wk (FG g) (g_nu (FG g))) := by
  have hf := hF.1
  have hV := (hF.2.2 g hg).2
  have hG := (hF.2.2 g hg).1
  have q0 := g_bn hG
  unfold FX12_weakest
  rw [tf_figY hF.2.1 hf hg, fg_bd_s, if_neg (by decide)]
  rw [fg_lp_n (fun i => (k_wk (FG g) i, nI i)) (k_wk (FG g) (g_nu (FG g))) (g_nu (FG g)) (by rfl) (fun i hi => ?_) ?_ (fg_fu_lt (by omega))]
  · rfl
  · unfold FX12_weakest_b14
    simp (disch := omega) only [fg_gd_t, fg_bd_s, fg_b2_s, fg_wr_s, fg_let_s, fn_add, fn_sub, fn_mul, fn_cl, fn_lt, fn_le, fn_eq, fn_eq0, fn_lt0, fn_0le, fn_0lt, fn_le0, fn_in, fn_shl, fn_shr, fa_and, fa_or, bs_xorI, if_true, if_false, hV.2.1, Nat.le_refl]
  · unfold FX12_weakest_b14
    have lp := (g_lb1_pos q0.2.1 hi)
    simp (disch := omega) only [fg_gd_t, fg_bd_s, fg_b2_s, fg_wr_s, fg_let_s, fn_add, fn_sub, fn_mul, fn_cl, fn_lt, fn_le, fn_eq, fn_eq0, fn_lt0, fn_0le, fn_0lt, fn_le0, fn_in, fn_shl, fn_shr, fa_and, fa_or, bs_xorI, if_true, if_false, hV.2.1, if_neg (show ¬ g_nu (FG g) ≤ i by omega), tf_pop1 hF hg hc hi]
    by_cases z : i = 0
    · subst z
      unfold k_wk
      rw [if_pos rfl, if_pos rfl, if_neg (by decide), g_wk, if_pos (show (g_wk (FG g) 0).2 < _ from lp.1)]
    · have w := g_wk_p q0.2.1 i (by omega) (by omega)
      have lw := (g_lb1_pos q0.2.1 (show (g_wk (FG g) i).1 < g_nu (FG g) by omega)).2
      have ne : ¬ nI (g_wk (FG g) i).1 = -1 := by
        intro z
        have z2 := congrArg (fun v : Int32 => decide (v < 0)) z
        simp only [fn_lt0 (show (g_wk (FG g) i).1 < 2 ^ 31 by omega)] at z2
        exact absurd z2 (by decide)
      unfold k_wk
      rw [if_neg z, if_neg ne, if_neg (show ¬ i + 1 = 0 by omega)]
      simp (disch := omega) only [fg_gd_t, fg_bd_s, fg_b2_s, fg_wr_s, fg_let_s, fn_add, fn_sub, fn_mul, fn_cl, fn_lt, fn_le, fn_eq, fn_eq0, fn_lt0, fn_0le, fn_0lt, fn_le0, fn_in, fn_shl, fn_shr, fa_and, fa_or, bs_xorI, if_true, if_false, tf_pop1 hF hg hc (show (g_wk (FG g) i).1 < g_nu (FG g) by omega)]
      rw [g_wk, ← w.2]
      rw [← w.2] at lw
      by_cases d : g_lb1 (FG g) i ≤ (g_wk (FG g) i).2
      · rw [if_pos d, if_neg (Nat.not_lt.mpr d)]
      · rw [if_neg d, if_pos (Nat.not_le.mp d)]
