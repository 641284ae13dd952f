/-! QUESTIONS on a figure (own), as functions; both sides -/
theorem sf_twB {x f i : Nat} {mu : bs_Mm} {G : bs_G} (hV : cFv f G mu) (hG : g_ok G) (hi : i < 2 ^ 30) : FX1_twistBehind x f mu (nI i) = some (nI (g_tw G i)) := by
  have q0 := g_bn hG
  unfold FX1_twistBehind
  simp (disch := omega) only [fg_gd_t, fg_bd_s, fg_b2_s, fg_wr_s, fg_let_s, fn_add, fn_sub, fn_mul, fn_cl, fn_lt, fn_le, fn_eq, fn_eq0, fn_lt0, fn_0le, fn_0lt, fn_le0, fn_in, fn_shl, fn_shr, fa_and, fa_or, bs_xorI, if_true, if_false, hV.2.1]
  by_cases c : g_nu G ≤ i + 1
  · rw [if_pos c, g_tw, g_if0 (by omega)]
  · have b1 := g_bd hG (i := i) (by omega)
    have b2 := g_bd hG (i := i + 1) (by omega)
    simp (disch := omega) only [fg_gd_t, fg_bd_s, fg_b2_s, fg_wr_s, fg_let_s, fn_add, fn_sub, fn_mul, fn_cl, fn_lt, fn_le, fn_eq, fn_eq0, fn_lt0, fn_0le, fn_0lt, fn_le0, fn_in, fn_shl, fn_shr, fa_and, fa_or, bs_xorI, if_true, if_false, if_neg c, hV.2.2.2.2.2.2.2.2.1 i (by omega), hV.2.2.2.2.2.2.2.2.1 (i + 1) (by omega)]
    by_cases c2 : g_bo G i = g_bo G (i + 1)
    · rw [if_pos c2, g_tw, g_if1 (by omega)]
    · rw [if_neg c2, g_tw, g_if0 (by omega)]
theorem sf_slB {x f i : Nat} {mu : bs_Mm} {G : bs_G} (hV : cFv f G mu) (hG : g_ok G) (hi : i < 2 ^ 30) : FX1_slackBehind x f mu (nI i) = some (nI (g_sl G i)) := by
  have q0 := g_bn hG
  unfold FX1_slackBehind
  have b0 := g_tw_le G i
  simp (disch := omega) only [fg_gd_t, fg_bd_s, fg_b2_s, fg_wr_s, fg_let_s, fn_add, fn_sub, fn_mul, fn_cl, fn_lt, fn_le, fn_eq, fn_eq0, fn_lt0, fn_0le, fn_0lt, fn_le0, fn_in, fn_shl, fn_shr, fa_and, fa_or, bs_xorI, if_true, if_false, sf_twB hV hG hi]
  by_cases c : g_tw G i = 0
  · rw [if_pos c, g_sl, g_if0 (by omega)]
  · obtain ⟨c1, c2, c3⟩ := g_tw_in c
    have b1 := g_bd hG (i := i) (by omega)
    have b2 := g_be hG (g_to G i)
    simp (disch := omega) only [fg_gd_t, fg_bd_s, fg_b2_s, fg_wr_s, fg_let_s, fn_add, fn_sub, fn_mul, fn_cl, fn_lt, fn_le, fn_eq, fn_eq0, fn_lt0, fn_0le, fn_0lt, fn_le0, fn_in, fn_shl, fn_shr, fa_and, fa_or, bs_xorI, if_true, if_false, if_neg c, hV.2.2.2.2.2.2.2.1 i (by omega), hV.2.2.2.2.2.2.2.2.2 (g_to G i) (by omega)]
    by_cases c4 : 3 ≤ g_en G (g_to G i)
    · rw [if_pos c4, g_sl, g_if0 (by omega)]
    · rw [if_neg c4, g_sl, g_if1 ⟨c1, by omega⟩]
/-- the bits of a bubble's ends -/
def g_eb (G : bs_G) (i : Nat) : Nat := 2 ^ g_fr G i ^^^ 2 ^ g_to G i
theorem sf_eb {x f i : Nat} {mu : bs_Mm} {G : bs_G} (hV : cFv f G mu) (hG : g_ok G) (hi : i < g_nu G) : FX1_endBits x f mu (nI i) = some (nI (g_eb G i)) := by
  have q0 := g_bn hG
  have b1 := g_bd hG hi
  unfold FX1_endBits g_eb
  simp (disch := omega) only [fg_gd_t, fg_bd_s, fg_b2_s, fg_wr_s, fg_let_s, fn_add, fn_sub, fn_mul, fn_cl, fn_lt, fn_le, fn_eq, fn_eq0, fn_lt0, fn_0le, fn_0lt, fn_le0, fn_in, fn_shl, fn_shr, fa_and, fa_or, bs_xorI, if_true, if_false, hV.2.2.2.2.2.2.2.1 i hi, hV.2.2.2.2.2.2.1 i hi]
/-- the odd points as bits -/
def g_od (G : bs_G) : Nat → Nat
  | 0 => 0
  | n + 1 => g_od G n ^^^ g_eb G n
theorem sf_oddP {x f : Nat} {mu : bs_Mm} {G : bs_G} (hV : cFv f G mu) (hG : g_ok G) : FX1_oddPoints x f mu = some (nI (g_od G (g_nu G))) := by
  have q0 := g_bn hG
  unfold FX1_oddPoints
  rw [fg_lp_n (fun i => (nI (g_od G i), nI i)) (nI (g_od G (g_nu G))) (g_nu G) (by rfl) (fun i hi => ?_) ?_ (fg_fu_lt (by omega))]
  · rfl
  · unfold FX1_oddPoints_b4
    simp (disch := omega) only [fg_gd_t, fg_bd_s, fg_b2_s, fg_wr_s, fg_let_s, fn_add, fn_sub, fn_mul, fn_cl, fn_lt, fn_le, fn_eq, fn_eq0, fn_lt0, fn_0le, fn_0lt, fn_le0, fn_in, fn_shl, fn_shr, fa_and, fa_or, bs_xorI, if_true, if_false, hV.2.1, Nat.le_refl]
  · unfold FX1_oddPoints_b4
    simp (disch := omega) only [fg_gd_t, fg_bd_s, fg_b2_s, fg_wr_s, fg_let_s, fn_add, fn_sub, fn_mul, fn_cl, fn_lt, fn_le, fn_eq, fn_eq0, fn_lt0, fn_0le, fn_0lt, fn_le0, fn_in, fn_shl, fn_shr, fa_and, fa_or, bs_xorI, if_true, if_false, hV.2.1, if_neg (show ¬ g_nu G ≤ i by omega), sf_eb hV hG hi]
    rfl
theorem sf_twists {x f : Nat} {mu : bs_Mm} {G : bs_G} (hV : cFv f G mu) (hG : g_ok G) : FX1_twists x f mu = some (nI (g_sm (g_tw G) (g_nu G))) := by
  have q0 := g_bn hG
  unfold FX1_twists
  rw [fg_lp_n (fun i => (nI (g_sm (g_tw G) i), nI i)) (nI (g_sm (g_tw G) (g_nu G))) (g_nu G) (by rfl) (fun i hi => ?_) ?_ (fg_fu_lt (by omega))]
  · rfl
  · unfold FX1_twists_b4
    simp (disch := omega) only [fg_gd_t, fg_bd_s, fg_b2_s, fg_wr_s, fg_let_s, fn_add, fn_sub, fn_mul, fn_cl, fn_lt, fn_le, fn_eq, fn_eq0, fn_lt0, fn_0le, fn_0lt, fn_le0, fn_in, fn_shl, fn_shr, fa_and, fa_or, bs_xorI, if_true, if_false, hV.2.1, Nat.le_refl]

  · unfold FX1_twists_b4
    have b0 := g_tw_le G i
    simp (disch := omega) only [fg_gd_t, fg_bd_s, fg_b2_s, fg_wr_s, fg_let_s, fn_add, fn_sub, fn_mul, fn_cl, fn_lt, fn_le, fn_eq, fn_eq0, fn_lt0, fn_0le, fn_0lt, fn_le0, fn_in, fn_shl, fn_shr, fa_and, fa_or, bs_xorI, if_true, if_false, hV.2.1, if_neg (show ¬ g_nu G ≤ i by omega), sf_twB hV hG (show i < 2 ^ 30 by omega)]
    by_cases c : g_tw G i = 0
    · rw [if_pos c]; simp only [g_sm, c, Nat.add_zero]
    · rw [if_neg c]; simp only [g_sm, (g_tw_in c).1]