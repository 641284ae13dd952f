/-! QUESTIONS on a figure of the model (own), as functions -/
theorem tf_isTw {m g i : Nat} {mu : bs_Mm} {G : bs_G} (hV : mFv m g G mu) (hg : g < 13) (hG : g_ok G) (hi : i < 2 ^ 29) : FX12_isTwist m mu (nI g) (nI i) = some (nI (g_tw G i)) := by
  have q0 := g_bn hG
  unfold FX12_isTwist
  simp (disch := omega) only [fg_gd_t, fg_bd_s, fg_b2_s, fg_wr_s, fg_let_s, fn_add, fn_sub, fn_mul, fn_cl, fn_lt, fn_le, fn_eq, fn_eq0, fn_lt0, fn_0le, fn_0lt, fn_le0, fn_in, fn_shl, fn_shr, fa_and, fa_or, bs_xorI, if_true, if_false, hV.2.1]
  by_cases c : g_nu G ≤ i + 1
  · rw [if_pos c, g_tw, g_if0 (by omega)]
  · have b1 := g_bd hG (i := i) (by omega)
    have b2 := g_bd hG (i := i + 1) (by omega)
    have r1 := hV.2.2.2.2.2.2.2.2 i (by omega)
    have r2 := hV.2.2.2.2.2.2.2.2 (i + 1) (by omega)
    rw [← Nat.add_assoc] at r2
    simp (disch := omega) only [fg_gd_t, fg_bd_s, fg_b2_s, fg_wr_s, fg_let_s, fn_add, fn_sub, fn_mul, fn_cl, fn_lt, fn_le, fn_eq, fn_eq0, fn_lt0, fn_0le, fn_0lt, fn_le0, fn_in, fn_shl, fn_shr, fa_and, fa_or, bs_xorI, if_true, if_false, if_neg c, r1, r2]
    by_cases c2 : g_bo G i = g_bo G (i + 1)
    · rw [if_pos c2, g_tw, g_if1 (by omega)]
    · rw [if_neg c2, g_tw, g_if0 (by omega)]
theorem tf_all {m g : Nat} {mu : bs_Mm} {G : bs_G} (hV : mFv m g G mu) (hg : g < 13) (hG : g_ok G) : FX12_all m mu (nI g) = some (nI (2 ^ g_nu G - 1)) := by
  have q0 := g_bn hG
  have q1 := Nat.one_le_two_pow (n := g_nu G)
  unfold FX12_all
  simp (disch := omega) only [fg_gd_t, fg_bd_s, fg_b2_s, fg_wr_s, fg_let_s, fn_add, fn_sub, fn_mul, fn_cl, fn_lt, fn_le, fn_eq, fn_eq0, fn_lt0, fn_0le, fn_0lt, fn_le0, fn_in, fn_shl, fn_shr, fa_and, fa_or, bs_xorI, if_true, if_false, hV.2.1]
theorem g_bt_c (S i : Nat) : g_bt S i = 0 ∨ g_bt S i = 1 := by
  unfold g_bt
  rw [Nat.and_one_is_mod]
  omega
theorem tf_endsIn {m g p S : Nat} {mu : bs_Mm} {G : bs_G} (hV : mFv m g G mu) (hg : g < 13) (hG : g_ok G) (hp : p < 2 ^ 30) (hs : S < 2 ^ 30) : FX12_endsIn m mu (nI g) (nI p) (nI S) = some (nI (g_es G p S (g_nu G))) := by
  have q0 := g_bn hG
  unfold FX12_endsIn
  rw [fg_lp_n (fun i => (nI (g_es G p S i), nI i)) (nI (g_es G p S (g_nu G))) (g_nu G) (by rfl) (fun i hi => ?_) ?_ (fg_fu_lt (by omega))]
  · rfl
  · unfold FX12_endsIn_b6
    simp (disch := omega) only [fg_gd_t, fg_bd_s, fg_b2_s, fg_wr_s, fg_let_s, fn_add, fn_sub, fn_mul, fn_cl, fn_lt, fn_le, fn_eq, fn_eq0, fn_lt0, fn_0le, fn_0lt, fn_le0, fn_in, fn_shl, fn_shr, fa_and, fa_or, bs_xorI, if_true, if_false, hV.2.1, Nat.le_refl]
  · unfold FX12_endsIn_b6
    have b1 := g_bd hG hi
    have b2 : g_bt S i < 2 := by have := g_bt_c S i; omega
    have e : S / 2 ^ i &&& 1 = g_bt S i := rfl
    have b3 : S / 2 ^ i ≤ S := Nat.div_le_self _ _
    simp (disch := omega) only [fg_gd_t, fg_bd_s, fg_b2_s, fg_wr_s, fg_let_s, fn_add, fn_sub, fn_mul, fn_cl, fn_lt, fn_le, fn_eq, fn_eq0, fn_lt0, fn_0le, fn_0lt, fn_le0, fn_in, fn_shl, fn_shr, fa_and, fa_or, bs_xorI, if_true, if_false, hV.2.1, if_neg (show ¬ g_nu G ≤ i by omega), e]
    by_cases c : g_bt S i = 1
    · simp (disch := omega) only [fg_gd_t, fg_bd_s, fg_b2_s, fg_wr_s, fg_let_s, fn_add, fn_sub, fn_mul, fn_cl, fn_lt, fn_le, fn_eq, fn_eq0, fn_lt0, fn_0le, fn_0lt, fn_le0, fn_in, fn_shl, fn_shr, fa_and, fa_or, bs_xorI, if_true, if_false, if_pos c, hV.2.2.2.2.2.2.1 i hi, FX12_endsIn_j50_L6, hV.2.2.2.2.2.2.2.1 i hi]
      rw [g_es_1 c]
      by_cases c1 : g_fr G i = p <;> by_cases c2 : g_to G i = p
      · rw [if_pos c1, if_pos c2, g_if1 c1, g_if1 c2]
      · rw [if_pos c1, if_neg c2, g_if1 c1, g_if0 c2]
      · rw [if_neg c1, if_pos c2, g_if0 c1, g_if1 c2]
      · rw [if_neg c1, if_neg c2, g_if0 c1, g_if0 c2]
    · rw [if_neg c, g_es_0 c]
theorem tf_endsA {m g p : Nat} {mu : bs_Mm} {G : bs_G} (hV : mFv m g G mu) (hg : g < 13) (hG : g_ok G) (hp : p < 2 ^ 30) : FX12_endsIn m mu (nI g) (nI p) (nI (2 ^ g_nu G - 1)) = some (nI (g_en G p)) := by
  have := g_all_lt hG
  rw [tf_endsIn hV hg hG hp (by omega), g_es_all]
theorem tf_isSl {m g i : Nat} {mu : bs_Mm} {G : bs_G} (hV : mFv m g G mu) (hg : g < 13) (hG : g_ok G) (hi : i < g_nu G) : FX12_isSlack m mu (nI g) (nI i) = some (nI (g_if (g_en G (g_to G i) < 3))) := by
  have q0 := g_bn hG
  have b1 := g_bd hG hi
  have b2 := g_be hG (g_to G i)
  unfold FX12_isSlack
  simp (disch := omega) only [fg_gd_t, fg_bd_s, fg_b2_s, fg_wr_s, fg_let_s, fn_add, fn_sub, fn_mul, fn_cl, fn_lt, fn_le, fn_eq, fn_eq0, fn_lt0, fn_0le, fn_0lt, fn_le0, fn_in, fn_shl, fn_shr, fa_and, fa_or, bs_xorI, if_true, if_false, hV.2.2.2.2.2.2.2.1 i hi, tf_all hV hg hG, tf_endsA hV hg hG (show g_to G i < 2 ^ 30 by omega)]
  by_cases c : 3 ≤ g_en G (g_to G i)
  · rw [if_pos c, g_if0 (by omega)]
  · rw [if_neg c, g_if1 (by omega)]
/-- how many points below n have an odd number of ends in a set -/
def g_on (G : bs_G) (S : Nat) : Nat → Nat := g_sm (fun p => g_es G p S (g_nu G) % 2)
theorem tf_odd {m g S : Nat} {mu : bs_Mm} {G : bs_G} (hV : mFv m g G mu) (hg : g < 13) (hG : g_ok G) (hs : S < 2 ^ 30) : FX12_odd m mu (nI g) (nI S) = some (nI (g_on G S (g_np G))) := by
  have q0 := g_bn hG
  unfold FX12_odd
  rw [fg_lp_n (fun i => (nI (g_on G S i), nI i)) (nI (g_on G S (g_np G))) (g_np G) (by rfl) (fun i hi => ?_) ?_ (fg_fu_lt (by omega))]
  · rfl
  · unfold FX12_odd_b5
    simp (disch := omega) only [fg_gd_t, fg_bd_s, fg_b2_s, fg_wr_s, fg_let_s, fn_add, fn_sub, fn_mul, fn_cl, fn_lt, fn_le, fn_eq, fn_eq0, fn_lt0, fn_0le, fn_0lt, fn_le0, fn_in, fn_shl, fn_shr, fa_and, fa_or, bs_xorI, if_true, if_false, hV.2.2.1, Nat.le_refl]

  · unfold FX12_odd_b5
    have b1 := g_es_le G i S (g_nu G)
    simp (disch := omega) only [fg_gd_t, fg_bd_s, fg_b2_s, fg_wr_s, fg_let_s, fn_add, fn_sub, fn_mul, fn_cl, fn_lt, fn_le, fn_eq, fn_eq0, fn_lt0, fn_0le, fn_0lt, fn_le0, fn_in, fn_shl, fn_shr, fa_and, fa_or, bs_xorI, if_true, if_false, hV.2.2.1, if_neg (show ¬ g_np G ≤ i by omega), tf_endsIn hV hg hG (show i < 2 ^ 30 by omega) hs, fn_rem]
    rfl