/-! MADE: one balloon's way, as the model asks it -/
def g_wt (G : bs_G) (S : Nat) : Nat → Nat := g_sm (fun i => if g_bt S i = 1 then g_le G i else 0)
theorem g_wt_le {G : bs_G} (hG : g_ok G) (S : Nat) : ∀ n, n ≤ g_nu G → g_wt G S n ≤ 720 * n := by
  intro n
  induction n with
  | zero => intro _; exact Nat.le_refl 0
  | succ n ih =>
    intro h
    have a := ih (by omega)
    have b := (g_bd hG (show n < g_nu G by omega)).2.2.2.1
    show g_wt G S n + (if g_bt S n = 1 then g_le G n else 0) ≤ _
    split <;> omega
theorem pc_le (S : Nat) : pc_n S 32 ≤ 32 := g_sm1 (fun i => by show _ / _ % 2 ≤ 1; omega) 32
theorem pc_pos {S k : Nat} (hk : S.testBit k = true) (h : k < 32) : 1 ≤ pc_n S 32 := by
  refine Nat.le_trans ?_ (g_sm_one (h := fun i => S / 2 ^ i % 2) h)
  rw [Nat.testBit_eq_decide_div_mod_eq] at hk
  have := of_decide_eq_true hk
  show 1 ≤ S / 2 ^ k % 2
  omega
def g_ow (ln jn : Nat) (G : bs_G) (S : Nat) : Prop := g_wt G S (g_nu G) + jn * (pc_n S 32 - 1) ≤ ln ∧ g_cn G S ∧ g_on G S (g_np G) ≤ 2
theorem tf_ow {m g k S ln jn : Nat} {mu : bs_Mm} {G : bs_G} (hV : mFv m g G mu) (hg : g < 13) (hG : g_ok G) (hk : k < 6) (hA : bs_iv (mu (m + 1) k) = nI ln) (hJ : bs_iv (mu (m + 2) k) = nI jn) (ln1 : ln ≤ 200) (jn1 : jn ≤ 9) (hS : S < 2 ^ g_nu G) (h0 : S ≠ 0) : ∃ r, FX12_isOneWay m mu (nI g) (nI k) (nI S) = some (nI r) ∧ ((r = 1 ∧ g_ow ln jn G S) ∨ (r = 0 ∧ ¬ g_ow ln jn G S)) := by
  have q0 := g_bn hG
  have q1 : 2 ^ g_nu G ≤ 2 ^ 24 := Nat.pow_le_pow_right (by decide) q0.2.1
  obtain ⟨k0, kb⟩ := g_nz h0
  have p1 := pc_pos kb (by have := g_tb_lt hS kb; omega)
  have p2 := pc_le S
  have w := g_wt_le hG S
  have jm : jn * (pc_n S 32 - 1) ≤ 9 * 31 := Nat.mul_le_mul jn1 (by omega)
  unfold FX12_isOneWay
  rw [fn_in hk (by decide), fg_gd_t, pc_bits mu (show S < 2 ^ 32 by omega), fg_bd_s, fn_cl (show k < 2 ^ 31 by omega), hJ, fn_sub p1, fn_mul]
  rw [fg_lp_n (fun i => (nI (jn * (pc_n S 32 - 1) + g_wt G S i), nI i)) (nI (jn * (pc_n S 32 - 1) + g_wt G S (g_nu G))) (g_nu G) (by rfl) (fun i hi => ?_) ?_ (fg_fu_lt (by omega))]
  · have wn := w _ (Nat.le_refl _)
    rw [fg_bd_s, fg_gd_t, hA]
    by_cases c : ln < jn * (pc_n S 32 - 1) + g_wt G S (g_nu G)
    · rw [if_pos ((nI_ltI (by omega) (by omega)).mpr c)]
      exact ⟨0, rfl, Or.inr ⟨rfl, fun h => by have := h.1; omega⟩⟩
    · rw [if_neg (fun h => c ((nI_ltI (by omega) (by omega)).mp h))]
      obtain ⟨k, Q, k1, k2, c1, c2, c3, c4, c5⟩ := tf_first hV hg hG hS h0 (body := FX12_firstPart_b8 m mu (nI g) (nI S)) (fun s => rfl)
      unfold FX12_firstPart
      rw [c1, fg_bd_s, fg_bd_s]
      have e := g_cn_first hS k1 c3 c4 c5
      by_cases d : Q = S
      · rw [if_pos (congrArg nI d), tf_odd hV hg hG (show S < 2 ^ 30 by omega), fg_bd_s]
        have o : g_on G S (g_np G) ≤ g_np G := g_sm1 (fun p => by show _ % 2 ≤ 1; omega) _
        by_cases f : 2 < g_on G S (g_np G)
        · rw [if_pos ((nI_ltI (by omega) (by omega)).mpr f)]
          exact ⟨0, rfl, Or.inr ⟨rfl, fun h => by have := h.2.2; omega⟩⟩
        · rw [if_neg (fun h => f ((nI_ltI (by omega) (by omega)).mp h))]
          exact ⟨1, rfl, Or.inl ⟨rfl, by omega, e.mp d, by omega⟩⟩
      · rw [if_neg (fun h => d ((nI_eq (by omega) (by omega)).mp h))]
        exact ⟨0, rfl, Or.inr ⟨rfl, fun h => d (e.mpr h.2.1)⟩⟩
  · unfold FX12_isOneWay_b18
    simp (disch := omega) only [fg_gd_t, fg_bd_s, fg_b2_s, fg_wr_s, fg_let_s, fn_add, fn_sub, fn_mul, fn_cl, fn_lt, fn_le, fn_eq, fn_eq0, fn_lt0, fn_0le, fn_0lt, fn_le0, fn_in, fn_shl, fn_shr, fa_and, fa_or, bs_xorI, if_true, if_false, hV.2.1, Nat.le_refl]
  · unfold FX12_isOneWay_b18
    have b1 := g_bd hG hi
    have b2 : g_bt S i < 2 := by have := g_bt_c S i; omega
    have e : S / 2 ^ i &&& 1 = g_bt S i := rfl
    have b3 : S / 2 ^ i ≤ S := Nat.div_le_self _ _
    have wi := w i (by omega)
    have ws : g_wt G S (i + 1) = g_wt G S i + (if g_bt S i = 1 then g_le G i else 0) := rfl
    rw [ws]
    simp (disch := omega) only [fg_gd_t, fg_bd_s, fg_b2_s, fg_wr_s, fg_let_s, fn_add, fn_sub, fn_mul, fn_cl, fn_lt, fn_le, fn_eq, fn_eq0, fn_lt0, fn_0le, fn_0lt, fn_le0, fn_in, fn_shl, fn_shr, fa_and, fa_or, bs_xorI, if_true, if_false, hV.2.1, if_neg (show ¬ g_nu G ≤ i by omega), e]
    by_cases c : g_bt S i = 1
    · rw [if_pos c, if_pos c]
      simp (disch := omega) only [fg_gd_t, fg_bd_s, fg_b2_s, fg_wr_s, fg_let_s, fn_add, fn_sub, fn_mul, fn_cl, fn_lt, fn_le, fn_eq, fn_eq0, fn_lt0, fn_0le, fn_0lt, fn_le0, fn_in, fn_shl, fn_shr, fa_and, fa_or, bs_xorI, if_true, if_false, hV.2.2.2.2.2.1 i hi]
      rw [Nat.add_assoc]
    · rw [if_neg c, if_neg c]
      rfl
