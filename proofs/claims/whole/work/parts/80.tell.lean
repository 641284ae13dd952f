/-! MADE: the class's table of choices -/
theorem sf_allB {x f : Nat} {mu : bs_Mm} {G : bs_G} (hV : cFv f G mu) (hG : g_ok G) : FX1_allBubbles x f mu = some (nI (2 ^ g_nu G - 1)) := by
  have q0 := g_bn hG
  have q1 := Nat.one_le_two_pow (n := g_nu G)
  unfold FX1_allBubbles
  simp (disch := omega) only [fg_gd_t, fg_bd_s, fg_b2_s, fg_wr_s, fg_let_s, fn_add, fn_sub, fn_mul, fn_cl, fn_lt, fn_le, fn_eq, fn_eq0, fn_lt0, fn_0le, fn_0lt, fn_le0, fn_in, fn_shl, fn_shr, fa_and, fa_or, bs_xorI, if_true, if_false, hV.2.1]
def g_len (G : bs_G) (jn S : Nat) : Nat := g_wt G S (g_nu G) + jn * (pc_n S 32 - 1)
/-- the class's tables, up to n -/
def cTB (x n ln jn : Nat) (G : bs_G) (mu : bs_Mm) : Prop := bs_iv (mu (x + 37) 0) = -(nI jn) ∧ (∀ R, R < n → R ≠ 0 → bs_iv (mu (x + 37) R) = nI (g_len G jn R)) ∧ (∀ R, R < n → bs_iv (mu (x + 38) R) = nI (g_tm G R (g_nu G))) ∧ (∀ R, R < n → bs_iv (mu (x + 39) R) = nI (g_om G R (g_nu G))) ∧ (∀ R, R < n → R ≠ 0 → (bs_iv (mu (x + 41) R) = nI 1 ∧ g_cn G R) ∨ (bs_iv (mu (x + 41) R) = nI 0 ∧ ¬ g_cn G R)) ∧ ∀ R, R < n → R ≠ 0 → (bs_iv (mu (x + 42) R) = nI 1 ∧ g_ow ln jn G R) ∨ (bs_iv (mu (x + 42) R) = nI 0 ∧ ¬ g_ow ln jn G R)
/-- memory after one more choice -/
def cT3 (x S : Nat) (mu : bs_Mm) (a b c : Nat) : bs_Mm := bs_up (bs_up (bs_up mu (x + 37) S (.int (nI a))) (x + 38) S (.int (nI b))) (x + 39) S (.int (nI c))
def cT5 (x S : Nat) (mu : bs_Mm) (a b c d e : Nat) : bs_Mm := bs_up (bs_up (cT3 x S mu a b c) (x + 41) S (.int (nI d))) (x + 42) S (.int (nI e))
theorem cT3_f {x S a b c k : Nat} {mu : bs_Mm} (h1 : k ≠ x + 37) (h2 : k ≠ x + 38) (h3 : k ≠ x + 39) : cT3 x S mu a b c k = mu k := by
  unfold cT3
  rw [bs_up_f h3, bs_up_f h2, bs_up_f h1]
theorem cT5_f {x S a b c d e k : Nat} {mu : bs_Mm} (h1 : k ≠ x + 37) (h2 : k ≠ x + 38) (h3 : k ≠ x + 39) (h4 : k ≠ x + 41) (h5 : k ≠ x + 42) : cT5 x S mu a b c d e k = mu k := by
  unfold cT5
  rw [bs_up_f h5, bs_up_f h4, cT3_f h1 h2 h3]
theorem cT3_n {x S a b c k R : Nat} {mu : bs_Mm} (h : R ≠ S) : cT3 x S mu a b c k R = mu k R := by
  unfold cT3
  rw [bs_up_ne _ _ (by rintro ⟨-, q⟩; exact h q), bs_up_ne _ _ (by rintro ⟨-, q⟩; exact h q), bs_up_ne _ _ (by rintro ⟨-, q⟩; exact h q)]
theorem cT5_n {x S a b c d e k R : Nat} {mu : bs_Mm} (h : R ≠ S) : cT5 x S mu a b c d e k R = mu k R := by
  unfold cT5
  rw [bs_up_ne _ _ (by rintro ⟨-, q⟩; exact h q), bs_up_ne _ _ (by rintro ⟨-, q⟩; exact h q), cT3_n h]
theorem cT3_37 {x S a b c : Nat} {mu : bs_Mm} : bs_iv (cT3 x S mu a b c (x + 37) S) = nI a := by
  unfold cT3
  rw [bs_up_f (by omega), bs_up_f (by omega), bs_up_eq, bs_iv_i]
theorem cT3_38 {x S a b c : Nat} {mu : bs_Mm} : bs_iv (cT3 x S mu a b c (x + 38) S) = nI b := by
  unfold cT3
  rw [bs_up_f (by omega), bs_up_eq, bs_iv_i]
theorem cT3_39 {x S a b c : Nat} {mu : bs_Mm} : bs_iv (cT3 x S mu a b c (x + 39) S) = nI c := by
  unfold cT3
  rw [bs_up_eq, bs_iv_i]
theorem cTB_step {x S ln jn d e : Nat} {G : bs_G} {mu : bs_Mm} (h : cTB x S ln jn G mu) (h0 : S ≠ 0) (hd : (d = 1 ∧ g_cn G S) ∨ (d = 0 ∧ ¬ g_cn G S)) (he : (e = 1 ∧ g_ow ln jn G S) ∨ (e = 0 ∧ ¬ g_ow ln jn G S)) : cTB x (S + 1) ln jn G (cT5 x S mu (g_len G jn S) (g_tm G S (g_nu G)) (g_om G S (g_nu G)) d e) := by
  obtain ⟨h1, h2, h3, h4, h5, h6⟩ := h
  refine ⟨by rw [cT5_n (fun z => h0 z.symm)]; exact h1, fun R hR hz => ?_, fun R hR => ?_, fun R hR => ?_, fun R hR hz => ?_, fun R hR hz => ?_⟩
  · by_cases q : R = S
    · subst q
      unfold cT5
      rw [bs_up_f (by omega), bs_up_f (by omega), cT3_37]
    · rw [cT5_n q]
      exact h2 R (by omega) hz
  · by_cases q : R = S
    · subst q
      unfold cT5
      rw [bs_up_f (by omega), bs_up_f (by omega), cT3_38]
    · rw [cT5_n q]
      exact h3 R (by omega)
  · by_cases q : R = S
    · subst q
      unfold cT5
      rw [bs_up_f (by omega), bs_up_f (by omega), cT3_39]
    · rw [cT5_n q]
      exact h4 R (by omega)
  · by_cases q : R = S
    · subst q
      have : bs_iv (cT5 x R mu (g_len G jn R) (g_tm G R (g_nu G)) (g_om G R (g_nu G)) d e (x + 41) R) = nI d := by
        unfold cT5
        rw [bs_up_f (by omega), bs_up_eq, bs_iv_i]
      rw [this]
      rcases hd with ⟨a, b⟩ | ⟨a, b⟩
      · exact Or.inl ⟨by rw [a], b⟩
      · exact Or.inr ⟨by rw [a], b⟩
    · rw [cT5_n q]
      exact h5 R (by omega) hz
  · by_cases q : R = S
    · subst q
      have : bs_iv (cT5 x R mu (g_len G jn R) (g_tm G R (g_nu G)) (g_om G R (g_nu G)) d e (x + 42) R) = nI e := by
        unfold cT5
        rw [bs_up_eq, bs_iv_i]
      rw [this]
      rcases he with ⟨a, b⟩ | ⟨a, b⟩
      · exact Or.inl ⟨by rw [a], b⟩
      · exact Or.inr ⟨by rw [a], b⟩
    · rw [cT5_n q]
      exact h6 R (by omega) hz
theorem g_len_b {G : bs_G} (hG : g_ok G) {jn S : Nat} (hj : jn ≤ 9) : g_len G jn S ≤ 720 * 24 + 9 * 31 := by
  have q := g_bn hG
  have a := g_wt_le hG S (g_nu G) (Nat.le_refl _)
  have b := pc_le S
  have : jn * (pc_n S 32 - 1) ≤ 9 * 31 := Nat.mul_le_mul hj (by omega)
  unfold g_len
  omega
/-- the length of a choice out of the length of the others -/
theorem g_len_st {G : bs_G} (hG : g_ok G) {jn S b : Nat} (hb : S.testBit b = true) (hbn : b < g_nu G) (hS : S < 2 ^ g_nu G) {v : Int32} (h0 : S ^^^ 2 ^ b = 0 → v = -(nI jn)) (h1 : S ^^^ 2 ^ b ≠ 0 → v = nI (g_len G jn (S ^^^ 2 ^ b))) : (v + nI (g_le G b)) + nI jn = nI (g_len G jn S) := by
  have q := g_bn hG
  have w := g_wt_rm (G := G) hb hbn
  have p := pc_rm hb (show b < 32 by omega)
  unfold g_len at h1 ⊢
  by_cases z : S ^^^ 2 ^ b = 0
  · rw [h0 z, w, p, z]
    have w0 : ∀ n, g_wt G 0 n = 0 := by
      intro n
      induction n with
      | zero => rfl
      | succ n ih =>
        show g_wt G 0 n + (if g_bt 0 n = 1 then g_le G n else 0) = 0
        rw [ih, if_neg (by rw [g_bt_tb, Nat.zero_testBit]; decide)]
    have p0 : pc_n 0 32 = 0 := by decide
    rw [w0, p0, Nat.zero_add, Nat.zero_add, Nat.sub_self, Nat.mul_zero, Nat.add_zero, Int32.add_comm, ← Int32.add_assoc, Int32.add_right_neg, Int32.zero_add]
  · obtain ⟨k, hk⟩ := g_nz z
    have kS := g_tb_lt hS (g_rm_s hb k hk)
    have pp := pc_pos hk (by omega)
    rw [h1 z, w, p, fn_add, fn_add]
    obtain ⟨r, hr⟩ : ∃ r, pc_n (S ^^^ 2 ^ b) 32 = r + 1 := ⟨pc_n (S ^^^ 2 ^ b) 32 - 1, by omega⟩
    rw [hr, show r + 1 + 1 - 1 = r + 1 by omega, show r + 1 - 1 = r by omega, Nat.mul_succ]
    congr 1
    omega
