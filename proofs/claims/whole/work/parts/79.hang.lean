/-! MADE: the class asks whether a set hangs together -/
theorem sf_hang {x S k nu : Nat} {G : bs_G} {mu : bs_Mm} (hG : g_ok G) (hnu : nu = g_nu G) (hS : S < 2 ^ g_nu G) (hS2 : S < 1024) (hk : S.testBit k = true) (hne : S ≠ 2 ^ k) (h41 : ∀ R, R < S → R ≠ 0 → (bs_iv (mu (x + 41) R) = nI 1 ∧ g_cn G R) ∨ (bs_iv (mu (x + 41) R) = nI 0 ∧ ¬ g_cn G R)) (h38 : ∀ R, R ≤ S → bs_iv (mu (x + 38) R) = nI (g_tm G R (g_nu G))) : ∃ r, FX3_hangsTogether x mu (nI nu) (nI S) = some (nI r) ∧ ((r = 1 ∧ g_cn G S) ∨ (r = 0 ∧ ¬ g_cn G S)) := by
  subst hnu
  have q0 := g_bn hG
  have rcn := g_cn_rec hS hk hne
  unfold FX3_hangsTogether
  refine Exists.elim (fg_lp_i (body := FX3_hangsTogether_b2 x mu (nI (g_nu G)) (nI S)) (fun r s => ∃ i, s = nI i ∧ i + r = g_nu G ∧ ∀ j, j < i → ¬ (S.testBit j = true ∧ g_cn G (S ^^^ 2 ^ j) ∧ g_tch G j (S ^^^ 2 ^ j) = true)) (fun t => (t = .inl () ∧ ¬ g_cn G S) ∨ (t = .inr (nI 1) ∧ g_cn G S)) (fun r s hI => ?_) fg_fu (g_nu G) (nI 0) ⟨0, rfl, by omega, fun j hj => by omega⟩ (fg_fu_lt (by omega))) (fun t ht => ?_)
  · obtain ⟨i, e1, hr, hno⟩ := hI
    subst e1
    by_cases z : g_nu G ≤ i
    · refine Or.inr ⟨.inl (), ?_, Or.inl ⟨rfl, fun h => ?_⟩⟩
      · unfold FX3_hangsTogether_b2
        rw [if_pos ((nI_leI (by omega) (by omega)).mpr z)]
      · obtain ⟨j, j1, j2⟩ := rcn.mp h
        exact hno j (by have := g_tb_lt hS j1; omega) ⟨j1, j2⟩
    · have skip : ¬ (S.testBit i = true ∧ g_cn G (S ^^^ 2 ^ i) ∧ g_tch G i (S ^^^ 2 ^ i) = true) → FX3_hangsTogether_b2 x mu (nI (g_nu G)) (nI S) (nI i) = some (.inl (nI (i + 1))) → ∃ s' r', FX3_hangsTogether_b2 x mu (nI (g_nu G)) (nI S) (nI i) = some (.inl s') ∧ r' < r ∧ ∃ i, s' = nI i ∧ i + r' = g_nu G ∧ ∀ j, j < i → ¬ (S.testBit j = true ∧ g_cn G (S ^^^ 2 ^ j) ∧ g_tch G j (S ^^^ 2 ^ j) = true) := fun no e => ⟨nI (i + 1), r - 1, e, by omega, i + 1, rfl, by omega, fun j hj => by
        by_cases e : j = i
        · rw [e]; exact no
        · exact hno j (by omega)⟩
      have le1 : ¬ nI (g_nu G) ≤ nI i := fun h => z ((nI_leI (by omega) (by omega)).mp h)
      by_cases c : S.testBit i = true
      · have sub : g_sub (2 ^ i) S := fun j hj => by
          rw [Nat.testBit_two_pow] at hj
          rw [← of_decide_eq_true hj]
          exact c
        have lt := g_dif_lt sub (b := i) Nat.testBit_two_pow_self
        have pl : 2 ^ i ≤ S := Nat.le_of_testBit sub
        have nz : S ^^^ 2 ^ i ≠ 0 := by
          intro e
          have a := g_rm_y c hk
          by_cases ik : i = k
          · refine hne (g_sub_eq (fun j hj => ?_) (fun j hj => by rw [← ik] at hj; exact sub j hj))
            by_cases ij : i = j
            · rw [← ij, ← ik]; exact Nat.testBit_two_pow_self
            · have := g_rm_y c hj ij
              rw [e, Nat.zero_testBit] at this
              cases this
          · have := a ik
            rw [e, Nat.zero_testBit] at this
            cases this
        have b1 : ¬ nI (S &&& 2 ^ i) = (0 : Int32) := by rw [fn_bit0 (by omega), c]; decide
        have s1 : nI 1 <<< (nI i &&& 31) = nI (2 ^ i) := fn_shl (by omega)
        have t1 := g_tm_lt hG (S ^^^ 2 ^ i)
        have t2 : g_tm G (S ^^^ 2 ^ i) (g_nu G) &&& g_tm G (2 ^ i) (g_nu G) ≤ g_tm G (S ^^^ 2 ^ i) (g_nu G) := Nat.and_le_left
        have tt := g_tm_tch (G := G) (R := S ^^^ 2 ^ i) (i := i) (by omega)
        rcases h41 _ lt nz with ⟨w1, w2⟩ | ⟨w1, w2⟩
        · by_cases d : g_tm G (S ^^^ 2 ^ i) (g_nu G) &&& g_tm G (2 ^ i) (g_nu G) = 0
          · refine Or.inl (skip (fun h => (tt.mpr h.2.2) d) ?_)
            unfold FX3_hangsTogether_b2
            rw [if_neg le1, s1, fa_and, if_neg b1, bs_xorI, fn_in (show S ^^^ 2 ^ i < 1024 by omega) (by decide), fg_gd_t, fn_cl (show S ^^^ 2 ^ i < 2 ^ 31 by omega), w1, if_neg (by decide), fg_gd_t, fn_in (show 2 ^ i < 1024 by omega) (by decide), fg_gd_t, fn_cl (show 2 ^ i < 2 ^ 31 by omega), h38 _ (by omega), h38 _ pl, fa_and, if_pos (by rw [d]; rfl), fn_add]
          · refine Or.inr ⟨.inr (nI 1), ?_, Or.inr ⟨rfl, rcn.mpr ⟨i, c, w2, tt.mp d⟩⟩⟩
            unfold FX3_hangsTogether_b2
            rw [if_neg le1, s1, fa_and, if_neg b1, bs_xorI, fn_in (show S ^^^ 2 ^ i < 1024 by omega) (by decide), fg_gd_t, fn_cl (show S ^^^ 2 ^ i < 2 ^ 31 by omega), w1, if_neg (by decide), fg_gd_t, fn_in (show 2 ^ i < 1024 by omega) (by decide), fg_gd_t, fn_cl (show 2 ^ i < 2 ^ 31 by omega), h38 _ (by omega), h38 _ pl, fa_and, if_neg (by rw [fn_eq0 (by omega)]; exact d)]
        · refine Or.inl (skip (fun h => w2 h.2.1) ?_)
          unfold FX3_hangsTogether_b2
          rw [if_neg le1, s1, fa_and, if_neg b1, bs_xorI, fn_in (show S ^^^ 2 ^ i < 1024 by omega) (by decide), fg_gd_t, fn_cl (show S ^^^ 2 ^ i < 2 ^ 31 by omega), w1, if_pos (by decide), fn_add]
      · refine Or.inl (skip (fun h => c h.1) ?_)
        have c' : S.testBit i = false := by
          cases d : S.testBit i with
          | true => exact absurd d c
          | false => rfl
        have b1 : nI (S &&& 2 ^ i) = (0 : Int32) := by rw [fn_bit0 (by omega)]; exact c'
        unfold FX3_hangsTogether_b2
        rw [if_neg le1, fn_shl (show i < 31 by omega), fa_and, if_pos b1, fn_add]
  · obtain ⟨t1, t2⟩ := ht
    rw [t1]
    rcases t2 with ⟨rfl, h⟩ | ⟨rfl, h⟩
    · exact ⟨0, rfl, Or.inr ⟨rfl, h⟩⟩
    · exact ⟨1, rfl, Or.inl ⟨rfl, h⟩⟩
