theorem sf_j158 {x f S ln jn d : Nat} {G : bs_G} {mu : bs_Mm} (hG : g_ok G) (hS : S < 1024) (ln1 : ln ≤ 200) (jn1 : jn ≤ 9) (hd : (d = 1 ∧ g_cn G S) ∨ (d = 0 ∧ ¬ g_cn G S)) : ∃ e, FX3_tellChoices_j158_L25 x f (cT3 x S mu (g_len G jn S) (g_tm G S (g_nu G)) (g_om G S (g_nu G))) (nI ln) (nI jn) (nI S) (nI S) (nI d) = some (.inl (nI (S + 1), cT5 x S mu (g_len G jn S) (g_tm G S (g_nu G)) (g_om G S (g_nu G)) d e)) ∧ ((e = 1 ∧ g_ow ln jn G S) ∨ (e = 0 ∧ ¬ g_ow ln jn G S)) := by
  have lb := g_len_b hG (S := S) jn1
  have ob := g_om_lt hG S (g_nu G) (Nat.le_refl _)
  have dd : nI d = 0 ∨ nI d = 1 := by
    rcases hd with h | h
    · rw [h.1]; exact Or.inr rfl
    · rw [h.1]; exact Or.inl rfl
  have o := pc_om hG S
  have o2 := pc_le (g_om G S (g_nu G))
  have i := fn_in hS (n := 1024) (by decide)
  have c := fn_cl (a := S) (by omega)
  have r41 : bs_iv (bs_up (cT3 x S mu (g_len G jn S) (g_tm G S (g_nu G)) (g_om G S (g_nu G))) (x + 41) S (.int (nI d)) (x + 41) S) = nI d := by rw [bs_up_eq, bs_iv_i]
  have r37 : bs_iv (bs_up (cT3 x S mu (g_len G jn S) (g_tm G S (g_nu G)) (g_om G S (g_nu G))) (x + 41) S (.int (nI d)) (x + 37) S) = nI (g_len G jn S) := by rw [bs_up_f (by omega), cT3_37]
  have r39 : bs_iv (bs_up (cT3 x S mu (g_len G jn S) (g_tm G S (g_nu G)) (g_om G S (g_nu G))) (x + 41) S (.int (nI d)) (x + 39) S) = nI (g_om G S (g_nu G)) := by rw [bs_up_f (by omega), cT3_39]
  unfold FX3_tellChoices_j158_L25
  simp only [i, fg_gd_t, fg_dt dd, fg_wr_s, c, r41, r37, r39, fn_add]
  rcases hd with ⟨d1, d2⟩ | ⟨d1, d2⟩
  · have nz : ¬ nI d = 0 := by rw [d1]; decide
    rw [if_neg nz]
    by_cases l : ln < g_len G jn S
    · rw [if_pos ((nI_ltI (by omega) (by omega)).mpr l)]
      refine ⟨0, rfl, Or.inr ⟨rfl, fun h => ?_⟩⟩
      have : g_len G jn S ≤ ln := h.1
      omega
    · rw [if_neg (fun h => l ((nI_ltI (by omega) (by omega)).mp h)), pc_bits _ (by omega), fg_bd_s]
      by_cases p : 2 < pc_n (g_om G S (g_nu G)) 32
      · rw [if_pos ((nI_ltI (by omega) (by omega)).mpr p)]
        refine ⟨0, rfl, Or.inr ⟨rfl, fun h => ?_⟩⟩
        have := h.2.2
        omega
      · rw [if_neg (fun h => p ((nI_ltI (by omega) (by omega)).mp h))]
        refine ⟨1, rfl, Or.inl ⟨rfl, ?_, d2, by omega⟩⟩
        show g_len G jn S ≤ ln
        omega
  · have z : nI d = 0 := by rw [d1]; rfl
    rw [if_pos z]
    exact ⟨0, rfl, Or.inr ⟨rfl, fun h => d2 h.2.1⟩⟩
theorem sf_tellB {x f S ln jn : Nat} {G : bs_G} {mu : bs_Mm} (hx : x + 63 ≤ f) (hV : cFv f G mu) (hG : g_ok G) (hnu : g_nu G ≤ 10) (ln1 : ln ≤ 200) (jn1 : jn ≤ 9) (h0 : S ≠ 0) (hS : S < 2 ^ g_nu G) (hT : cTB x S ln jn G mu) : ∃ d e, FX3_tellChoices_b25 x f (nI ln) (nI jn) (nI S, mu) = some (.inl (nI (S + 1), cT5 x S mu (g_len G jn S) (g_tm G S (g_nu G)) (g_om G S (g_nu G)) d e)) ∧ cTB x (S + 1) ln jn G (cT5 x S mu (g_len G jn S) (g_tm G S (g_nu G)) (g_om G S (g_nu G)) d e) := by
  have q0 := g_bn hG
  have q1 : 2 ^ g_nu G ≤ 2 ^ 10 := Nat.pow_le_pow_right (by decide) hnu
  obtain ⟨b, b1, b2, -⟩ := g_low (R := S) h0 (by omega)
  have bn := g_tb_lt hS b1
  have bd := g_bd hG bn
  have lo := g_lo b S b1 b2
  have sb : g_sub (2 ^ b) S := fun j hj => by
    rw [Nat.testBit_two_pow] at hj
    rw [← of_decide_eq_true hj]
    exact b1
  have ol : S ^^^ 2 ^ b < S := g_dif_lt sb (b := b) Nat.testBit_two_pow_self
  have hO : nI S &&& (nI S - nI 1) = nI (S ^^^ 2 ^ b) := by rw [fn_sub (by omega), fa_and, lo]
  obtain ⟨t1, t2, t3, t4, t5, t6⟩ := id hT
  have i1 := fn_in (show S < 1024 by omega) (by decide)
  have i2 := fn_in (show S ^^^ 2 ^ b < 1024 by omega) (by decide)
  have i3 := fn_in (show b < 24 by omega) (by decide)
  have c1 := fn_cl (a := S) (by omega)
  have c2 := fn_cl (a := S ^^^ 2 ^ b) (by omega)
  have c3 := fn_cl (a := b) (by omega)
  have v1 : (bs_iv (mu (x + 37) (S ^^^ 2 ^ b)) + bs_iv (mu (f + 2) b)) + nI jn = nI (g_len G jn S) := by
    rw [hV.2.2.2.2.2.1 b bn]
    exact g_len_st hG b1 bn hS (fun z => by rw [z]; exact t1) (fun z => t2 _ ol z)
  have v2 : (bs_iv (mu (x + 38) (S ^^^ 2 ^ b)) ||| (nI 1 <<< (bs_iv (mu (f + 3) b) &&& 31))) ||| (nI 1 <<< (bs_iv (mu (f + 4) b) &&& 31)) = nI (g_tm G S (g_nu G)) := by
    rw [t3 _ ol, hV.2.2.2.2.2.2.1 b bn, hV.2.2.2.2.2.2.2.1 b bn, fn_shl (by omega), fn_shl (by omega), fa_or, fa_or, g_tm_rm b1 bn]
  have v3 : bs_iv (mu (x + 39) (S ^^^ 2 ^ b)) ^^^ nI (g_eb G b) = nI (g_om G S (g_nu G)) := by
    have := g_om_rm (G := G) b1 (g_nu G)
    rw [if_pos bn] at this
    rw [t4 _ ol, bs_xorI, this]
  have hV2 : cFv f G (bs_up (bs_up mu (x + 37) S (.int (nI (g_len G jn S)))) (x + 38) S (.int (nI (g_tm G S (g_nu G))))) := cFv_of hV (fun k _ => by rw [bs_up_f (by omega), bs_up_f (by omega)])
  have hV3 : cFv f G (cT3 x S mu (g_len G jn S) (g_tm G S (g_nu G)) (g_om G S (g_nu G))) := cFv_of hV (fun k _ => cT3_f (by omega) (by omega) (by omega))
  have hM : bs_up (bs_up (bs_up mu (x + 37) S (.int (nI (g_len G jn S)))) (x + 38) S (.int (nI (g_tm G S (g_nu G))))) (x + 39) S (.int (nI (g_om G S (g_nu G)))) = cT3 x S mu (g_len G jn S) (g_tm G S (g_nu G)) (g_om G S (g_nu G)) := rfl
  have key : ∀ d, ((d = 1 ∧ g_cn G S) ∨ (d = 0 ∧ ¬ g_cn G S)) → FX3_tellChoices_b25 x f (nI ln) (nI jn) (nI S, mu) = FX3_tellChoices_j158_L25 x f (cT3 x S mu (g_len G jn S) (g_tm G S (g_nu G)) (g_om G S (g_nu G))) (nI ln) (nI jn) (nI S) (nI S) (nI d) → ∃ d e, FX3_tellChoices_b25 x f (nI ln) (nI jn) (nI S, mu) = some (.inl (nI (S + 1), cT5 x S mu (g_len G jn S) (g_tm G S (g_nu G)) (g_om G S (g_nu G)) d e)) ∧ cTB x (S + 1) ln jn G (cT5 x S mu (g_len G jn S) (g_tm G S (g_nu G)) (g_om G S (g_nu G)) d e) := by
    intro d hd e
    obtain ⟨w, w1, w2⟩ := sf_j158 (x := x) (f := f) (mu := mu) hG (show S < 1024 by omega) ln1 jn1 hd
    exact ⟨d, w, by rw [e, w1], cTB_step hT h0 hd w2⟩
  have nlt : ¬ nI (2 ^ g_nu G - 1) < nI S := fun h => by have := (nI_ltI (by omega) (by omega)).mp h; omega
  have head : FX3_tellChoices_b25 x f (nI ln) (nI jn) (nI S, mu) = (if nI (S ^^^ 2 ^ b) = 0 then FX3_tellChoices_j153_L25 x f (cT3 x S mu (g_len G jn S) (g_tm G S (g_nu G)) (g_om G S (g_nu G))) (nI ln) (nI jn) (nI S) (nI S) else fg_bd (FX3_hangsTogether x (cT3 x S mu (g_len G jn S) (g_tm G S (g_nu G)) (g_om G S (g_nu G))) (bs_iv (cT3 x S mu (g_len G jn S) (g_tm G S (g_nu G)) (g_om G S (g_nu G)) f 7)) (nI S)) (fun v42 => if v42 = 0 then FX3_tellChoices_j158_L25 x f (cT3 x S mu (g_len G jn S) (g_tm G S (g_nu G)) (g_om G S (g_nu G))) (nI ln) (nI jn) (nI S) (nI S) (nI 0) else FX3_tellChoices_j153_L25 x f (cT3 x S mu (g_len G jn S) (g_tm G S (g_nu G)) (g_om G S (g_nu G))) (nI ln) (nI jn) (nI S) (nI S))) := by
    unfold FX3_tellChoices_b25
    simp only []
    rw [sf_allB hV hG, fg_bd_s, if_neg nlt, sf_tz mu (show S < 65536 by omega) b1 b2, fg_bd_s, hO, i1, i2, i3]
    simp only [fg_gd_t, fg_wr_s, c1, c2, c3]
    rw [v1, bs_up_f (show x + 38 ≠ x + 37 by omega), bs_up_f (show f + 3 ≠ x + 37 by omega), bs_up_f (show f + 4 ≠ x + 37 by omega), v2, sf_eb hV2 hG bn, fg_bd_s, bs_up_f (show x + 39 ≠ x + 38 by omega), bs_up_f (show x + 39 ≠ x + 37 by omega), v3, hM]
  by_cases z : S ^^^ 2 ^ b = 0
  · refine key 1 (Or.inl ⟨rfl, ?_⟩) ?_
    · have : S = 2 ^ b := by
        have := g_xx S (2 ^ b)
        rw [z, Nat.zero_xor] at this
        exact this.symm
      rw [this]
      exact g_cn_1 G b
    · rw [head, if_pos (by rw [z]; rfl)]
      rfl
  · have ne : S ≠ 2 ^ b := fun e => z (by rw [← e, Nat.xor_self])
    obtain ⟨r, r1, r2⟩ := sf_hang (x := x) (mu := cT3 x S mu (g_len G jn S) (g_tm G S (g_nu G)) (g_om G S (g_nu G))) hG rfl hS (by omega) b1 ne (fun R hR hz => by
      rw [cT3_n (by omega)]
      exact t5 R hR hz) (fun R hR => by
      by_cases e : R = S
      · rw [e, cT3_38]
      · rw [cT3_n e]
        exact t3 R (by omega))
    have nz : ¬ nI (S ^^^ 2 ^ b) = 0 := by rw [fn_eq0 (by omega)]; exact z
    rcases r2 with ⟨e, r2⟩ | ⟨e, r2⟩
    · subst e
      refine key 1 (Or.inl ⟨rfl, r2⟩) ?_
      rw [head, if_neg nz, hV3.2.1, r1, fg_bd_s, if_neg (by decide)]
      rfl
    · subst e
      refine key 0 (Or.inr ⟨rfl, r2⟩) ?_
      rw [head, if_neg nz, hV3.2.1, r1, fg_bd_s, if_pos (by decide)]
