/-! ALIKE: the class's search walks its row; findRow -/
theorem al_nm {q : Nat} (h : q < 2 ^ 29) : ¬ nI q = -1 := by
  have e := al_i_n (k := q + 1) (by omega)
  rw [al_i_s] at e
  rw [e]
  omega
theorem al_rm {A k : Nat} (hA : A < 2 ^ 24) (hk : k < 24) (h : A.testBit k = false) : (A ||| 2 ^ k) &&& (2 ^ k ^^^ 4294967295) = A := by
  have t : (A ||| 2 ^ k).testBit k = true := by rw [g_tb_or, decide_eq_true rfl, Bool.or_true]
  rw [g_mi_x (Nat.or_lt_two_pow hA (Nat.pow_lt_pow_right (by decide) hk)) (tw_pw t)]
  apply Nat.eq_of_testBit_eq
  intro j
  rw [g_rm t, g_tb_or]
  by_cases e : k = j
  · subst e
    simp [h]
  · simp [e]
theorem al_i_p {k : Nat} (h : 1 ≤ k) : al_i k = nI (k - 1) := by
  unfold al_i
  rw [if_neg (by omega)]
theorem al_pred {d : Nat} : nI (d + 1) + (-1) = nI d := by
  rw [← nI_add, Int32.add_assoc]
  have : nI 1 + (-1) = 0 := by decide
  rw [this, Int32.add_zero]
set_option maxHeartbeats 2000000 in
theorem sf_search {x f h kn : Nat} {G H : bs_G} {B L : Nat → Nat} {C c1 c2 : Nat → Nat → Nat} {mu : bs_Mm} (hx : x + 63 ≤ f ∧ x + 63 ≤ h) (hG : g_ok G) (hH : g_ok H) (hn : g_np G = g_np H ∧ g_np G ≤ 8) (E : al_env x f h kn G H B L C c1 c2 mu) : ∃ b mu', FX4_searchRow x mu = some (b, mu') ∧ (∀ a, a ≠ x + 31 → mu' a = mu a) ∧ ((b = nI 1 ∧ ∃ s, al_F (al_V G H) (g_np G) s ∧ ∀ p, p < g_np G → bs_iv (mu' (x + 31) p) = nI (s p)) ∨ (b = nI 0 ∧ ∀ s, ¬ al_V G H s)) := by
  have h5 := E.1.2.2.2.2
  have mil : (1000000 : Int32) = nI 1000000 := rfl
  unfold FX4_searchRow
  rw [fn_in (by decide) (by decide), fg_gd_t, fg_wr_s, fn_cl (by decide)]
  refine Exists.elim (fg_lp_i (body := FX4_searchRow_b13 x) (fun w st => (∀ a, a ≠ x + 31 → st.2.2.2 a = mu a) ∧ ∃ t, st.2.2.1 = nI t ∧ t ≤ 178881 ∧ ((∃ d U R, st.1 = nI d ∧ st.2.1 = nI U ∧ al_S G H d U R ∧ (∀ j, j ≤ d → bs_iv (st.2.2.2 (x + 31) j) = al_i (R j)) ∧ t + al_w (g_np G) R (d + 1) ≤ 178881 ∧ al_w (g_np G) R (d + 1) < w) ∨ (st.1 = nI (g_np G) ∧ ∃ s, al_F (al_V G H) (g_np G) s ∧ ∀ p, p < g_np G → bs_iv (st.2.2.2 (x + 31) p) = nI (s p)) ∨ (st.1 = -1 ∧ ∀ s, ¬ al_V G H s))) (fun t => (∀ a, a ≠ x + 31 → t.2 a = mu a) ∧ ((t.1 = nI (g_np G) ∧ ∃ s, al_F (al_V G H) (g_np G) s ∧ ∀ p, p < g_np G → bs_iv (t.2 (x + 31) p) = nI (s p)) ∨ (t.1 = -1 ∧ ∀ s, ¬ al_V G H s))) (fun w st hI => ?_) fg_fu 178882 (nI 0, nI 0, nI 0, bs_up mu (x + 31) 0 (.int (-1))) ⟨fun a ha => bs_up_f ha, 0, rfl, by omega, ?_⟩ (fg_fu_lt (by decide))) (fun t ht => ?_)
  · obtain ⟨dv, uv, tv, mu1⟩ := st
    obtain ⟨fr, t, e3, t1, hI⟩ := hI
    have e3 : tv = nI t := e3
    subst e3
    have fr : ∀ a, a ≠ x + 31 → mu1 a = mu a := fr
    have E1 := al_env_of hx E fr
    have h51 := E1.1.2.2.2.2
    rcases hI with ⟨d, U, R, e1, e2, hS, hr, hw, hw2⟩ | ⟨e1, s, s1, s2⟩ | ⟨e1, s1⟩
    · have e1 : dv = nI d := e1
      have e2 : uv = nI U := e2
      subst e1
      subst e2
      have hr : ∀ j, j ≤ d → bs_iv (mu1 (x + 31) j) = al_i (R j) := hr
      obtain ⟨S1, S2, S3, S4, S5⟩ := id hS
      have Rd := S2 d (Nat.le_refl _)
      have ul : al_u R d < 2 ^ g_np G := al_u_lt (by omega) d (fun j hj => S2 j (by omega))
      have p24 : 2 ^ g_np G ≤ 2 ^ 24 := Nat.pow_le_pow_right (by decide) (by omega)
      have ul2 : al_u R d < 2 ^ 24 := Nat.lt_of_lt_of_le ul p24
      have rd := hr d (Nat.le_refl _)
      have step : FX4_searchRow_b13 x (nI d, nI U, nI t, mu1) = FX4_searchRow_j54_L13 x mu1 (nI d) (nI (al_u R d)) (nI t) := by
        unfold FX4_searchRow_b13
        rw [mil]
        simp (disch := omega) only [fg_gd_t, fg_bd_s, fg_b2_s, fg_wr_s, fg_let_s, fn_add, fn_sub, fn_mul, fn_cl, fn_lt, fn_le, fn_eq, fn_eq0, fn_lt0, fn_0le, fn_0lt, fn_le0, fn_in, fn_shl, fn_shr, fa_and, fa_or, bs_xorI, if_true, if_false, if_neg (show ¬ 1000000 ≤ t by omega), h51, if_neg (show ¬ g_np G ≤ d by omega), rd]
        rcases S4 with ⟨a, b⟩ | ⟨a, b, c⟩
        · rw [a, al_i_0, if_pos rfl, b]
        · have nz : ¬ al_i (R d) = -1 := by rw [al_i_n (by omega)]; omega
          rw [if_neg nz, al_i_p a, fn_shl (by omega), fn_not, fa_and, c, al_rm ul2 (by omega) b]
      have rows : ∀ j, j < d → bs_iv (mu1 (x + 31) j) = nI ((fun i => R i - 1) j) ∧ (fun i => R i - 1) j < g_np G := by
        intro j hj
        have a := (S3 j hj).1
        have b := S2 j (by omega)
        rw [hr j (by omega), al_i_p a]
        exact ⟨rfl, show R j - 1 < g_np G by omega⟩
      obtain ⟨k, k1, k2⟩ := sf_nextF (r := fun i => R i - 1) hG hH hn E1 S1 Rd ul2 rows
      have f30 : ∀ v, bs_up mu1 (x + 31) d v (x + 30) = mu1 (x + 30) := fun v => bs_up_f (by omega)
      rw [step]
      rcases k2 with ⟨kz, no⟩ | ⟨q, kq, q1, q2, q3, q4, q5⟩
      · subst kz
        have ev : FX4_searchRow_j54_L13 x mu1 (nI d) (nI (al_u R d)) (nI t) = some (.inl (nI d + (-1), nI (al_u R d), nI (t + 1), bs_up mu1 (x + 31) d (.int (-1)))) := by
          unfold FX4_searchRow_j54_L13
          simp (disch := omega) only [fg_gd_t, fg_bd_s, fg_b2_s, fg_wr_s, fg_let_s, fn_add, fn_sub, fn_mul, fn_cl, fn_lt, fn_le, fn_eq, fn_eq0, fn_lt0, fn_0le, fn_0lt, fn_le0, fn_in, fn_shl, fn_shr, fa_and, fa_or, bs_xorI, if_true, if_false, rd, al_i_1, k1, al_i_0, bs_up_eq, bs_iv_i]
        by_cases z : d = 0
        · subst z
          refine Or.inl ⟨(-1, nI (al_u R 0), nI (t + 1), bs_up mu1 (x + 31) 0 (.int (-1))), 0, ?_, by omega, fun a ha => (bs_up_f ha).trans (fr a ha), t + 1, rfl, ?_, Or.inr (Or.inr ⟨rfl, al_S_no hG hH hn.1 hS no⟩)⟩
          · rw [ev]
            rfl
          · have : al_w (g_np G) R (0 + 1) = 0 + (1 + al_c (g_np G) R 0 * (1 + al_N (g_np G - 0 - 1))) := rfl
            omega
        · obtain ⟨d', hd'⟩ : ∃ d', d = d' + 1 := ⟨d - 1, by omega⟩
          subst hd'
          have wb : al_w (g_np G) R (d' + 1) + 1 ≤ al_w (g_np G) R (d' + 1 + 1) := al_w_bk
          refine Or.inl ⟨(nI d', nI (al_u R (d' + 1)), nI (t + 1), bs_up mu1 (x + 31) (d' + 1) (.int (-1))), w - 1, ?_, by omega, fun a ha => (bs_up_f ha).trans (fr a ha), t + 1, rfl, by omega, Or.inl ⟨d', al_u R (d' + 1), R, rfl, rfl, al_S_bk hG hH hn.1 hS no, fun j hj => ?_, by omega, by omega⟩⟩
          · rw [ev, al_pred]
          · show bs_iv (bs_up mu1 (x + 31) (d' + 1) (.int (-1)) (x + 31) j) = _
            rw [bs_up_j (by omega)]
            exact hr j (by omega)
      · subst kq
        have q8 : q < 8 := by omega
        have nm := al_nm (q := q) (by omega)
        by_cases z : d + 1 = g_np G
        · have ev : FX4_searchRow_j54_L13 x mu1 (nI d) (nI (al_u R d)) (nI t) = some (.inl (nI (d + 1), nI (al_u R d ||| 2 ^ q), nI (t + 1), bs_up mu1 (x + 31) d (.int (nI q)))) := by
            unfold FX4_searchRow_j54_L13
            simp (disch := omega) only [fg_gd_t, fg_bd_s, fg_b2_s, fg_wr_s, fg_let_s, fn_add, fn_sub, fn_mul, fn_cl, fn_lt, fn_le, fn_eq, fn_eq0, fn_lt0, fn_0le, fn_0lt, fn_le0, fn_in, fn_shl, fn_shr, fa_and, fa_or, bs_xorI, if_true, if_false, rd, al_i_1, k1, al_i_s, bs_up_eq, bs_iv_i, if_neg nm, f30, h51, if_pos (show g_np G ≤ d + 1 by omega)]
          have pp : 0 < w := by omega
          refine Or.inl ⟨(nI (d + 1), nI (al_u R d ||| 2 ^ q), nI (t + 1), bs_up mu1 (x + 31) d (.int (nI q))), 0, ev, pp, fun a ha => (bs_up_f ha).trans (fr a ha), t + 1, rfl, ?_, Or.inr (Or.inl ⟨by show nI (d + 1) = _; rw [z], (fun i => bs_fn R d (q + 1) i - 1), al_S_fi hS z q1 q2 q3 q4 q5 hG hH hn.1 (fun j hj => bs_fn_n (by omega)) bs_fn_s, fun p hp => ?_⟩)⟩
          · have : al_w (g_np G) R (d + 1) = al_w (g_np G) R d + (1 + al_c (g_np G) R d * (1 + al_N (g_np G - d - 1))) := rfl
            omega
          · show bs_iv (bs_up mu1 (x + 31) d (.int (nI q)) (x + 31) p) = nI (bs_fn R d (q + 1) p - 1)
            by_cases e : p = d
            · subst e
              rw [bs_up_eq, bs_fn_s, Nat.add_sub_cancel]
              rfl
            · rw [bs_up_j e, bs_fn_n e]
              exact (rows p (by omega)).1
        · have d8 : d + 1 < 8 := by omega
          have ev : FX4_searchRow_j54_L13 x mu1 (nI d) (nI (al_u R d)) (nI t) = some (.inl (nI (d + 1), nI (al_u R d ||| 2 ^ q), nI (t + 1), bs_up (bs_up mu1 (x + 31) d (.int (nI q))) (x + 31) (d + 1) (.int (-1)))) := by
            unfold FX4_searchRow_j54_L13
            simp (disch := omega) only [fg_gd_t, fg_bd_s, fg_b2_s, fg_wr_s, fg_let_s, fn_add, fn_sub, fn_mul, fn_cl, fn_lt, fn_le, fn_eq, fn_eq0, fn_lt0, fn_0le, fn_0lt, fn_le0, fn_in, fn_shl, fn_shr, fa_and, fa_or, bs_xorI, if_true, if_false, rd, al_i_1, k1, al_i_s, bs_up_eq, bs_iv_i, if_neg nm, f30, h51, if_neg (show ¬ g_np G ≤ d + 1 by omega)]
          have r1 : ∀ j, j < d → bs_fn (bs_fn R d (q + 1)) (d + 1) 0 j = R j := fun j hj => by rw [bs_fn_n (by omega), bs_fn_n (by omega)]
          have r2 : bs_fn (bs_fn R d (q + 1)) (d + 1) 0 d = q + 1 := by rw [bs_fn_n (by omega), bs_fn_s]
          have hS2 := al_S_fw hS (by omega) q1 q2 q3 q4 q5 hG hH hn.1 r1 r2 bs_fn_s
          have wf := al_w_fw (n := g_np G) (show d + 1 < g_np G by omega) r1 r2 bs_fn_s q1 q2 q3 (fun j hj => ⟨(hS2.2.2.1 j hj).1, hS2.2.1 j (by omega), (hS2.2.2.1 j hj).2.1⟩)
          have uu : al_u (bs_fn (bs_fn R d (q + 1)) (d + 1) 0) (d + 1) = al_u R d ||| 2 ^ q := by
            show al_u (bs_fn (bs_fn R d (q + 1)) (d + 1) 0) d ||| 2 ^ (bs_fn (bs_fn R d (q + 1)) (d + 1) 0 d - 1) = _
            rw [r2, al_u_cg (R' := R) d r1, Nat.add_sub_cancel]
          refine Or.inl ⟨(nI (d + 1), nI (al_u R d ||| 2 ^ q), nI (t + 1), bs_up (bs_up mu1 (x + 31) d (.int (nI q))) (x + 31) (d + 1) (.int (-1))), w - 1, ev, by omega, fun a ha => by show bs_up (bs_up _ _ _ _) _ _ _ a = _; rw [bs_up_f ha, bs_up_f ha]; exact fr a ha, t + 1, rfl, by omega, Or.inl ⟨d + 1, al_u R d ||| 2 ^ q, bs_fn (bs_fn R d (q + 1)) (d + 1) 0, rfl, rfl, by rw [← uu]; exact hS2, fun j hj => ?_, by show t + 1 + al_w _ _ (d + 2) ≤ _; omega, by show al_w _ _ (d + 2) < _; omega⟩⟩
          show bs_iv (bs_up (bs_up mu1 (x + 31) d (.int (nI q))) (x + 31) (d + 1) (.int (-1)) (x + 31) j) = _
          by_cases e : j = d + 1
          · subst e
            rw [bs_up_eq, bs_fn_s]
            rfl
          · rw [bs_up_j e]
            by_cases e2 : j = d
            · subst e2
              rw [bs_up_eq, r2, al_i_s]
              rfl
            · rw [bs_up_j e2, r1 j (by omega)]
              exact hr j (by omega)
    · have e1 : dv = nI (g_np G) := e1
      subst e1
      refine Or.inr ⟨(nI (g_np G), mu1), ?_, fr, Or.inl ⟨rfl, s, s1, s2⟩⟩
      unfold FX4_searchRow_b13
      rw [mil]
      simp (disch := omega) only [fg_gd_t, fg_bd_s, fg_b2_s, fg_wr_s, fg_let_s, fn_add, fn_sub, fn_mul, fn_cl, fn_lt, fn_le, fn_eq, fn_eq0, fn_lt0, fn_0le, fn_0lt, fn_le0, fn_in, fn_shl, fn_shr, fa_and, fa_or, bs_xorI, if_true, if_false, if_neg (show ¬ 1000000 ≤ t by omega), h51, Nat.le_refl]
    · have e1 : dv = -1 := e1
      subst e1
      refine Or.inr ⟨(-1, mu1), ?_, fr, Or.inr ⟨rfl, s1⟩⟩
      unfold FX4_searchRow_b13
      rw [mil]
      simp (disch := omega) only [fg_gd_t, fg_bd_s, fg_b2_s, fg_wr_s, fg_let_s, fn_add, fn_sub, fn_mul, fn_cl, fn_lt, fn_le, fn_eq, fn_eq0, fn_lt0, fn_0le, fn_0lt, fn_le0, fn_in, fn_shl, fn_shr, fa_and, fa_or, bs_xorI, if_true, if_false, if_neg (show ¬ 1000000 ≤ t by omega)]
      rw [if_pos (show (-1 : Int32) < 0 by decide)]
  · by_cases z : g_np G = 0
    · refine Or.inr (Or.inl ⟨by rw [z], fun _ => 0, ⟨⟨fun p hp => by omega, fun p q hp => by omega, fun p q hp => by omega⟩, fun t _ => Or.inl fun i hi => by omega⟩, fun p hp => by omega⟩)
    · have c0 := al_c0 (n := g_np G) (i := 0) (R := fun _ => 0) rfl (fun j hj => by omega)
      have wN : al_w (g_np G) (fun _ => 0) (0 + 1) = al_N (g_np G) := by
        show 0 + (1 + al_c (g_np G) (fun _ => 0) 0 * (1 + al_N (g_np G - 0 - 1))) = _
        obtain ⟨k, hk⟩ : ∃ k, g_np G = k + 1 := ⟨g_np G - 1, by omega⟩
        rw [hk] at c0 ⊢
        rw [show al_c (k + 1) (fun _ => 0) 0 = k + 1 by omega, Nat.zero_add]
        rfl
      have n8 := al_N8 _ hn.2
      refine Or.inl ⟨0, 0, fun _ => 0, rfl, rfl, ⟨by omega, fun j _ => Nat.zero_le _, fun j hj => by omega, Or.inl ⟨rfl, rfl⟩, fun s _ => ⟨0, Nat.le_refl _, fun j hj => by omega, Nat.zero_le _⟩⟩, fun j hj => ?_, by rw [wN]; omega, by rw [wN]; omega⟩
      have e : j = 0 := by omega
      subst e
      show bs_iv (bs_up mu (x + 31) 0 (.int (-1)) (x + 31) 0) = _
      rw [bs_up_eq]
      rfl
  · obtain ⟨t1, fr, t2⟩ := ht
    obtain ⟨dv, mu1⟩ := t
    have fr : ∀ a, a ≠ x + 31 → mu1 a = mu a := fr
    have h51 : bs_iv (mu1 (x + 30) 6) = nI (g_np G) := by rw [fr _ (by omega)]; exact h5
    rw [t1, fg_bd_s]
    simp only []
    rw [h51]
    rcases t2 with ⟨e1, s, s1, s2⟩ | ⟨e1, s1⟩
    · have e1 : dv = nI (g_np G) := e1
      subst e1
      rw [if_pos rfl]
      exact ⟨nI 1, mu1, rfl, fr, Or.inl ⟨rfl, s, s1, s2⟩⟩
    · have e1 : dv = -1 := e1
      subst e1
      rw [if_neg (fun h => al_nm (q := g_np G) (by omega) h.symm)]
      exact ⟨nI 0, mu1, rfl, fr, Or.inr ⟨rfl, s1⟩⟩
