/-! The model's endFigure (own): what stays, find, hands -/
def mKp (m fc : Nat) (mu mu' : bs_Mm) : Prop := (∀ a, a ≠ m → (a < m + 6 ∨ m + 17 < a) → mu' a = mu a) ∧ (∀ a k, (a = m + 6 ∨ a = m + 8 ∨ a = m + 9 ∨ a = m + 14) → k < fc → mu' a k = mu a k) ∧ (∀ k, k < 6 * fc → mu' (m + 7) k = mu (m + 7) k) ∧ ∀ a k, m + 10 ≤ a → a ≤ m + 13 → k < 24 * fc → mu' a k = mu a k
theorem mKp_rfl (m fc : Nat) (mu : bs_Mm) : mKp m fc mu mu := ⟨fun _ _ _ => rfl, fun _ _ _ _ => rfl, fun _ _ => rfl, fun _ _ _ _ _ => rfl⟩
theorem mKp_tr {m fc : Nat} {mu mu1 mu2 : bs_Mm} (h : mKp m fc mu mu1) (k : mKp m fc mu1 mu2) : mKp m fc mu mu2 := ⟨fun a h1 h2 => (k.1 a h1 h2).trans (h.1 a h1 h2), fun a j h1 h2 => (k.2.1 a j h1 h2).trans (h.2.1 a j h1 h2), fun j h1 => (k.2.2.1 j h1).trans (h.2.2.1 j h1), fun a j h1 h2 h3 => (k.2.2.2 a j h1 h2 h3).trans (h.2.2.2 a j h1 h2 h3)⟩
theorem mKp_up {m fc a j : Nat} {mu mu1 : bs_Mm} {v : Value} (h : mKp m fc mu mu1) (ha : a = m ∨ (m + 6 ≤ a ∧ a ≤ m + 17)) (h1 : (a = m + 6 ∨ a = m + 8 ∨ a = m + 9 ∨ a = m + 14) → fc ≤ j) (h2 : a = m + 7 → 6 * fc ≤ j) (h3 : m + 10 ≤ a → a ≤ m + 13 → 24 * fc ≤ j) : mKp m fc mu (bs_up mu1 a j v) := by
  refine mKp_tr h ⟨fun b b1 b2 => bs_up_f (by omega), fun b k b1 b2 => ?_, fun k b1 => ?_, fun b k b1 b2 b3 => ?_⟩
  · by_cases e : b = a
    · subst e
      have := h1 b1
      exact bs_up_j (by omega)
    · rw [bs_up_f e]
  · by_cases e : m + 7 = a
    · subst e
      have := h2 rfl
      exact bs_up_j (by omega)
    · rw [bs_up_f e]
  · by_cases e : b = a
    · subst e
      have := h3 b1 b2
      exact bs_up_j (by omega)
    · rw [bs_up_f e]
theorem mFv_kp {m fc g : Nat} {mu mu' : bs_Mm} {G : bs_G} (h : mFv m g G mu) (hg : g < fc) (hG : g_ok G) (k : mKp m fc mu mu') : mFv m g G mu' := by
  have q0 := g_bn hG
  obtain ⟨v1, v2, v3, v4, v5, v6, v7, v8, v9⟩ := h
  refine ⟨by rw [k.2.1 _ g (by omega) hg]; exact v1, by rw [k.2.1 _ g (by omega) hg]; exact v2, by rw [k.2.1 _ g (by omega) hg]; exact v3, by rw [k.2.1 _ g (by omega) hg]; exact v4, fun j hj => ?_, fun j hj => ?_, fun j hj => ?_, fun j hj => ?_, fun j hj => ?_⟩
  · rw [k.2.2.1 _ (by omega)]
    exact v5 j hj
  · rw [k.2.2.2 _ _ (by omega) (by omega) (by omega)]
    exact v6 j hj
  · rw [k.2.2.2 _ _ (by omega) (by omega) (by omega)]
    exact v7 j hj
  · rw [k.2.2.2 _ _ (by omega) (by omega) (by omega)]
    exact v8 j hj
  · rw [k.2.2.2 _ _ (by omega) (by omega) (by omega)]
    exact v9 j hj
theorem mFG_pu {m fc : Nat} {FG : Nat → bs_G} {mu mu' : bs_Mm} {G : bs_G} (hF : mFG m fc FG mu) (h12 : fc < 12) (hG : g_ok G) (hV : mFv m fc G mu') (hc : bs_iv (mu' m 20) = nI (fc + 1)) (k : mKp m fc mu mu') : mFG m (fc + 1) (g_pu FG fc G) mu' := by
  refine ⟨by omega, hc, fun i hi => ?_⟩
  by_cases e : i = fc
  · subst e
    rw [g_pu_s]
    exact ⟨hG, hV⟩
  · rw [g_pu_n e]
    have q := hF.2.2 i (by omega)
    exact ⟨q.1, mFv_kp q.2 (by omega) q.1 k⟩
theorem tf_find1 {m p : Nat} {mu : bs_Mm} (hp : p < 60) (h : bs_iv (mu (m + 15) p) = nI p) : FX12_find m mu (nI p) = some (nI p) := by
  unfold FX12_find
  have e : fg_lp (FX12_find_b2 m mu (nI p)) fg_fu (nI p) = some (nI p) := by
    refine fg_lp_e (n := 1999999) ?_
    unfold FX12_find_b2
    simp (disch := omega) only [fg_gd_t, fg_bd_s, fg_b2_s, fg_wr_s, fg_let_s, fn_add, fn_sub, fn_mul, fn_cl, fn_lt, fn_le, fn_eq, fn_eq0, fn_lt0, fn_0le, fn_0lt, fn_le0, fn_in, fn_shl, fn_shr, fa_and, fa_or, bs_xorI, if_true, if_false, h]
  rw [e, fg_bd_s]
theorem tf_find2 {m p w : Nat} {mu : bs_Mm} (hp : p < 60) (hw : w < 60) (h : bs_iv (mu (m + 15) p) = nI w) (hn : w ≠ p) (h2 : bs_iv (mu (m + 15) w) = nI w) : FX12_find m mu (nI p) = some (nI w) := by
  unfold FX12_find
  have e : fg_lp (FX12_find_b2 m mu (nI p)) fg_fu (nI p) = some (nI w) := by
    refine (fg_lp_s (n := 1999999) (s' := nI w) ?_).trans (fg_lp_e (n := 1999998) ?_)
    · unfold FX12_find_b2
      simp (disch := omega) only [fg_gd_t, fg_bd_s, fg_b2_s, fg_wr_s, fg_let_s, fn_add, fn_sub, fn_mul, fn_cl, fn_lt, fn_le, fn_eq, fn_eq0, fn_lt0, fn_0le, fn_0lt, fn_le0, fn_in, fn_shl, fn_shr, fa_and, fa_or, bs_xorI, if_true, if_false, h, if_neg hn]
    · unfold FX12_find_b2
      simp (disch := omega) only [fg_gd_t, fg_bd_s, fg_b2_s, fg_wr_s, fg_let_s, fn_add, fn_sub, fn_mul, fn_cl, fn_lt, fn_le, fn_eq, fn_eq0, fn_lt0, fn_0le, fn_0lt, fn_le0, fn_in, fn_shl, fn_shr, fa_and, fa_or, bs_xorI, if_true, if_false, h2]
  rw [e, fg_bd_s]
theorem g_es_pre {G : bs_G} {p n : Nat} (hn : n ≤ g_nu G) : g_es G p (2 ^ n - 1) (g_nu G) = g_sm (fun i => g_if (g_fr G i = p) + g_if (g_to G i = p)) n := by
  have e := g_sm_zr (h := fun i => if g_bt (2 ^ n - 1) i = 1 then g_if (g_fr G i = p) + g_if (g_to G i = p) else 0) (n := n) (g_nu G - n) fun i hi => by
    have z : (2 ^ n - 1) / 2 ^ i = 0 := Nat.div_eq_of_lt (by
      have a := Nat.pow_le_pow_right (show 0 < 2 by decide) hi
      have b := Nat.two_pow_pos n
      omega)
    have z2 : g_bt (2 ^ n - 1) i = 0 := by
      unfold g_bt
      rw [z]
      rfl
    show (if g_bt (2 ^ n - 1) i = 1 then _ else 0) = 0
    rw [z2, if_neg (by decide)]
  rw [show n + (g_nu G - n) = g_nu G by omega] at e
  show g_sm (fun i => if g_bt (2 ^ n - 1) i = 1 then g_if (g_fr G i = p) + g_if (g_to G i = p) else 0) (g_nu G) = _
  rw [e]
  exact g_sm_cg _ fun i hi => if_pos (g_bt_all hi)
theorem tf_handsC {m : Nat} {mu mu2 : bs_Mm} (e8 : mu2 (m + 8) = mu (m + 8)) (e11 : mu2 (m + 11) = mu (m + 11)) (e12 : mu2 (m + 12) = mu (m + 12)) (e13 : mu2 (m + 13) = mu (m + 13)) (a : Int32) : FX12_handsOf m mu2 a = FX12_handsOf m mu a := by
  have t : ∀ b c, FX12_isTwist m mu2 b c = FX12_isTwist m mu b c := fun b c => by
    unfold FX12_isTwist
    rw [e8, e13]
  have n6 : ∀ l1 l2 l3, FX12_endsIn_b6 m mu2 l1 l2 l3 = FX12_endsIn_b6 m mu l1 l2 l3 := fun l1 l2 l3 => funext fun s => by
    unfold FX12_endsIn_b6
    simp only [FX12_endsIn_j50_L6, e8, e11, e12]
  have n : ∀ b c d, FX12_endsIn m mu2 b c d = FX12_endsIn m mu b c d := fun b c d => by
    unfold FX12_endsIn
    rw [n6]
  have h29 : ∀ l1 l2 l3 l4, FX12_handsOf_b29_L4 m mu2 l1 l2 l3 l4 = FX12_handsOf_b29_L4 m mu l1 l2 l3 l4 := fun l1 l2 l3 l4 => funext fun s => by
    unfold FX12_handsOf_b29_L4
    simp only [t, n, e12]
  have h4 : FX12_handsOf_b4 m mu2 a = FX12_handsOf_b4 m mu a := funext fun s => by
    unfold FX12_handsOf_b4
    simp only [h29, e8]
  unfold FX12_handsOf
  rw [h4]
theorem tf_hands {m g : Nat} {mu : bs_Mm} {T : bs_G} (hV : mFv m g T mu) (hg : g < 13) (hT : g_ok T) : FX12_handsOf m mu (nI g) = some (nI (g_hn T (g_nu T))) := by
  have q0 := g_bn hT
  unfold FX12_handsOf
  rw [fg_lp_n (fun b => (nI (g_hn T b), nI b)) (nI (g_hn T (g_nu T))) (g_nu T) (by rfl) (fun b hb => ?_) ?_ (fg_fu_lt (by omega))]
  · rfl
  · unfold FX12_handsOf_b4
    simp (disch := omega) only [fg_gd_t, fg_bd_s, fg_b2_s, fg_wr_s, fg_let_s, fn_add, fn_sub, fn_mul, fn_cl, fn_lt, fn_le, fn_eq, fn_eq0, fn_lt0, fn_0le, fn_0lt, fn_le0, fn_in, fn_shl, fn_shr, fa_and, fa_or, bs_xorI, if_true, if_false, hV.2.1, Nat.le_refl]
  · have hh := g_hn_le T b
    have p2 : 2 ^ (b + 1) ≤ 2 ^ 24 := Nat.pow_le_pow_right (by decide) (by omega)
    have p1 := Nat.two_pow_pos (b + 1)
    have sl : g_sm (g_sl (g_pf T (b + 1))) (b + 1) = g_sm (g_sl (g_pf T (b + 1))) b := g_sl_last (G := g_pf T (b + 1)) rfl
    have sle : g_sm (g_sl (g_pf T (b + 1))) b ≤ b := g_sm1 (fun i => g_sl_le _ i) _
    have inner : fg_lp (FX12_handsOf_b29_L4 m mu (nI g) (nI (g_hn T b)) (nI b) (nI (2 ^ (b + 1) - 1))) fg_fu (nI 0, nI 0) = some (nI (g_sm (g_sl (g_pf T (b + 1))) b)) := by
      refine fg_lp_n (fun k => (nI (g_sm (g_sl (g_pf T (b + 1))) k), nI k)) _ b rfl (fun k hk => ?_) ?_ (fg_fu_lt (by omega))
      · have b1 := g_bd hT (show k < g_nu T by omega)
        have to1 := hV.2.2.2.2.2.2.2.1 k (by omega)
        have tw := tf_isTw hV hg hT (show k < 2 ^ 29 by omega)
        have en := tf_endsIn hV hg hT (p := g_to T k) (S := 2 ^ (b + 1) - 1) (by omega) (by omega)
        rw [g_es_pre (by omega)] at en
        have ee : g_sm (fun i => g_if (g_fr T i = g_to T k) + g_if (g_to T i = g_to T k)) (b + 1) = g_en (g_pf T (b + 1)) (g_to T k) := rfl
        rw [ee] at en
        have eb : g_en (g_pf T (b + 1)) (g_to T k) ≤ 2 * (b + 1) := g_en_le (g_pf T (b + 1)) _
        have tb := g_tw_le T k
        have st : g_sm (g_sl (g_pf T (b + 1))) (k + 1) = g_sm (g_sl (g_pf T (b + 1))) k + g_sl (g_pf T (b + 1)) k := rfl
        have ts : g_tw (g_pf T (b + 1)) k = g_tw T k := by
          by_cases c : g_bo T k = g_bo T (k + 1)
          · exact (g_if1 (p := k + 1 < b + 1 ∧ g_bo T k = g_bo T (k + 1)) ⟨by omega, c⟩).trans (g_if1 (p := k + 1 < g_nu T ∧ g_bo T k = g_bo T (k + 1)) ⟨by omega, c⟩).symm
          · exact (g_if0 (p := k + 1 < b + 1 ∧ g_bo T k = g_bo T (k + 1)) (fun h => c h.2)).trans (g_if0 (p := k + 1 < g_nu T ∧ g_bo T k = g_bo T (k + 1)) (fun h => c h.2)).symm
        rw [st]
        unfold FX12_handsOf_b29_L4
        by_cases c : g_tw T k = 0
        · have z : g_sl (g_pf T (b + 1)) k = 0 := g_if0 (by rw [ts]; omega)
          rw [z]
          simp (disch := omega) only [fg_gd_t, fg_bd_s, fg_b2_s, fg_wr_s, fg_let_s, fn_add, fn_sub, fn_mul, fn_cl, fn_lt, fn_le, fn_eq, fn_eq0, fn_lt0, fn_0le, fn_0lt, fn_le0, fn_in, fn_shl, fn_shr, fa_and, fa_or, bs_xorI, if_true, if_false, tw, c, if_neg (show ¬ b ≤ k by omega)]
        · have c1 : g_tw T k = 1 := by omega
          by_cases d : 3 ≤ g_en (g_pf T (b + 1)) (g_to T k)
          · have z : g_sl (g_pf T (b + 1)) k = 0 := g_if0 (fun h => by have : g_en (g_pf T (b + 1)) (g_to T k) < 3 := h.2; omega)
            rw [z]
            simp (disch := omega) only [fg_gd_t, fg_bd_s, fg_b2_s, fg_wr_s, fg_let_s, fn_add, fn_sub, fn_mul, fn_cl, fn_lt, fn_le, fn_eq, fn_eq0, fn_lt0, fn_0le, fn_0lt, fn_le0, fn_in, fn_shl, fn_shr, fa_and, fa_or, bs_xorI, if_true, if_false, tw, c1, if_neg (show ¬ b ≤ k by omega), if_neg (show ¬ (1 : Nat) = 0 by decide), to1, en, if_pos d]
          · have z : g_sl (g_pf T (b + 1)) k = 1 := g_if1 ⟨by rw [ts]; exact c1, by show g_en (g_pf T (b + 1)) (g_to T k) < 3; omega⟩
            rw [z]
            simp (disch := omega) only [fg_gd_t, fg_bd_s, fg_b2_s, fg_wr_s, fg_let_s, fn_add, fn_sub, fn_mul, fn_cl, fn_lt, fn_le, fn_eq, fn_eq0, fn_lt0, fn_0le, fn_0lt, fn_le0, fn_in, fn_shl, fn_shr, fa_and, fa_or, bs_xorI, if_true, if_false, tw, c1, if_neg (show ¬ b ≤ k by omega), if_neg (show ¬ (1 : Nat) = 0 by decide), to1, en, if_neg d]
      · unfold FX12_handsOf_b29_L4
        simp (disch := omega) only [fg_gd_t, fg_bd_s, fg_b2_s, fg_wr_s, fg_let_s, fn_add, fn_sub, fn_mul, fn_cl, fn_lt, fn_le, fn_eq, fn_eq0, fn_lt0, fn_0le, fn_0lt, fn_le0, fn_in, fn_shl, fn_shr, fa_and, fa_or, bs_xorI, if_true, if_false, Nat.le_refl]
    show FX12_handsOf_b4 m mu (nI g) (nI (g_hn T b), nI b) = some (.inl (nI (max (g_hn T b) (g_sm (g_sl (g_pf T (b + 1))) (b + 1))), nI (b + 1)))
    rw [sl]
    unfold FX12_handsOf_b4
    simp (disch := omega) only [fg_gd_t, fg_bd_s, fg_b2_s, fg_wr_s, fg_let_s, fn_add, fn_sub, fn_mul, fn_cl, fn_lt, fn_le, fn_eq, fn_eq0, fn_lt0, fn_0le, fn_0lt, fn_le0, fn_in, fn_shl, fn_shr, fa_and, fa_or, bs_xorI, if_true, if_false, hV.2.1, if_neg (show ¬ g_nu T ≤ b by omega), inner]
    by_cases y : g_hn T b < g_sm (g_sl (g_pf T (b + 1))) b
    · rw [if_pos y, Nat.max_eq_right (by omega)]
    · rw [if_neg y, Nat.max_eq_left (by omega)]
