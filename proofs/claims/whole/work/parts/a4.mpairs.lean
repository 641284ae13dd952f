/-! ALIKE, MATCH: the model's search, its calls -/
theorem mFv_of3 {m g : Nat} {G : bs_G} {mu mu' : bs_Mm} (h : mFv m g G mu) (e : ∀ c, m + 6 ≤ c → c ≤ m + 14 → mu' c = mu c) : mFv m g G mu' := by
  obtain ⟨h1, h2, h3, h4, h5, h6, h7, h8, h9⟩ := h
  exact ⟨by rw [e _ (by omega) (by omega)]; exact h1, by rw [e _ (by omega) (by omega)]; exact h2, by rw [e _ (by omega) (by omega)]; exact h3, by rw [e _ (by omega) (by omega)]; exact h4, by rw [e _ (by omega) (by omega)]; exact h5, by rw [e _ (by omega) (by omega)]; exact h6, by rw [e _ (by omega) (by omega)]; exact h7, by rw [e _ (by omega) (by omega)]; exact h8, by rw [e _ (by omega) (by omega)]; exact h9⟩
/-- a row so far; the least of the rows that go on with it -/
def al_Pz (G H : bs_G) (d : Nat) (R : Nat → Nat) : Prop := ∀ j, j < d → R j < g_np G ∧ (∀ i, i < j → R i ≠ R j) ∧ al_T G H j (R j) R
def al_L (V : (Nat → Nat) → Prop) (n d : Nat) (R s : Nat → Nat) : Prop := V s ∧ (∀ j, j < d → s j = R j) ∧ ∀ t, V t → (∀ j, j < d → t j = R j) → (∀ i, i < n → s i = t i) ∨ ∃ i, i < n ∧ (∀ j, j < i → s j = t j) ∧ s i < t i
theorem al_Pz_up {G H : bs_G} {d q : Nat} {R : Nat → Nat} (h : al_Pz G H d R) (hq : q < g_np G) (hn : ∀ i, i < d → R i ≠ q) (hT : al_T G H d q R) : al_Pz G H (d + 1) (bs_fn R d q) := by
  intro j hj
  by_cases e : j = d
  · subst e
    rw [bs_fn_s]
    exact ⟨hq, fun i hi => by rw [bs_fn_n (by omega)]; exact hn i hi, al_T_cg hT (fun p hp => (bs_fn_n (by omega)).symm)⟩
  · obtain ⟨a, b, c⟩ := h j (by omega)
    rw [bs_fn_n e]
    exact ⟨a, fun i hi => by rw [bs_fn_n (by omega)]; exact b i hi, al_T_cg c (fun p hp => (bs_fn_n (by omega)).symm)⟩
theorem tf_is {m g o d q : Nat} {rP : bs_Mm → Int32 → Int32 → Int32 → Int32 → Option (Int32 × bs_Mm)} {l4 : Int32} {mu : bs_Mm} {G H : bs_G} {R : Nat → Nat} (hV : mFv m g G mu) (hg : g < 13) (hG : g_ok G) (hW : mFv m o H mu) (ho : o < 13) (hH : g_ok H) (hd : d < 8) (hr : ∀ j, j ≤ d → bs_iv (mu (m + 23) j) = nI (bs_fn R d q j) ∧ bs_fn R d q j < 8) : ∃ a, fg_lp (FX12_pairs_b54_L15 m rP mu (nI g) (nI o) (nI d) l4 (nI q)) fg_fu (nI 1, nI 0) = some a ∧ ((a = nI 1 ∧ al_T G H d q R) ∨ (a = nI 0 ∧ ¬ al_T G H d q R)) := by
  have q8 : q < 8 := by have := (hr d (Nat.le_refl _)).2; rw [bs_fn_s] at this; exact this
  have tt : (∀ j, j < d + 1 → ∀ l, al_b G d j l (g_nu G) = al_b H q (bs_fn R d q j) l (g_nu H)) ↔ al_T G H d q R := by
    constructor
    · intro h
      refine ⟨fun l => ?_, fun p hp l => ?_⟩
      · have := h d (Nat.lt_succ_self _) l
        rw [bs_fn_s] at this
        exact this
      · have := h p (by omega) l
        rw [bs_fn_n (by omega)] at this
        exact this
    · intro h j hj l
      by_cases e : j = d
      · subst e
        rw [bs_fn_s]
        exact h.1 l
      · rw [bs_fn_n e]
        exact h.2 j (by omega) l
  refine Exists.elim (fg_lp_i (body := FX12_pairs_b54_L15 m rP mu (nI g) (nI o) (nI d) l4 (nI q)) (fun w s => ∃ i, s.2 = nI i ∧ i + w = d + 1 ∧ ((s.1 = nI 1 ∧ ∀ j, j < i → ∀ l, al_b G d j l (g_nu G) = al_b H q (bs_fn R d q j) l (g_nu H)) ∨ (s.1 = nI 0 ∧ ¬ al_T G H d q R))) (fun a => (a = nI 1 ∧ al_T G H d q R) ∨ (a = nI 0 ∧ ¬ al_T G H d q R)) (fun w s hI => ?_) fg_fu (d + 1) (nI 1, nI 0) ⟨0, rfl, by omega, Or.inl ⟨rfl, fun j hj => by omega⟩⟩ (fg_fu_lt (by omega))) (fun t ht => ⟨t, ht⟩)
  obtain ⟨av, iv⟩ := s
  obtain ⟨i, e, hw, hh⟩ := hI
  have e : iv = nI i := e
  subst e
  by_cases z : d < i
  · refine Or.inr ⟨av, ?_, ?_⟩
    · unfold FX12_pairs_b54_L15
      simp (disch := omega) only [fg_gd_t, fg_bd_s, fg_b2_s, fg_wr_s, fg_let_s, fn_add, fn_sub, fn_mul, fn_cl, fn_lt, fn_le, fn_eq, fn_eq0, fn_lt0, fn_0le, fn_0lt, fn_le0, fn_in, fn_shl, fn_shr, fa_and, fa_or, bs_xorI, if_true, if_false, if_pos z]
    · rcases hh with ⟨h1, h2⟩ | h
      · exact Or.inl ⟨h1, tt.mp (fun j hj => h2 j (by omega))⟩
      · exact Or.inr h
  · rcases hh with ⟨h1, h2⟩ | ⟨h1, h2⟩
    · have h1 : av = nI 1 := h1
      subst h1
      obtain ⟨r1, r2⟩ := hr i (by omega)
      obtain ⟨a, a1, a2⟩ := tf_same (p := d) (q := i) (u := q) (v := bs_fn R d q i) hV hg hG hW ho hH (by omega) (by omega) (by omega) (by omega)
      refine Or.inl ⟨(a, nI (i + 1)), w - 1, ?_, by omega, i + 1, rfl, by omega, ?_⟩
      · unfold FX12_pairs_b54_L15
        simp (disch := omega) only [fg_gd_t, fg_bd_s, fg_b2_s, fg_wr_s, fg_let_s, fn_add, fn_sub, fn_mul, fn_cl, fn_lt, fn_le, fn_eq, fn_eq0, fn_lt0, fn_0le, fn_0lt, fn_le0, fn_in, fn_shl, fn_shr, fa_and, fa_or, bs_xorI, if_true, if_false, if_neg z, if_neg (show ¬ (1 : Nat) = 0 by decide), r1, a1]
      · rcases a2 with ⟨a3, a4⟩ | ⟨a3, a4⟩
        · refine Or.inl ⟨a3, fun j hj => ?_⟩
          by_cases e : j = i
          · rw [e]; exact a4
          · exact h2 j (by omega)
        · exact Or.inr ⟨a3, fun h => a4 (tt.mpr h i (by omega))⟩
    · have h1 : av = nI 0 := h1
      subst h1
      refine Or.inr ⟨nI 0, ?_, Or.inr ⟨rfl, h2⟩⟩
      unfold FX12_pairs_b54_L15
      simp (disch := omega) only [fg_gd_t, fg_bd_s, fg_b2_s, fg_wr_s, fg_let_s, fn_add, fn_sub, fn_mul, fn_cl, fn_lt, fn_le, fn_eq, fn_eq0, fn_lt0, fn_0le, fn_0lt, fn_le0, fn_in, fn_shl, fn_shr, fa_and, fa_or, bs_xorI, if_true, if_false, if_neg z]
set_option maxHeartbeats 2000000 in
theorem tf_pairs {m g o : Nat} {G H : bs_G} (hg : g < 13) (hG : g_ok G) (ho : o < 13) (hH : g_ok H) (hn : g_np G = g_np H ∧ g_np G ≤ 8) : ∀ k d R mu, mFv m g G mu → mFv m o H mu → d ≤ g_np G → g_np G ≤ d + k → al_Pz G H d R → (∀ j, j < d → bs_iv (mu (m + 23) j) = nI (R j)) → ∃ a mu', FX12_pairs m (fg_rP m k) mu (nI g) (nI o) (nI d) (nI (al_u (fun i => R i + 1) d)) = some (a, mu') ∧ (∀ c, c ≠ m + 23 → mu' c = mu c) ∧ (∀ j, j < d → mu' (m + 23) j = mu (m + 23) j) ∧ ((a = nI 1 ∧ ∃ s, al_L (al_V G H) (g_np G) d R s ∧ ∀ p, p < g_np G → bs_iv (mu' (m + 23) p) = nI (s p)) ∨ (a = nI 0 ∧ ∀ s, al_V G H s → ¬ ∀ j, j < d → s j = R j)) := by
  intro k
  have done : ∀ k d R mu, mFv m g G mu → d = g_np G → al_Pz G H d R → (∀ j, j < d → bs_iv (mu (m + 23) j) = nI (R j)) → ∃ a mu', FX12_pairs m (fg_rP m k) mu (nI g) (nI o) (nI d) (nI (al_u (fun i => R i + 1) d)) = some (a, mu') ∧ (∀ c, c ≠ m + 23 → mu' c = mu c) ∧ (∀ j, j < d → mu' (m + 23) j = mu (m + 23) j) ∧ ((a = nI 1 ∧ ∃ s, al_L (al_V G H) (g_np G) d R s ∧ ∀ p, p < g_np G → bs_iv (mu' (m + 23) p) = nI (s p)) ∨ (a = nI 0 ∧ ∀ s, al_V G H s → ¬ ∀ j, j < d → s j = R j)) := by
    intro k d R mu hV e hP hr
    refine ⟨nI 1, mu, ?_, fun _ _ => rfl, fun _ _ => rfl, Or.inl ⟨rfl, R, ⟨al_TV (fun j hj => (hP j (by omega)).1) (fun j i hi hj => (hP j (by omega)).2.1 i hi) (fun j hj => (hP j (by omega)).2.2), fun _ _ => rfl, fun t _ ht => Or.inl fun i hi => (ht i (by omega)).symm⟩, fun p hp => hr p (by omega)⟩⟩
    unfold FX12_pairs
    rw [fn_in hg (by decide), fg_gd_t, fn_cl (by omega), hV.2.2.1, e, if_pos rfl]
  induction k with
  | zero =>
    intro d R mu hV hW hd hk hP hr
    exact done 0 d R mu hV (by omega) hP hr
  | succ k ih =>
    intro d R mu hV hW hd hk hP hr
    by_cases ze : d = g_np G
    · exact done (k + 1) d R mu hV ze hP hr
    · have q0 := g_bn hG
      have dn : d < g_np G := by omega
      have ul : al_u (fun i => R i + 1) d < 2 ^ g_np G := al_u_lt (by omega) d (fun j hj => by have := (hP j hj).1; show R j + 1 ≤ _; omega)
      have p24 : 2 ^ g_np G ≤ 2 ^ 24 := Nat.pow_le_pow_right (by decide) (by omega)
      unfold FX12_pairs
      rw [fn_in hg (by decide), fg_gd_t, fn_cl (by omega), hV.2.2.1, if_neg (fun h => ze ((nI_eq (by omega) (by omega)).mp h))]
      refine Exists.elim (fg_lp_i (body := FX12_pairs_b15 m (fg_rP m (k + 1)) (nI g) (nI o) (nI d) (nI (al_u (fun i => R i + 1) d))) (fun w st => (∀ c, c ≠ m + 23 → st.2 c = mu c) ∧ (∀ j, j < d → st.2 (m + 23) j = mu (m + 23) j) ∧ ∃ q, st.1 = nI q ∧ q + w = g_np G ∧ ∀ s, al_V G H s → (∀ j, j < d → s j = R j) → q ≤ s d) (fun t => (∃ mu1, t = .inl mu1 ∧ (∀ c, c ≠ m + 23 → mu1 c = mu c) ∧ (∀ j, j < d → mu1 (m + 23) j = mu (m + 23) j) ∧ ∀ s, al_V G H s → ¬ ∀ j, j < d → s j = R j) ∨ ∃ mu1, t = .inr (nI 1, mu1) ∧ (∀ c, c ≠ m + 23 → mu1 c = mu c) ∧ (∀ j, j < d → mu1 (m + 23) j = mu (m + 23) j) ∧ ∃ s, al_L (al_V G H) (g_np G) d R s ∧ ∀ p, p < g_np G → bs_iv (mu1 (m + 23) p) = nI (s p)) (fun w st hI => ?_) fg_fu (g_np G) (nI 0, mu) ⟨fun _ _ => rfl, fun _ _ => rfl, 0, rfl, by omega, fun _ _ _ => Nat.zero_le _⟩ (fg_fu_lt (by omega))) (fun t ht => ?_)
      · obtain ⟨qv, mu1⟩ := st
        obtain ⟨f1, f2, q, e, hw, hh⟩ := hI
        have e : qv = nI q := e
        subst e
        have f1 : ∀ c, c ≠ m + 23 → mu1 c = mu c := f1
        have f2 : ∀ j, j < d → mu1 (m + 23) j = mu (m + 23) j := f2
        have hV1 := mFv_of3 hV (fun c _ _ => f1 c (by omega))
        have hW1 := mFv_of3 hW (fun c _ _ => f1 c (by omega))
        by_cases z : g_np G ≤ q
        · refine Or.inr ⟨.inl mu1, ?_, Or.inl ⟨mu1, rfl, f1, f2, fun s hs ha => ?_⟩⟩
          · unfold FX12_pairs_b15
            simp (disch := omega) only [fg_gd_t, fg_bd_s, fg_b2_s, fg_wr_s, fg_let_s, fn_add, fn_sub, fn_mul, fn_cl, fn_lt, fn_le, fn_eq, fn_eq0, fn_lt0, fn_0le, fn_0lt, fn_le0, fn_in, fn_shl, fn_shr, fa_and, fa_or, bs_xorI, if_true, if_false, hW1.2.2.1, if_pos (show g_np H ≤ q by omega)]
          · have a := hh s hs ha
            have b := hs.1 d dn
            omega
        · have nn : ¬ g_np H ≤ q := by omega
          have bt : g_bt (al_u (fun i => R i + 1) d) q < 2 := by have := g_bt_c (al_u (fun i => R i + 1) d) q; omega
          by_cases c : (al_u (fun i => R i + 1) d).testBit q = true
          · have c2 : g_bt (al_u (fun i => R i + 1) d) q = 1 := by rw [g_bt_tb]; exact c
            refine Or.inl ⟨(nI (q + 1), mu1), w - 1, ?_, by omega, f1, f2, q + 1, rfl, by omega, fun s hs ha => ?_⟩
            · unfold FX12_pairs_b15
              simp (disch := omega) only [fg_gd_t, fg_bd_s, fg_b2_s, fg_wr_s, fg_let_s, fn_add, fn_sub, fn_mul, fn_cl, fn_lt, fn_le, fn_eq, fn_eq0, fn_lt0, fn_0le, fn_0lt, fn_le0, fn_in, fn_shl, fn_shr, fa_and, fa_or, bs_xorI, if_true, if_false, hW1.2.2.1, if_neg nn, g_btd, if_pos c2]
            · have a := hh s hs ha
              obtain ⟨j, j1, j2⟩ := al_u_m d c
              have j2 : R j + 1 - 1 = q := j2
              by_cases y : s d = q
              · have e1 := ha j j1
                have := hs.2.1 j d (by omega) dn (by omega)
                omega
              · omega
          · have c2 : ¬ g_bt (al_u (fun i => R i + 1) d) q = 1 := by rw [g_bt_tb]; exact c
            have f3 : ∀ c, c ≠ m + 23 → bs_up mu1 (m + 23) d (.int (nI q)) c = mu c := fun c hc => (bs_up_f hc).trans (f1 c hc)
            have hV2 : mFv m g G (bs_up mu1 (m + 23) d (.int (nI q))) := mFv_of3 hV (fun c _ _ => f3 c (by omega))
            have hW2 : mFv m o H (bs_up mu1 (m + 23) d (.int (nI q))) := mFv_of3 hW (fun c _ _ => f3 c (by omega))
            have f4 : ∀ j, j < d → bs_up mu1 (m + 23) d (.int (nI q)) (m + 23) j = mu (m + 23) j := fun j hj => (bs_up_j (by omega)).trans (f2 j hj)
            have rows : ∀ j, j ≤ d → bs_iv (bs_up mu1 (m + 23) d (.int (nI q)) (m + 23) j) = nI (bs_fn R d q j) ∧ bs_fn R d q j < 8 := by
              intro j hj
              by_cases e : j = d
              · subst e
                rw [bs_up_eq, bs_fn_s]
                exact ⟨rfl, by omega⟩
              · rw [f4 j (by omega), bs_fn_n e]
                exact ⟨hr j (by omega), by have := (hP j (by omega)).1; omega⟩
            obtain ⟨a, a1, a2⟩ := tf_is (rP := fg_rP m (k + 1)) (l4 := nI (al_u (fun i => R i + 1) d)) hV2 hg hG hW2 ho hH (show d < 8 by omega) rows
            have ev : FX12_pairs_b15 m (fg_rP m (k + 1)) (nI g) (nI o) (nI d) (nI (al_u (fun i => R i + 1) d)) (nI q, mu1) = FX12_pairs_j91_L15 m (fg_rP m (k + 1)) (bs_up mu1 (m + 23) d (.int (nI q))) (nI g) (nI o) (nI d) (nI (al_u (fun i => R i + 1) d)) (nI q) a := by
              unfold FX12_pairs_b15
              simp (disch := omega) only [fg_gd_t, fg_bd_s, fg_b2_s, fg_wr_s, fg_let_s, fn_add, fn_sub, fn_mul, fn_cl, fn_lt, fn_le, fn_eq, fn_eq0, fn_lt0, fn_0le, fn_0lt, fn_le0, fn_in, fn_shl, fn_shr, fa_and, fa_or, bs_xorI, if_true, if_false, hW1.2.2.1, if_neg nn, g_btd, if_neg c2, a1]
            rcases a2 with ⟨a3, a4⟩ | ⟨a3, a4⟩
            · subst a3
              have dis : ∀ i, i < d → R i ≠ q := by
                intro i hi e
                have y := al_u_y (R := fun i => R i + 1) d i hi
                have y : (al_u (fun i => R i + 1) d).testBit (R i + 1 - 1) = true := y
                rw [Nat.add_sub_cancel, e] at y
                exact c y
              have uu : al_u (fun i => R i + 1) d ||| 2 ^ q = al_u (fun i => bs_fn R d q i + 1) (d + 1) := by
                show _ = al_u (fun i => bs_fn R d q i + 1) d ||| 2 ^ (bs_fn R d q d + 1 - 1)
                rw [bs_fn_s, Nat.add_sub_cancel, al_u_cg (R := fun i => bs_fn R d q i + 1) (R' := fun i => R i + 1) d (fun j hj => by show bs_fn R d q j + 1 = R j + 1; rw [bs_fn_n (by omega)])]
              obtain ⟨b, mu2, b1, b2, b3, b4⟩ := ih (d + 1) (bs_fn R d q) (bs_up mu1 (m + 23) d (.int (nI q))) hV2 hW2 (by omega) (by omega) (al_Pz_up hP (by omega) dis a4) (fun j hj => (rows j (by omega)).1)
              have g1 : ∀ c, c ≠ m + 23 → mu2 c = mu c := fun c hc => (b2 c hc).trans (f3 c hc)
              have g2 : ∀ j, j < d → mu2 (m + 23) j = mu (m + 23) j := fun j hj => (b3 j (by omega)).trans (f4 j hj)
              have b1 : fg_rP m (k + 1) (bs_up mu1 (m + 23) d (.int (nI q))) (nI g) (nI o) (nI (d + 1)) (nI (al_u (fun i => bs_fn R d q i + 1) (d + 1))) = some (b, mu2) := b1
              have ev2 : FX12_pairs_j91_L15 m (fg_rP m (k + 1)) (bs_up mu1 (m + 23) d (.int (nI q))) (nI g) (nI o) (nI d) (nI (al_u (fun i => R i + 1) d)) (nI q) (nI 1) = if b = 0 then some (.inl (nI (q + 1), mu2)) else some (.inr (.inr (nI 1, mu2))) := by
                unfold FX12_pairs_j91_L15
                rw [if_neg (show ¬ nI 1 = 0 by decide), fn_add, fn_shl (by omega), fa_or, uu, b1, fg_b2_s, fn_add]
              rcases b4 with ⟨b5, s, s1, s2⟩ | ⟨b5, b6⟩
              · subst b5
                refine Or.inr ⟨.inr (nI 1, mu2), by rw [ev, ev2]; rfl, Or.inr ⟨mu2, rfl, g1, g2, s, ⟨s1.1, fun j hj => by rw [s1.2.1 j (by omega), bs_fn_n (by omega)], fun t ht1 ht2 => ?_⟩, s2⟩⟩
                have sd : s d = q := by rw [s1.2.1 d (by omega), bs_fn_s]
                have l := hh t ht1 ht2
                by_cases y : t d = q
                · exact s1.2.2 t ht1 (fun j hj => by
                    by_cases e : j = d
                    · rw [e, bs_fn_s, y]
                    · rw [bs_fn_n e]
                      exact ht2 j (by omega))
                · exact Or.inr ⟨d, dn, fun j hj => by rw [s1.2.1 j (by omega), bs_fn_n (by omega), ht2 j hj], by omega⟩
              · subst b5
                refine Or.inl ⟨(nI (q + 1), mu2), w - 1, by rw [ev, ev2]; rfl, by omega, g1, g2, q + 1, rfl, by omega, fun s hs ha => ?_⟩
                have l := hh s hs ha
                by_cases y : s d = q
                · exact absurd (fun j hj => by
                    by_cases e : j = d
                    · rw [e, bs_fn_s, y]
                    · rw [bs_fn_n e]
                      exact ha j (by omega)) (b6 s hs)
                · omega
            · subst a3
              refine Or.inl ⟨(nI (q + 1), bs_up mu1 (m + 23) d (.int (nI q))), w - 1, ?_, by omega, f3, f4, q + 1, rfl, by omega, fun s hs ha => ?_⟩
              · rw [ev]
                unfold FX12_pairs_j91_L15
                rw [if_pos (show nI 0 = 0 from rfl), fn_add]
              · have l := hh s hs ha
                by_cases y : s d = q
                · exact absurd (by have := al_VT hs dn; rw [y] at this; exact al_T_cg this ha) a4
                · omega
      · obtain ⟨t1, t2⟩ := ht
        rw [t1]
        rcases t2 with ⟨mu1, e, f1, f2, f3⟩ | ⟨mu1, e, f1, f2, f3⟩
        · subst e
          exact ⟨nI 0, mu1, rfl, f1, f2, Or.inr ⟨rfl, f3⟩⟩
        · subst e
          exact ⟨nI 1, mu1, rfl, f1, f2, Or.inl ⟨rfl, f3⟩⟩
theorem tf_mmN {m fc : Nat} {FG : Nat → bs_G} {mu : bs_Mm} (hF : mFG m fc FG mu) {a b : Int32} (h : (a < 0 ∨ nI fc ≤ a) ∨ (∃ j, j < fc ∧ a = nI j) ∧ (b < 0 ∨ nI fc ≤ b)) : FX12_mayMatch m mu a b = some (nI 0) := by
  have hf := hF.1
  unfold FX12_mayMatch
  rcases h with h | ⟨⟨j, hj, rfl⟩, h⟩
  · rw [tf_figN hF.2.1 hf h]
    rfl
  · rw [tf_figY hF.2.1 hf hj, fg_bd_s, if_neg (by decide), tf_figN hF.2.1 hf h]
    rfl
theorem tf_mmY {m fc i j : Nat} {FG : Nat → bs_G} {mu : bs_Mm} (hF : mFG m fc FG mu) (hi : i < fc) (hj : j < fc) : FX12_mayMatch m mu (nI i) (nI j) = some (if 8 < g_np (FG i) ∨ 8 < g_np (FG j) then nI 0 else nI 1) := by
  have hf := hF.1
  have q0 := g_bn (hF.2.2 i hi).1
  have q1 := g_bn (hF.2.2 j hj).1
  unfold FX12_mayMatch
  rw [tf_figY hF.2.1 hf hi, fg_bd_s, if_neg (by decide), tf_figY hF.2.1 hf hj, fg_bd_s, if_neg (by decide), fn_in (by omega) (by decide), fg_gd_t, fn_cl (by omega), (hF.2.2 i hi).2.2.2.1, fn_in (by omega) (by decide), fg_gd_t, fn_cl (by omega), (hF.2.2 j hj).2.2.2.1]
  by_cases c : 8 < g_np (FG i)
  · rw [if_pos ((nI_ltI (by omega) (by omega)).mpr c), if_pos (Or.inl c)]
  · rw [if_neg (fun h => c ((nI_ltI (by omega) (by omega)).mp h))]
    by_cases d : 8 < g_np (FG j)
    · rw [if_pos ((nI_ltI (by omega) (by omega)).mpr d), if_pos (Or.inr d)]
    · rw [if_neg (fun h => d ((nI_ltI (by omega) (by omega)).mp h)), if_neg (fun z => z.elim c d)]
theorem tf_areA {m fc i j : Nat} {FG : Nat → bs_G} {mu : bs_Mm} (hF : mFG m fc FG mu) (hi : i < fc) (hj : j < fc) (hn : g_np (FG i) ≤ 8) : ∃ a mu', FX12_areAlike m mu (nI i) (nI j) = some (a, mu') ∧ (∀ c, c ≠ m + 23 → mu' c = mu c) ∧ ((a = nI 1 ∧ al_A (FG i) (FG j) ∧ ∃ s, al_F (al_V (FG i) (FG j)) (g_np (FG i)) s ∧ ∀ p, p < g_np (FG i) → bs_iv (mu' (m + 23) p) = nI (s p)) ∨ (a = nI 0 ∧ ¬ al_A (FG i) (FG j))) := by
  have hf := hF.1
  have hG := (hF.2.2 i hi).1
  have hH := (hF.2.2 j hj).1
  have hV := (hF.2.2 i hi).2
  have hW := (hF.2.2 j hj).2
  have q0 := g_bn hG
  have q1 := g_bn hH
  unfold FX12_areAlike
  rw [fn_in (show i < 13 by omega) (by decide), fg_gd_t, fn_in (show j < 13 by omega) (by decide), fg_gd_t, fn_cl (by omega), fn_cl (by omega), hV.2.2.1, hW.2.2.1]
  by_cases c1 : g_np (FG i) = g_np (FG j)
  · rw [if_pos (by rw [c1]), fg_gd_t, fg_gd_t, hV.2.1, hW.2.1]
    by_cases c2 : g_nu (FG i) = g_nu (FG j)
    · rw [if_pos (by rw [c2])]
      obtain ⟨a, mu1, m1, m2, m3, m4⟩ := tf_pairs (m := m) (g := i) (o := j) (by omega) hG (by omega) hH ⟨c1, hn⟩ 10 0 (fun _ => 0) mu hV hW (Nat.zero_le _) (by omega) (fun j hj => by omega) (fun j hj => by omega)
      have m1 : FX12_pairs m (fg_rP m 10) mu (nI i) (nI j) (nI 0) (nI 0) = some (a, mu1) := m1
      rw [m1, fg_b2_s]
      rcases m4 with ⟨e, s, s1, s2⟩ | ⟨e, h⟩
      · subst e
        exact ⟨nI 1, mu1, rfl, m2, Or.inl ⟨rfl, ⟨c1, c2, s, s1.1⟩, s, ⟨s1.1, fun t ht => s1.2.2 t ht (fun j hj => by omega)⟩, s2⟩⟩
      · subst e
        exact ⟨nI 0, mu1, rfl, m2, Or.inr ⟨rfl, fun z => by obtain ⟨-, -, s, hs⟩ := z; exact h s hs (fun j hj => by omega)⟩⟩
    · rw [if_neg (fun h => c2 ((nI_eq (by omega) (by omega)).mp h))]
      exact ⟨nI 0, mu, rfl, fun _ _ => rfl, Or.inr ⟨rfl, fun z => c2 z.2.1⟩⟩
  · rw [if_neg (fun h => c1 ((nI_eq (by omega) (by omega)).mp h))]
    exact ⟨nI 0, mu, rfl, fun _ _ => rfl, Or.inr ⟨rfl, fun z => c1 z.1⟩⟩
theorem tf_alN {m fc : Nat} {FG : Nat → bs_G} {mu : bs_Mm} (hF : mFG m fc FG mu) {a b : Int32} (h : (a < 0 ∨ nI fc ≤ a) ∨ (∃ j, j < fc ∧ a = nI j) ∧ (b < 0 ∨ nI fc ≤ b)) : FX12_alike m mu a b = some (-1, mu) := by
  unfold FX12_alike
  rw [tf_mmN hF h]
  rfl
theorem tf_maN {m fc : Nat} {FG : Nat → bs_G} {mu : bs_Mm} (hF : mFG m fc FG mu) {a b : Int32} (p : Int32) (h : (a < 0 ∨ nI fc ≤ a) ∨ (∃ j, j < fc ∧ a = nI j) ∧ (b < 0 ∨ nI fc ≤ b)) : FX12_match m mu a b p = some (-1, mu) := by
  unfold FX12_match
  rw [tf_mmN hF h]
  rfl
theorem tf_alY {m fc i j : Nat} {FG : Nat → bs_G} {mu : bs_Mm} (hF : mFG m fc FG mu) (hi : i < fc) (hj : j < fc) : ∃ a mu', FX12_alike m mu (nI i) (nI j) = some (a, mu') ∧ kAl (FG i) (FG j) a ∧ ∀ c, c ≠ m + 23 → mu' c = mu c := by
  unfold FX12_alike
  rw [tf_mmY hF hi hj, fg_bd_s]
  by_cases c : 8 < g_np (FG i) ∨ 8 < g_np (FG j)
  · rw [if_pos c]
    exact ⟨-1, mu, rfl, Or.inl ⟨c, rfl⟩, fun _ _ => rfl⟩
  · rw [if_neg c, if_neg (by decide)]
    obtain ⟨a, mu1, m1, m2, m3⟩ := tf_areA hF hi hj (by omega)
    rw [m1, fg_b2_s]
    rcases m3 with ⟨e, h, -⟩ | ⟨e, h⟩
    · subst e
      exact ⟨nI 1, mu1, rfl, Or.inr ⟨by omega, by omega, Or.inl ⟨rfl, h⟩⟩, m2⟩
    · subst e
      exact ⟨nI 0, mu1, rfl, Or.inr ⟨by omega, by omega, Or.inr ⟨rfl, h⟩⟩, m2⟩
theorem tf_maY {m fc i j : Nat} {FG : Nat → bs_G} {mu : bs_Mm} (hF : mFG m fc FG mu) (hi : i < fc) (hj : j < fc) (p : Int32) : ∃ a mu', FX12_match m mu (nI i) (nI j) p = some (a, mu') ∧ kMa (FG i) (FG j) p a ∧ ∀ c, c ≠ m + 23 → mu' c = mu c := by
  have q0 := g_bn (hF.2.2 i hi).1
  unfold FX12_match
  rw [tf_mmY hF hi hj, fg_bd_s]
  by_cases c : 8 < g_np (FG i) ∨ 8 < g_np (FG j)
  · rw [if_pos c]
    exact ⟨-1, mu, rfl, Or.inl ⟨rfl, c.elim Or.inl (fun z => Or.inr (Or.inl z))⟩, fun _ _ => rfl⟩
  · rw [if_neg c, if_neg (by decide)]
    rcases fn_any p (show g_np (FG i) < 2 ^ 31 by omega) with hp | ⟨q, hq, rfl⟩
    · rw [tf_ptB hF hi hp, fg_bd_s, if_pos rfl]
      exact ⟨-1, mu, rfl, Or.inl ⟨rfl, Or.inr (Or.inr (hp.elim Or.inl (fun z => Or.inr (Or.inl z))))⟩, fun _ _ => rfl⟩
    · rw [tf_ptY hF hi hq, fg_bd_s, if_neg (by decide)]
      obtain ⟨a, mu1, m1, m2, m3⟩ := tf_areA hF hi hj (by omega)
      rw [m1, fg_b2_s]
      rcases m3 with ⟨e, h, s, s1, s2⟩ | ⟨e, h⟩
      · subst e
        refine ⟨nI (s q), mu1, ?_, Or.inr ⟨by omega, by omega, h, q, s, hq, rfl, s1, rfl⟩, m2⟩
        rw [if_neg (by decide), fn_in (by omega) (by decide), fg_gd_t, fn_cl (by omega), s2 q hq]
      · subst e
        exact ⟨-1, mu1, rfl, Or.inl ⟨rfl, Or.inr (Or.inr (Or.inr (Or.inr h)))⟩, m2⟩
