/-! READING A FIGURE (own): what is read so far, over raw points; joins of the class -/
def rf_R (G : bs_G) (r : Nat → Nat) : bs_G := (G.1, g_so G, g_le G, (fun i => r (g_fr G i)), (fun i => r (g_to G i)), g_bo G)
def rf_s (a b : Nat) (z : Nat) : Nat := if z = a then b else z
theorem rf_en (H : bs_G) {a b : Nat} (hn : a ≠ b) (p : Nat) : g_en (rf_R H (rf_s a b)) p = if p = a then 0 else if p = b then g_en H b + g_en H a else g_en H p := by
  show g_sm (fun i => g_if (rf_s a b (g_fr H i) = p) + g_if (rf_s a b (g_to H i) = p)) (g_nu H) = _
  have one : ∀ z, g_if (rf_s a b z = p) = if p = a then 0 else if p = b then g_if (z = b) + g_if (z = a) else g_if (z = p) := by
    intro z
    unfold rf_s
    by_cases c : z = a
    · subst c
      rw [if_pos rfl]
      by_cases d : p = z
      · subst d
        rw [if_pos rfl, g_if0 (fun h => hn h.symm)]
      · rw [if_neg d]
        by_cases e : p = b
        · subst e
          rw [if_pos rfl, g_if1 rfl, g_if0 hn, g_if1 rfl]
        · rw [if_neg e, g_if0 (fun h => e h.symm), g_if0 (fun h => d h.symm)]
    · rw [if_neg c]
      by_cases d : p = a
      · subst d
        rw [if_pos rfl, g_if0 c]
      · rw [if_neg d]
        by_cases e : p = b
        · subst e
          rw [if_pos rfl, g_if0 (p := z = a) c]
          rfl
        · rw [if_neg e]
  by_cases d : p = a
  · rw [if_pos d]
    exact g_sm_z _ fun i _ => by
      show g_if (rf_s a b (g_fr H i) = p) + g_if (rf_s a b (g_to H i) = p) = 0
      rw [one, one, if_pos d, if_pos d]
  · rw [if_neg d]
    by_cases e : p = b
    · rw [if_pos e]
      show _ = g_sm (fun i => g_if (g_fr H i = b) + g_if (g_to H i = b)) (g_nu H) + g_sm (fun i => g_if (g_fr H i = a) + g_if (g_to H i = a)) (g_nu H)
      rw [← g_sm_add]
      exact g_sm_cg _ fun i _ => by
        rw [one, one, if_neg d, if_pos e, if_neg d, if_pos e]
        omega
    · rw [if_neg e]
      exact g_sm_cg _ fun i _ => by rw [one, one, if_neg d, if_neg e, if_neg d, if_neg e]
set_option maxHeartbeats 1000000 in
theorem sf_mvE {x f a b : Nat} {mu : bs_Mm} {H : bs_G} (hV : cFv f H mu) (hH : g_ok H) (hn : a ≠ b) (ha : a < g_np H) (hb : b < g_np H) : ∃ mu', FX1_moveEnds x f mu (nI a) (nI b) = some mu' ∧ cFv f (rf_R H (rf_s a b)) mu' ∧ ((∀ p, p < 30 → bs_iv (mu (f + 6) p) = nI (g_en H p)) → ∀ p, p < 30 → bs_iv (mu' (f + 6) p) = nI (g_en (rf_R H (rf_s a b)) p)) ∧ (∀ k, mu' f k = mu f k) ∧ ∀ c, (c < f ∨ f + 6 < c) → mu' c = mu c := by
  have q0 := g_bn hH
  have rs : ∀ z, (if nI z = nI a then nI b else nI z) = nI (rf_s a b z) ∨ ¬ z < 30 := by
    intro z
    by_cases zz : z < 30
    · refine Or.inl ?_
      unfold rf_s
      by_cases c : z = a
      · rw [if_pos (by rw [c]), if_pos c]
      · rw [if_neg (fun h => c ((nI_eq (by omega) (by omega)).mp h)), if_neg c]
    · exact Or.inr zz
  have L1 : ∃ t, fg_lp (FX1_moveEnds_b2 x f (nI a) (nI b)) fg_fu (nI 0, mu) = some t ∧ (∀ j, j < g_nu H → bs_iv (t (f + 3) j) = nI (rf_s a b (g_fr H j)) ∧ bs_iv (t (f + 4) j) = nI (rf_s a b (g_to H j))) ∧ ∀ c, c ≠ f + 3 → c ≠ f + 4 → t c = mu c := by
    refine fg_lp_i (body := FX1_moveEnds_b2 x f (nI a) (nI b)) (fun r s => ∃ i, s.1 = nI i ∧ i + r = g_nu H ∧ (∀ j, j < i → bs_iv (s.2 (f + 3) j) = nI (rf_s a b (g_fr H j)) ∧ bs_iv (s.2 (f + 4) j) = nI (rf_s a b (g_to H j))) ∧ (∀ j, i ≤ j → j < g_nu H → bs_iv (s.2 (f + 3) j) = nI (g_fr H j) ∧ bs_iv (s.2 (f + 4) j) = nI (g_to H j)) ∧ ∀ c, c ≠ f + 3 → c ≠ f + 4 → s.2 c = mu c) _ (fun r s hJ => ?_) fg_fu (g_nu H) (nI 0, mu) ⟨0, rfl, by omega, fun j hj => absurd hj (Nat.not_lt_zero j), fun j _ hj => ⟨hV.2.2.2.2.2.2.1 j hj, hV.2.2.2.2.2.2.2.1 j hj⟩, fun _ _ _ => rfl⟩ (fg_fu_lt (by omega))
    obtain ⟨iv, mu1⟩ := s
    obtain ⟨i, e1, hr, h1, h2, hf⟩ := hJ
    have e1 : iv = nI i := e1
    subst e1
    have h1 : ∀ j, j < i → bs_iv (mu1 (f + 3) j) = nI (rf_s a b (g_fr H j)) ∧ bs_iv (mu1 (f + 4) j) = nI (rf_s a b (g_to H j)) := h1
    have h2 : ∀ j, i ≤ j → j < g_nu H → bs_iv (mu1 (f + 3) j) = nI (g_fr H j) ∧ bs_iv (mu1 (f + 4) j) = nI (g_to H j) := h2
    have hf : ∀ c, c ≠ f + 3 → c ≠ f + 4 → mu1 c = mu c := hf
    have e7 : bs_iv (mu1 f 7) = nI (g_nu H) := by rw [hf _ (by omega) (by omega)]; exact hV.2.1
    by_cases z : g_nu H ≤ i
    · refine Or.inr ⟨mu1, ?_, fun j hj => h1 j (by omega), hf⟩
      unfold FX1_moveEnds_b2
      simp (disch := omega) only [fg_gd_t, fg_bd_s, fg_b2_s, fg_wr_s, fg_let_s, fn_add, fn_sub, fn_mul, fn_cl, fn_lt, fn_le, fn_eq, fn_eq0, fn_lt0, fn_0le, fn_0lt, fn_le0, fn_in, fn_shl, fn_shr, fa_and, fa_or, bs_xorI, if_true, if_false, e7, if_pos z]
    · have hi : i < g_nu H := by omega
      have b1 := g_bd hH hi
      have v := h2 i (Nat.le_refl _) hi
      have gi : fg_in (nI i) 24 = true := fn_in (show i < 24 by omega) (by decide)
      have ci : (nI i).toNatClampNeg = i := fn_cl (by omega)
      have r1 := (rs (g_fr H i)).resolve_right (by omega)
      have r2 := (rs (g_to H i)).resolve_right (by omega)
      obtain ⟨mA, hA⟩ : ∃ y, y = bs_up mu1 (f + 3) i (.int (nI (rf_s a b (g_fr H i)))) := ⟨_, rfl⟩
      have vA : bs_iv (mA (f + 4) i) = nI (g_to H i) := by rw [hA, bs_up_f (by omega)]; exact v.2
      have j35 : FX1_moveEnds_j35_L2 x f mu1 (nI a) (nI b) (nI i) (nI i) (nI (rf_s a b (g_fr H i))) = some (.inl (nI (i + 1), bs_up mA (f + 4) i (.int (nI (rf_s a b (g_to H i)))))) := by
        unfold FX1_moveEnds_j35_L2
        rw [gi, fg_gd_t, ci, fg_wr_s, ← hA, fg_gd_t, vA]
        by_cases c : nI (g_to H i) = nI a
        · rw [if_pos c] at r2
          rw [if_pos c, fg_gd_t, fg_wr_s, fn_add, r2]
        · rw [if_neg c] at r2
          rw [if_neg c, fg_gd_t, fg_gd_t, fg_wr_s, fn_add, r2]
      have body : FX1_moveEnds_b2 x f (nI a) (nI b) (nI i, mu1) = some (.inl (nI (i + 1), bs_up mA (f + 4) i (.int (nI (rf_s a b (g_to H i)))))) := by
        unfold FX1_moveEnds_b2
        rw [e7, if_neg (fun w => z ((nI_leI (by omega) (by omega)).mp w)), gi, fg_gd_t, ci, v.1]
        by_cases c : nI (g_fr H i) = nI a
        · rw [if_pos c] at r1
          rw [← r1] at j35
          rw [if_pos c]
          exact j35
        · rw [if_neg c] at r1
          rw [← r1] at j35
          rw [if_neg c, fg_gd_t]
          exact j35
      refine Or.inl ⟨_, r - 1, body, by omega, i + 1, rfl, by omega, fun j hj => ?_, fun j j1 j2 => ?_, fun c c1 c2 => ?_⟩
      · show bs_iv (bs_up mA (f + 4) i (.int (nI (rf_s a b (g_to H i)))) (f + 3) j) = _ ∧ bs_iv (bs_up mA (f + 4) i (.int (nI (rf_s a b (g_to H i)))) (f + 4) j) = _
        rw [bs_up_f (by omega)]
        by_cases e : j = i
        · subst e
          rw [bs_up_eq, hA, bs_up_eq]
          exact ⟨rfl, rfl⟩
        · rw [bs_up_j e, hA, bs_up_j e, bs_up_f (by omega)]
          exact h1 j (by omega)
      · show bs_iv (bs_up mA (f + 4) i (.int (nI (rf_s a b (g_to H i)))) (f + 3) j) = _ ∧ bs_iv (bs_up mA (f + 4) i (.int (nI (rf_s a b (g_to H i)))) (f + 4) j) = _
        rw [bs_up_f (by omega), bs_up_j (by omega), hA, bs_up_j (by omega), bs_up_f (by omega)]
        exact h2 j (by omega) j2
      · show bs_up mA (f + 4) i (.int (nI (rf_s a b (g_to H i)))) c = _
        rw [bs_up_f c2, hA, bs_up_f c1]
        exact hf c c1 c2
  obtain ⟨m1, l1, l2, l3⟩ := L1
  obtain ⟨v6, v7, v8, v9, w1, w2, w3, w4, w5, w6⟩ := id hV
  have ea := g_en_le H a
  have eb := g_en_le H b
  have u6 : m1 (f + 6) = mu (f + 6) := l3 _ (by omega) (by omega)
  have gb : fg_in (nI b) 30 = true := fn_in (show b < 30 by omega) (by decide)
  have ga : fg_in (nI a) 30 = true := fn_in (show a < 30 by omega) (by decide)
  have cb : (nI b).toNatClampNeg = b := fn_cl (by omega)
  have ca : (nI a).toNatClampNeg = a := fn_cl (by omega)
  have rowp : ∀ p, bs_iv (mu (f + 6) p) = nI (g_en H p) → bs_iv (bs_up (bs_up m1 (f + 6) b (.int (nI (g_en H b + g_en H a)))) (f + 6) a (.int (nI 0)) (f + 6) p) = nI (g_en (rf_R H (rf_s a b)) p) := fun p hp => by
    rw [rf_en H hn]
    by_cases c : p = a
    · subst c
      rw [bs_up_eq, if_pos rfl]
      rfl
    · rw [bs_up_j c, if_neg c]
      by_cases d : p = b
      · subst d
        rw [bs_up_eq, if_pos rfl]
        rfl
      · rw [bs_up_j d, if_neg d, u6]
        exact hp
  refine ⟨bs_up (bs_up m1 (f + 6) b (.int (nI (g_en H b + g_en H a)))) (f + 6) a (.int (nI 0)), ?_, ?_, fun h p hp => rowp p (h p hp), fun k => by rw [bs_up_f (by omega), bs_up_f (by omega), l3 _ (by omega) (by omega)], fun c hc => by rw [bs_up_f (by omega), bs_up_f (by omega), l3 _ (by omega) (by omega)]⟩
  · unfold FX1_moveEnds
    rw [l1, fg_bd_s, gb, ga, fg_gd_t, fg_gd_t, fg_gd_t, cb, ca, u6, w6 b hb, w6 a ha, fn_add, fg_wr_s, fg_gd_t, fg_wr_s]
  · have nf : ∀ c v w, c ≠ f + 6 → bs_up (bs_up m1 (f + 6) b v) (f + 6) a w c = m1 c := fun c v w hc => by rw [bs_up_f hc, bs_up_f hc]
    have n0 : ∀ c v w, c ≠ f + 6 → c ≠ f + 3 → c ≠ f + 4 → bs_up (bs_up m1 (f + 6) b v) (f + 6) a w c = mu c := fun c v w h1 h2 h3 => by rw [nf c v w h1, l3 c h2 h3]
    refine ⟨by rw [n0 _ _ _ (by omega) (by omega) (by omega)]; exact v6, by rw [n0 _ _ _ (by omega) (by omega) (by omega)]; exact v7, by rw [n0 _ _ _ (by omega) (by omega) (by omega)]; exact v8, by rw [n0 _ _ _ (by omega) (by omega) (by omega)]; exact v9, w1.of (n0 _ _ _ (by omega) (by omega) (by omega)), w2.of (n0 _ _ _ (by omega) (by omega) (by omega)), fun j hj => by rw [nf _ _ _ (by omega)]; exact (l2 j hj).1, fun j hj => by rw [nf _ _ _ (by omega)]; exact (l2 j hj).2, w5.of (n0 _ _ _ (by omega) (by omega) (by omega)), fun p hp => rowp p (w6 p hp)⟩
theorem sf_ren {x p0 n0 n a b : Nat} {mu : bs_Mm} {v : Nat → Int32} (hn : n ≤ n0) (h0 : n0 ≤ 30) (hv : ∀ j, j < n → bs_iv (mu p0 j) = v j) : ∃ mu', FX2_renameIn x mu p0 n0 (nI n) (nI a) (nI b) = some mu' ∧ (∀ j, j < n → bs_iv (mu' p0 j) = if v j = nI a then nI b else v j) ∧ (∀ j, n ≤ j → mu' p0 j = mu p0 j) ∧ ∀ c, c ≠ p0 → mu' c = mu c := by
  have L1 : ∃ t, fg_lp (FX2_renameIn_b3 x n0 p0 (nI n) (nI a) (nI b)) fg_fu (nI 0, mu) = some t ∧ (∀ j, j < n → bs_iv (t p0 j) = if v j = nI a then nI b else v j) ∧ (∀ j, n ≤ j → t p0 j = mu p0 j) ∧ ∀ c, c ≠ p0 → t c = mu c := by
    refine fg_lp_i (body := FX2_renameIn_b3 x n0 p0 (nI n) (nI a) (nI b)) (fun r s => ∃ i, s.1 = nI i ∧ i + r = n ∧ (∀ j, j < i → bs_iv (s.2 p0 j) = if v j = nI a then nI b else v j) ∧ (∀ j, i ≤ j → j < n → bs_iv (s.2 p0 j) = v j) ∧ (∀ j, n ≤ j → s.2 p0 j = mu p0 j) ∧ ∀ c, c ≠ p0 → s.2 c = mu c) _ (fun r s hJ => ?_) fg_fu n (nI 0, mu) ⟨0, rfl, by omega, fun j hj => absurd hj (Nat.not_lt_zero j), fun j _ hj => hv j hj, fun _ _ => rfl, fun _ _ => rfl⟩ (fg_fu_lt (by omega))
    obtain ⟨iv, mu1⟩ := s
    obtain ⟨i, e1, hr, h1, h2, h3, hf⟩ := hJ
    have e1 : iv = nI i := e1
    subst e1
    have h1 : ∀ j, j < i → bs_iv (mu1 p0 j) = if v j = nI a then nI b else v j := h1
    have h2 : ∀ j, i ≤ j → j < n → bs_iv (mu1 p0 j) = v j := h2
    have h3 : ∀ j, n ≤ j → mu1 p0 j = mu p0 j := h3
    have hf : ∀ c, c ≠ p0 → mu1 c = mu c := hf
    by_cases z : n ≤ i
    · refine Or.inr ⟨mu1, ?_, fun j hj => h1 j (by omega), h3, hf⟩
      unfold FX2_renameIn_b3
      simp (disch := omega) only [fg_gd_t, fg_bd_s, fg_b2_s, fg_wr_s, fg_let_s, fn_add, fn_sub, fn_mul, fn_cl, fn_lt, fn_le, fn_eq, fn_eq0, fn_lt0, fn_0le, fn_0lt, fn_le0, fn_in, fn_shl, fn_shr, fa_and, fa_or, bs_xorI, if_true, if_false, if_pos z]
    · have w := h2 i (Nat.le_refl _) (by omega)
      have gi : fg_in (nI i) n0 = true := fn_in (show i < n0 by omega) (by omega)
      have ci : (nI i).toNatClampNeg = i := fn_cl (by omega)
      have body : FX2_renameIn_b3 x n0 p0 (nI n) (nI a) (nI b) (nI i, mu1) = some (.inl (nI (i + 1), bs_up mu1 p0 i (.int (if v i = nI a then nI b else v i)))) := by
        unfold FX2_renameIn_b3
        rw [if_neg (fun w => z ((nI_leI (by omega) (by omega)).mp w)), gi, fg_gd_t, ci, w]
        by_cases c : v i = nI a
        · rw [if_pos c, if_pos c, fg_gd_t, fg_wr_s, fn_add]
        · rw [if_neg c, if_neg c, fg_gd_t, fg_gd_t, fg_wr_s, fn_add]
      refine Or.inl ⟨_, r - 1, body, by omega, i + 1, rfl, by omega, fun j hj => ?_, fun j j1 j2 => ?_, fun j hj => ?_, fun c hc => (bs_up_f hc).trans (hf c hc)⟩
      · show bs_iv (bs_up mu1 p0 i (.int (if v i = nI a then nI b else v i)) p0 j) = _
        by_cases e : j = i
        · subst e
          rw [bs_up_eq]
          rfl
        · rw [bs_up_j e]
          exact h1 j (by omega)
      · show bs_iv (bs_up mu1 p0 i (.int (if v i = nI a then nI b else v i)) p0 j) = _
        rw [bs_up_j (by omega)]
        exact h2 j (by omega) j2
      · show bs_up mu1 p0 i (.int (if v i = nI a then nI b else v i)) p0 j = _
        rw [bs_up_j (by omega)]
        exact h3 j hj
  obtain ⟨m1, l1, l2⟩ := L1
  refine ⟨m1, ?_, l2⟩
  unfold FX2_renameIn
  rw [l1, fg_bd_s]
/-- what is read so far: the figure over raw points, roots, names, where one is, how deep, where the ( stood -/
abbrev rf_S : Type := bs_G × (Nat → Nat) × (Nat → Option Nat) × Nat × Nat × (Nat → Nat)
def rf_g (s : rf_S) : bs_G := s.1
def rf_r (s : rf_S) : Nat → Nat := s.2.1
def rf_n (s : rf_S) : Nat → Option Nat := s.2.2.1
def rf_w (s : rf_S) : Nat := s.2.2.2.1
def rf_d (s : rf_S) : Nat := s.2.2.2.2.1
def rf_k (s : rf_S) : Nat → Nat := s.2.2.2.2.2
def rf_ok (s : rf_S) : Prop := g_ok (rf_R (rf_g s) (rf_r s)) ∧ g_np (rf_g s) = g_nb (rf_g s) + g_nu (rf_g s) ∧ (∀ i, i < g_nu (rf_g s) → g_fr (rf_g s) i < g_np (rf_g s) ∧ g_to (rf_g s) i < g_np (rf_g s)) ∧ (∀ i p, i < 8 → rf_n s i = some p → p < g_np (rf_g s)) ∧ rf_w s < g_np (rf_g s) ∧ rf_d s ≤ 6 ∧ (∀ k, k < rf_d s → rf_k s k < g_np (rf_g s)) ∧ (∀ p, p < g_np (rf_g s) → rf_r s p ≤ p ∧ rf_r s (rf_r s p) = rf_r s p) ∧ (∀ i, i < g_nu (rf_g s) → 1 ≤ g_le (rf_g s) i ∧ g_le (rf_g s) i ≤ 30) ∧ (∀ i, i + 1 < g_nu (rf_g s) → g_bo (rf_g s) i = g_bo (rf_g s) (i + 1) → g_fr (rf_g s) (i + 1) = g_to (rf_g s) i) ∧ (∀ i, i + 1 = g_nu (rf_g s) → g_bo (rf_g s) i + 1 = g_nb (rf_g s) → rf_w s = g_to (rf_g s) i) ∧ 1 ≤ g_nb (rf_g s)
def rf_nv (r : Nat → Nat) (o : Option Nat) : Int32 := match o with | none => -1 | some p => nI (r p)
/-- how the class holds it -/
def rf_c (x : Nat) (s : rf_S) (mu : bs_Mm) : Prop := cFv (x + 10) (rf_R (rf_g s) (rf_r s)) mu ∧ (∀ p, p < 30 → bs_iv (mu (x + 17) p) = if p < g_np (rf_g s) ∧ rf_r s p ≠ p then -1 else nI 0) ∧ (∀ i, i < 8 → bs_iv (mu (x + 18) i) = rf_nv (rf_r s) (rf_n s i)) ∧ (∀ k, k < rf_d s → bs_iv (mu (x + 19) k) = nI (rf_r s (rf_k s k))) ∧ bs_iv (mu (x + 9) 6) = nI (rf_r s (rf_w s)) ∧ bs_iv (mu (x + 9) 7) = nI (rf_d s) ∧ ∀ p, p < 30 → bs_iv (mu (x + 16) p) = nI (g_en (rf_R (rf_g s) (rf_r s)) p)
/-- joined -/
def rf_m (r : Nat → Nat) (p q : Nat) (z : Nat) : Nat := rf_s (max (r p) (r q)) (min (r p) (r q)) (r z)
def rf_J (s : rf_S) (p q : Nat) : rf_S := (s.1, rf_m s.2.1 p q, s.2.2)
theorem rf_m_id {r : Nat → Nat} {p q : Nat} (h : r p = r q) : rf_m r p q = r := funext fun z => by
  unfold rf_m rf_s
  rw [h, Nat.max_self, Nat.min_self]
  split
  · rename_i e
    exact e.symm
  · rfl
theorem rf_m_ok {n p q : Nat} {r : Nat → Nat} (hr : ∀ p, p < n → r p ≤ p ∧ r (r p) = r p) (hp : p < n) (hq : q < n) : ∀ z, z < n → rf_m r p q z ≤ z ∧ rf_m r p q (rf_m r p q z) = rf_m r p q z := by
  intro z hz
  have a := hr p hp
  have b := hr q hq
  have c := hr z hz
  have mx : r (max (r p) (r q)) = max (r p) (r q) := by
    rcases Nat.le_total (r p) (r q) with h | h
    · rw [Nat.max_eq_right h]
      exact b.2
    · rw [Nat.max_eq_left h]
      exact a.2
  have mn : r (min (r p) (r q)) = min (r p) (r q) := by
    rcases Nat.le_total (r p) (r q) with h | h
    · rw [Nat.min_eq_left h]
      exact a.2
    · rw [Nat.min_eq_right h]
      exact b.2
  have le : min (r p) (r q) ≤ max (r p) (r q) := by omega
  unfold rf_m rf_s
  by_cases d : r z = max (r p) (r q)
  · rw [if_pos d]
    refine ⟨by omega, ?_⟩
    rw [mn]
    split <;> rfl
  · rw [if_neg d, c.2, if_neg d]
    exact ⟨c.1, rfl⟩
