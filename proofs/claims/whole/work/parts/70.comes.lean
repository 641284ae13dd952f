/-! COMES, and what bubble and guest answer (own), both sides -/
/-- a guest may come -/
def co_may (fc n : Nat) (T : Nat → Nat) (a b c : Int32) (t j p : Nat) : Prop := a = nI t ∧ b = nI j ∧ c = nI p ∧ t ≤ 9999 ∧ j < fc ∧ p ≤ 999 ∧ n < 30 ∧ (n = 0 ∨ T (n - 1) ≤ t)
def co_mu (r1 r2 r3 o k n t j p : Nat) (mu : bs_Mm) : bs_Mm := bs_up (bs_up (bs_up (bs_up mu r1 n (.int (nI t))) r2 n (.int (nI j))) r3 n (.int (nI p))) o k (.int (nI (n + 1)))
theorem co_inj {a b : Nat} (ha : a < 2 ^ 31) (hb : b < 2 ^ 31) (h : nI a = nI b) : a = b := (nI_eq ha hb).mp h
theorem sf_queueA {x n t j p : Nat} {mu : bs_Mm} (hn : bs_iv (mu (x + 50) 3) = nI n) (h30 : n < 30) : FX9_queue_j33 x mu (nI t) (nI j) (nI p) = some (nI n, co_mu (x + 56) (x + 57) (x + 58) (x + 50) 3 n t j p mu) := by
  unfold FX9_queue_j33 co_mu
  simp (disch := omega) only [fg_gd_t, fg_bd_s, fg_b2_s, fg_wr_s, fg_let_s, fn_add, fn_sub, fn_mul, fn_cl, fn_lt, fn_le, fn_eq, fn_eq0, fn_lt0, fn_0le, fn_0lt, fn_le0, fn_in, fn_shl, fn_shr, fa_and, fa_or, bs_xorI, if_true, if_false, hn, bs_up_f]
theorem sf_comes {x fc n : Nat} {T : Nat → Nat} {mu : bs_Mm} (hc : bs_iv (mu x 13) = nI fc) (hf : fc ≤ 12) (hn : bs_iv (mu (x + 50) 3) = nI n) (h30 : n ≤ 30) (hT : bs_rw mu (x + 56) n T) (hb : ∀ i, i < n → T i ≤ 9999) (a b c : Int32) : ((∀ t j p, ¬ co_may fc n T a b c t j p) ∧ FX11_comes x mu a b c = some (-1, mu)) ∨ ∃ t j p, co_may fc n T a b c t j p ∧ FX11_comes x mu a b c = some (nI n, co_mu (x + 56) (x + 57) (x + 58) (x + 50) 3 n t j p mu) := by
  unfold FX11_comes
  rcases fn_any (n := fc) b (by omega) with h | ⟨j, hj, rfl⟩
  · refine Or.inl ⟨fun t j p z => ?_, by rw [sf_figN hc h]; rfl⟩
    obtain ⟨-, z2, -, -, z5, -⟩ := z
    subst z2
    rcases h with h | h
    · rw [fn_lt0 (by omega)] at h; exact h
    · rw [fn_le (by omega) (by omega)] at h; omega
  rw [sf_figY hc hf hj, fg_bd_s, fg_oq_s, fg_isF_y (by omega), fg_gd_t]
  rcases fn_any (n := 10000) a (by decide) with h | ⟨t, ht, rfl⟩
  · refine Or.inl ⟨fun t j p z => ?_, ?_⟩
    · obtain ⟨z1, -, -, z4, -⟩ := z
      subst z1
      rcases h with h | h
      · rw [fn_lt0 (by omega)] at h; exact h
      · rw [fn_le (by omega) (by omega)] at h; omega
    · by_cases z : a < 0
      · rw [if_pos z]
      · have z2 : nI 9999 < a := by
          have := Int32.le_iff_toInt_le.mp (h.resolve_left z)
          rw [Int32.lt_iff_toInt_lt]
          rw [nI_toInt (by decide)] at this ⊢
          omega
        rw [if_neg z, if_pos z2]
  rcases fn_any (n := 1000) c (by decide) with h | ⟨p, hp, rfl⟩
  · refine Or.inl ⟨fun t j p z => ?_, ?_⟩
    · obtain ⟨-, -, z3, -, -, z6, -⟩ := z
      subst z3
      rcases h with h | h
      · rw [fn_lt0 (by omega)] at h; exact h
      · rw [fn_le (by omega) (by omega)] at h; omega
    · simp (disch := omega) only [fg_gd_t, fg_bd_s, fg_b2_s, fg_wr_s, fg_let_s, fn_add, fn_sub, fn_mul, fn_cl, fn_lt, fn_le, fn_eq, fn_eq0, fn_lt0, fn_0le, fn_0lt, fn_le0, fn_in, fn_shl, fn_shr, fa_and, fa_or, bs_xorI, if_true, if_false, if_neg (show ¬ 9999 < t by omega)]
      by_cases z : c < 0
      · rw [if_pos z]
      · have z2 : ¬ c ≤ nI 999 := by
          intro y
          have := Int32.le_iff_toInt_le.mp (h.resolve_left z)
          have y := Int32.le_iff_toInt_le.mp y
          rw [nI_toInt (by decide)] at this y
          omega
        rw [if_neg z, if_neg z2]
  · simp (disch := omega) only [fg_gd_t, fg_bd_s, fg_b2_s, fg_wr_s, fg_let_s, fn_add, fn_sub, fn_mul, fn_cl, fn_lt, fn_le, fn_eq, fn_eq0, fn_lt0, fn_0le, fn_0lt, fn_le0, fn_in, fn_shl, fn_shr, fa_and, fa_or, bs_xorI, if_true, if_false, if_neg (show ¬ 9999 < t by omega), if_pos (show p ≤ 999 by omega)]
    unfold FX9_queue
    by_cases z : n = 30
    · refine Or.inl ⟨fun t' j' p' y => by have := y.2.2.2.2.2.2.1; omega, ?_⟩
      simp (disch := omega) only [fg_gd_t, fg_bd_s, fg_b2_s, fg_wr_s, fg_let_s, fn_add, fn_sub, fn_mul, fn_cl, fn_lt, fn_le, fn_eq, fn_eq0, fn_lt0, fn_0le, fn_0lt, fn_le0, fn_in, fn_shl, fn_shr, fa_and, fa_or, bs_xorI, if_true, if_false, hn, if_pos (show 30 ≤ n by omega)]
    · by_cases z0 : n = 0
      · refine Or.inr ⟨t, j, p, ⟨rfl, rfl, rfl, by omega, hj, by omega, by omega, Or.inl z0⟩, ?_⟩
        simp (disch := omega) only [fg_gd_t, fg_bd_s, fg_b2_s, fg_wr_s, fg_let_s, fn_add, fn_sub, fn_mul, fn_cl, fn_lt, fn_le, fn_eq, fn_eq0, fn_lt0, fn_0le, fn_0lt, fn_le0, fn_in, fn_shl, fn_shr, fa_and, fa_or, bs_xorI, if_true, if_false, hn, if_neg (show ¬ 30 ≤ n by omega), if_pos z0, sf_queueA hn (show n < 30 by omega)]
      · have r := hT (n - 1) (by omega)
        have rb := hb (n - 1) (by omega)
        by_cases y : T (n - 1) ≤ t
        · refine Or.inr ⟨t, j, p, ⟨rfl, rfl, rfl, by omega, hj, by omega, by omega, Or.inr y⟩, ?_⟩
          simp (disch := omega) only [fg_gd_t, fg_bd_s, fg_b2_s, fg_wr_s, fg_let_s, fn_add, fn_sub, fn_mul, fn_cl, fn_lt, fn_le, fn_eq, fn_eq0, fn_lt0, fn_0le, fn_0lt, fn_le0, fn_in, fn_shl, fn_shr, fa_and, fa_or, bs_xorI, if_true, if_false, hn, if_neg (show ¬ 30 ≤ n by omega), if_neg z0, r, if_pos y, sf_queueA hn (show n < 30 by omega)]
        · refine Or.inl ⟨fun t' j' p' w => ?_, ?_⟩
          · have e := co_inj (by omega) (by have := w.2.2.2.1; omega) w.1
            rcases w.2.2.2.2.2.2.2 with w | w
            · omega
            · omega
          · simp (disch := omega) only [fg_gd_t, fg_bd_s, fg_b2_s, fg_wr_s, fg_let_s, fn_add, fn_sub, fn_mul, fn_cl, fn_lt, fn_le, fn_eq, fn_eq0, fn_lt0, fn_0le, fn_0lt, fn_le0, fn_in, fn_shl, fn_shr, fa_and, fa_or, bs_xorI, if_true, if_false, hn, if_neg (show ¬ 30 ≤ n by omega), if_neg z0, r, if_neg y]
theorem tf_comesA {m n t j p : Nat} {lo : Nat} {mu : bs_Mm} (hn : bs_iv (mu m 45) = nI n) (h30 : n < 30) (ht : t ≤ 9999) (hl : lo ≤ t) (hp : p ≤ 999) : FX12_comes_j31 m mu (nI t) (nI j) (nI p) (nI t) (nI lo) = some (nI n, co_mu (m + 28) (m + 29) (m + 30) m 45 n t j p mu) := by
  unfold FX12_comes_j31 co_mu
  rw [tf_inY hl ht (by decide), fg_bd_s, if_neg (by decide), tf_inY (Nat.zero_le _) hp (by decide), fg_bd_s, if_neg (by decide)]
  simp (disch := omega) only [fg_gd_t, fg_bd_s, fg_b2_s, fg_wr_s, fg_let_s, fn_add, fn_sub, fn_mul, fn_cl, fn_lt, fn_le, fn_eq, fn_eq0, fn_lt0, fn_0le, fn_0lt, fn_le0, fn_in, fn_shl, fn_shr, fa_and, fa_or, bs_xorI, if_true, if_false, hn, if_neg (show ¬ n = 30 by omega), bs_up_f, bs_up_eq, bs_iv_i, Nat.add_sub_cancel]
theorem tf_comes {m fc n : Nat} {T : Nat → Nat} {mu : bs_Mm} (hc : bs_iv (mu m 20) = nI fc) (hf : fc ≤ 12) (hn : bs_iv (mu m 45) = nI n) (h30 : n ≤ 30) (hT : bs_rw mu (m + 28) n T) (hb : ∀ i, i < n → T i ≤ 9999) (a b c : Int32) : ((∀ t j p, ¬ co_may fc n T a b c t j p) ∧ FX12_comes m mu a b c = some (-1, mu)) ∨ ∃ t j p, co_may fc n T a b c t j p ∧ FX12_comes m mu a b c = some (nI n, co_mu (m + 28) (m + 29) (m + 30) m 45 n t j p mu) := by
  unfold FX12_comes
  rcases fn_any (n := fc) b (by omega) with h | ⟨j, hj, rfl⟩
  · refine Or.inl ⟨fun t j p z => ?_, by rw [tf_figN hc hf h]; rfl⟩
    obtain ⟨-, z2, -, -, z5, -⟩ := z
    subst z2
    rcases h with h | h
    · rw [fn_lt0 (by omega)] at h; exact h
    · rw [fn_le (by omega) (by omega)] at h; omega
  rw [tf_figY hc hf hj, fg_bd_s, if_neg (by decide)]
  -- the least tick
  have key : ∀ lo, lo ≤ 9999 → (∀ t, lo ≤ t ↔ (n = 0 ∨ T (n - 1) ≤ t)) → ((∀ t j' p, ¬ co_may fc n T a (nI j) c t j' p) ∧ FX12_comes_j31 m mu a (nI j) c a (nI lo) = some (-1, mu)) ∨ ∃ t j' p, co_may fc n T a (nI j) c t j' p ∧ FX12_comes_j31 m mu a (nI j) c a (nI lo) = some (nI n, co_mu (m + 28) (m + 29) (m + 30) m 45 n t j' p mu) := by
    intro lo hlo hlt
    have no : ∀ v, (∀ t j' p, ¬ co_may fc n T a (nI j) c t j' p) → FX12_comes_j31 m mu a (nI j) c a (nI lo) = some v → v = (-1, mu) → ((∀ t j' p, ¬ co_may fc n T a (nI j) c t j' p) ∧ FX12_comes_j31 m mu a (nI j) c a (nI lo) = some (-1, mu)) := fun v h1 h2 h3 => ⟨h1, by rw [h2, h3]⟩
    by_cases h1 : bs_in a (nI lo) (nI 9999) = 1
    · obtain ⟨t, rfl, t1, t2⟩ := bs_in_nat h1 (by rw [fn_0le (by omega)]; trivial)
      rw [nI_toInt (by omega)] at t1
      rw [nI_toInt (by decide)] at t2
      have ht : t ≤ 9999 := by omega
      have htl : lo ≤ t := by omega
      by_cases h2 : bs_in c (nI 0) (nI 999) = 1
      · obtain ⟨p, rfl, p1, p2⟩ := bs_in_nat h2 (by decide)
        rw [nI_toInt (by decide)] at p2
        have hp : p ≤ 999 := by omega
        by_cases z : n = 30
        · refine Or.inl (no _ (fun t' j' p' y => by have := y.2.2.2.2.2.2.1; omega) ?_ rfl)
          unfold FX12_comes_j31
          rw [tf_inY htl ht (by decide), fg_bd_s, if_neg (by decide), tf_inY (Nat.zero_le _) hp (by decide), fg_bd_s, if_neg (by decide), hn, if_pos (by rw [z])]
        · exact Or.inr ⟨t, j, p, ⟨rfl, rfl, rfl, ht, hj, hp, by omega, (hlt t).mp htl⟩, tf_comesA hn (by omega) ht htl hp⟩
      · refine Or.inl (no _ (fun t' j' p' y => ?_) ?_ rfl)
        · apply h2
          rw [y.2.2.1, bs_in, if_pos ⟨(nI_leI (by decide) (by have := y.2.2.2.2.2.1; omega)).mpr (Nat.zero_le _), (nI_leI (by have := y.2.2.2.2.2.1; omega) (by decide)).mpr y.2.2.2.2.2.1⟩]
        · unfold FX12_comes_j31
          have h2' : bs_in c (nI 0) (nI 999) = 0 := by
            unfold bs_in at h2 ⊢
            split at h2
            · exact absurd rfl h2
            · rename_i q; rw [if_neg q]
          rw [tf_inY htl ht (by decide), fg_bd_s, if_neg (by decide), tf_in, h2', fg_bd_s, if_pos rfl]
    · refine Or.inl (no _ (fun t' j' p' y => ?_) ?_ rfl)
      · apply h1
        have y4 := y.2.2.2.1
        rw [y.1, bs_in, if_pos ⟨(nI_leI (by omega) (by omega)).mpr ((hlt t').mpr y.2.2.2.2.2.2.2), (nI_leI (by omega) (by decide)).mpr y4⟩]
      · unfold FX12_comes_j31
        have h1' : bs_in a (nI lo) (nI 9999) = 0 := by
          unfold bs_in at h1 ⊢
          split at h1
          · exact absurd rfl h1
          · rename_i q; rw [if_neg q]
        rw [tf_in, h1', fg_bd_s, if_pos rfl]
  by_cases z0 : n = 0
  · simp (disch := omega) only [fg_gd_t, fg_bd_s, fg_b2_s, fg_wr_s, fg_let_s, fn_add, fn_sub, fn_mul, fn_cl, fn_lt, fn_le, fn_eq, fn_eq0, fn_lt0, fn_0le, fn_0lt, fn_le0, fn_in, fn_shl, fn_shr, fa_and, fa_or, bs_xorI, if_true, if_false, hn, if_pos z0]
    exact key 0 (by decide) (fun t => ⟨fun _ => Or.inl z0, fun _ => Nat.zero_le _⟩)
  · have r := hT (n - 1) (by omega)
    have rb := hb (n - 1) (by omega)
    simp (disch := omega) only [fg_gd_t, fg_bd_s, fg_b2_s, fg_wr_s, fg_let_s, fn_add, fn_sub, fn_mul, fn_cl, fn_lt, fn_le, fn_eq, fn_eq0, fn_lt0, fn_0le, fn_0lt, fn_le0, fn_in, fn_shl, fn_shr, fa_and, fa_or, bs_xorI, if_true, if_false, hn, if_neg z0, r]
    exact key (T (n - 1)) rb (fun t => ⟨fun h => Or.inr h, fun h => h.resolve_left z0⟩)
/-- what bubble tells -/
def k_bub (G : bs_G) (b k : Nat) : Nat := if k = 0 then g_le G b else if k = 1 then g_fr G b else if k = 2 then g_to G b else if k = 3 then g_bo G b else g_so G (g_bo G b)
theorem sf_bub {x fc j b k : Nat} {FG : Nat → bs_G} {mu : bs_Mm} (hF : cFG x fc FG mu) (hj : j < fc) (hb : b < g_nu (FG j)) (hk : k < 5) : FX11_bubble x mu (nI j) (nI b) (nI k) = some (nI (k_bub (FG j) b k)) := by
  have hf := hF.1
  have hV := (hF.2.2 j hj).2
  have hG := (hF.2.2 j hj).1
  have q0 := g_bn hG
  have d := g_bd hG hb
  unfold FX11_bubble
  rw [sf_figY hF.2.1 hf hj, fg_bd_s, fg_oq_s, fg_isF_y (by omega), fg_gd_t, sf_hasBY hV hG hb, fg_bd_s, if_neg (by decide)]
  simp (disch := omega) only [fg_gd_t, fg_bd_s, fg_b2_s, fg_wr_s, fg_let_s, fn_add, fn_sub, fn_mul, fn_cl, fn_lt, fn_le, fn_eq, fn_eq0, fn_lt0, fn_0le, fn_0lt, fn_le0, fn_in, fn_shl, fn_shr, fa_and, fa_or, bs_xorI, if_true, if_false, hV.2.2.2.2.2.1 b hb, hV.2.2.2.2.2.2.1 b hb, hV.2.2.2.2.2.2.2.1 b hb, hV.2.2.2.2.2.2.2.2.1 b hb, hV.2.2.2.2.1 (g_bo (FG j) b) (by omega)]
  unfold k_bub
  have : k = 0 ∨ k = 1 ∨ k = 2 ∨ k = 3 ∨ k = 4 := by omega
  rcases this with rfl | rfl | rfl | rfl | rfl <;> rfl
theorem tf_bubA {m fc g b k : Nat} {FG : Nat → bs_G} {mu : bs_Mm} (hF : mFG m fc FG mu) (hg : g < fc) (hb : b < g_nu (FG g)) (hk : k < 5) : FX12_bubble_ m mu (nI g) (nI b) (nI k) = some (nI (k_bub (FG g) b k), bs_up mu m 0 (.int (nI 0))) := by
  have hf := hF.1
  have hV := (hF.2.2 g hg).2
  have hG := (hF.2.2 g hg).1
  have q0 := g_bn hG
  have d := g_bd hG hb
  unfold FX12_bubble_ FX12_bubble__j24
  rw [tf_bubY hF hg hb, fg_bd_s, if_neg (by decide), tf_inY (Nat.zero_le _) (show k ≤ 4 by omega) (by decide), fg_bd_s, if_neg (by decide)]
  simp (disch := omega) only [fg_gd_t, fg_bd_s, fg_b2_s, fg_wr_s, fg_let_s, fn_add, fn_sub, fn_mul, fn_cl, fn_lt, fn_le, fn_eq, fn_eq0, fn_lt0, fn_0le, fn_0lt, fn_le0, fn_in, fn_shl, fn_shr, fa_and, fa_or, bs_xorI, if_true, if_false, bs_up_eq, bs_iv_i, bs_up_f, hV.2.2.2.2.2.1 b hb, hV.2.2.2.2.2.2.1 b hb, hV.2.2.2.2.2.2.2.1 b hb, hV.2.2.2.2.2.2.2.2 b hb, hV.2.2.2.2.1 (g_bo (FG g) b) (by omega)]
  unfold k_bub
  have : k = 0 ∨ k = 1 ∨ k = 2 ∨ k = 3 ∨ k = 4 := by omega
  rcases this with rfl | rfl | rfl | rfl | rfl <;> rfl
theorem tf_bubT {m : Nat} {mu : bs_Mm} {a b w : Int32} (h : FX12_isBubble m mu a b = some 0 ∨ (FX12_isBubble m mu a b = some 1 ∧ FX12_in m mu w (nI 0) (nI 4) = some 0)) : FX12_bubble_ m mu a b w = some (nI 0, bs_up mu m 0 (.int (nI 1))) := by
  unfold FX12_bubble_ FX12_bubble__j23 FX12_bubble__j24
  rcases h with h | ⟨h, h2⟩
  · rw [h, fg_bd_s, if_pos rfl]
    simp (disch := omega) only [fg_gd_t, fg_bd_s, fg_b2_s, fg_wr_s, fg_let_s, fn_add, fn_sub, fn_mul, fn_cl, fn_lt, fn_le, fn_eq, fn_eq0, fn_lt0, fn_0le, fn_0lt, fn_le0, fn_in, fn_shl, fn_shr, fa_and, fa_or, bs_xorI, if_true, if_false, bs_up_eq, bs_iv_i]
  · rw [h, fg_bd_s, if_neg (by decide), h2, fg_bd_s, if_pos rfl]
    simp (disch := omega) only [fg_gd_t, fg_bd_s, fg_b2_s, fg_wr_s, fg_let_s, fn_add, fn_sub, fn_mul, fn_cl, fn_lt, fn_le, fn_eq, fn_eq0, fn_lt0, fn_0le, fn_0lt, fn_le0, fn_in, fn_shl, fn_shr, fa_and, fa_or, bs_xorI, if_true, if_false, bs_up_eq, bs_iv_i]
