/-! ADDED of the class (own) -/
theorem sf_joined {x n p q r : Nat} {mu : bs_Mm} (hn : n ≤ 30) (hq : q < 30) (hr : r < 30) : FX1_joinedNumber x mu (nI r) (nI n) (nI p) (nI q) = some (nI (ad_j n p q r)) := by
  unfold FX1_joinedNumber ad_j
  by_cases e : r = q
  · subst e
    rw [if_pos rfl, if_pos rfl]
  · rw [if_neg (fun h => e ((nI_eq (by omega) (by omega)).mp h)), if_neg e]
    by_cases d : q < r
    · rw [if_neg (fun h => by have := (nI_leI (show r < 2 ^ 31 by omega) (by omega)).mp h; omega), if_pos d, fn_add, fn_sub (by omega)]
    · rw [if_pos ((nI_leI (show r < 2 ^ 31 by omega) (by omega)).mpr (by omega)), if_neg d, fn_add, fn_sub (by omega)]
set_option maxHeartbeats 1000000 in
theorem sf_joA {x f p1 p2 : Nat} {P Q : Nat} {mu : bs_Mm} {A B : bs_G} (hA : g_iv A) (hB : g_iv B) (hP : P < g_np A) (hQ : Q < g_np B) (h24 : g_nu A + g_nu B ≤ 24) (h6 : g_nb A + g_nb B ≤ 6) (d1 : f + 6 < p1 ∨ p1 + 6 < f) (d2 : f + 6 < p2 ∨ p2 + 6 < f) (hVA : cFv p1 A mu) (hVB : cFv p2 B mu) (h0 : cFv f (g_pq (ad_T A B P Q) 0 0) mu) : ∃ mu', fg_lp (FX1_joinTwo_b25 x f p1 p2 (nI P) (nI Q)) fg_fu (nI 0, nI 0, mu) = some mu' ∧ cFv f (g_pq (ad_T A B P Q) (g_nb A) (g_nu A)) mu' ∧ ∀ a, (a < f ∨ f + 6 < a) → mu' a = mu a := by
  have oT := (ad_iv hA hB hP hQ h24 h6).1
  have a0 := g_bn hA.1
  have nT : g_nu (ad_T A B P Q) = g_nu A + g_nu B := rfl
  have bT : g_nb (ad_T A B P Q) = g_nb A + g_nb B := rfl
  refine fg_lp_i (body := FX1_joinTwo_b25 x f p1 p2 (nI P) (nI Q)) (fun r s => ∃ b n, s.1 = nI n ∧ s.2.1 = nI b ∧ b + r = g_nb A ∧ n ≤ g_nu A ∧ (∀ i, i < n → g_bo A i < b) ∧ (∀ i, n ≤ i → i < g_nu A → b ≤ g_bo A i) ∧ cFv f (g_pq (ad_T A B P Q) b n) s.2.2 ∧ ∀ a, (a < f ∨ f + 6 < a) → s.2.2 a = mu a) _ (fun r s hJ => ?_) fg_fu (g_nb A) (nI 0, nI 0, mu) ⟨0, 0, rfl, rfl, by omega, Nat.zero_le _, fun i hi => absurd hi (Nat.not_lt_zero i), fun i _ _ => Nat.zero_le _, h0, fun _ _ => rfl⟩ (fg_fu_lt (by omega))
  obtain ⟨nv, bv, mu1⟩ := s
  obtain ⟨b, n, e1, e2, hr, hn, h1, h2, h5, hf⟩ := hJ
  have e1 : nv = nI n := e1
  have e2 : bv = nI b := e2
  subst e1
  subst e2
  have h5 : cFv f (g_pq (ad_T A B P Q) b n) mu1 := h5
  have hf : ∀ a, (a < f ∨ f + 6 < a) → mu1 a = mu a := hf
  have hV1 : cFv p1 A mu1 := cFv_of hVA fun k hk => hf _ (by omega)
  by_cases z : g_nb A ≤ b
  · have eb : b = g_nb A := by omega
    subst eb
    have en : n = g_nu A := by
      by_cases y : n < g_nu A
      · have := h2 n (Nat.le_refl _) y
        have := g_bd hA.1 y
        omega
      · omega
    subst en
    refine Or.inr ⟨mu1, ?_, h5, hf⟩
    unfold FX1_joinTwo_b25
    simp (disch := omega) only [fg_gd_t, fg_bd_s, fg_b2_s, fg_wr_s, fg_let_s, fn_add, fn_sub, fn_mul, fn_cl, fn_lt, fn_le, fn_eq, fn_eq0, fn_lt0, fn_0le, fn_0lt, fn_le0, fn_in, fn_shl, fn_shr, fa_and, fa_or, bs_xorI, if_true, if_false, hV1.1, if_pos z]
  · have hb : b < g_nb A := by omega
    obtain ⟨m6, s1, s2, s3⟩ := sf_stT (x := x) oT h5 (show b < g_nb (ad_T A B P Q) by rw [bT]; omega)
    have eso : g_so (ad_T A B P Q) b = g_so A b := ad_l hb
    rw [eso] at s1
    have hV6 : cFv p1 A m6 := cFv_of hV1 fun k hk => by rw [s3 _ (by omega)]
    have inner : ∃ t, fg_lp (FX1_joinTwo_b45_L25 x f p1 p2 (nI P) (nI Q) (nI b)) fg_fu (nI n, m6) = some t ∧ ∃ n1, t.1 = nI n1 ∧ n1 ≤ g_nu A ∧ (∀ i, i < n1 → g_bo A i < b + 1) ∧ (∀ i, n1 ≤ i → i < g_nu A → b + 1 ≤ g_bo A i) ∧ cFv f (g_pq (ad_T A B P Q) (b + 1) n1) t.2 ∧ ∀ a, (a < f ∨ f + 6 < a) → t.2 a = mu a := by
      refine fg_lp_i (body := FX1_joinTwo_b45_L25 x f p1 p2 (nI P) (nI Q) (nI b)) (fun r s => ∃ k, s.1 = nI k ∧ k + r = g_nu A ∧ n ≤ k ∧ (∀ i, i < k → g_bo A i < b + 1) ∧ cFv f (g_pq (ad_T A B P Q) (b + 1) k) s.2 ∧ ∀ a, (a < f ∨ f + 6 < a) → s.2 a = mu a) _ (fun r s hJ => ?_) fg_fu (g_nu A - n) (nI n, m6) ⟨n, rfl, by omega, Nat.le_refl _, fun i hi => by have := h1 i hi; omega, s2, fun a ha => (s3 a ha).trans (hf a ha)⟩ (fg_fu_lt (by omega))
      obtain ⟨kv, mu2⟩ := s
      obtain ⟨k, e1, hr2, hk, hB2, hV2, hf2⟩ := hJ
      have e1 : kv = nI k := e1
      subst e1
      have hV2 : cFv f (g_pq (ad_T A B P Q) (b + 1) k) mu2 := hV2
      have hf2 : ∀ a, (a < f ∨ f + 6 < a) → mu2 a = mu a := hf2
      have W : cFv p1 A mu2 := cFv_of hVA fun i hi => hf2 _ (by omega)
      by_cases y : g_nu A ≤ k
      · refine Or.inr ⟨(nI k, mu2), ?_, k, rfl, by omega, hB2, fun i i1 i2 => by omega, hV2, hf2⟩
        unfold FX1_joinTwo_b45_L25
        simp (disch := omega) only [fg_gd_t, fg_bd_s, fg_b2_s, fg_wr_s, fg_let_s, fn_add, fn_sub, fn_mul, fn_cl, fn_lt, fn_le, fn_eq, fn_eq0, fn_lt0, fn_0le, fn_0lt, fn_le0, fn_in, fn_shl, fn_shr, fa_and, fa_or, bs_xorI, if_true, if_false, W.2.1, if_pos y]
      · have hk1 : k < g_nu A := by omega
        have bo1 := W.2.2.2.2.2.2.2.2.1 k hk1
        have b1 := g_bd hA.1 hk1
        by_cases w : g_bo A k = b
        · have q := ad_fa (A := A) (B := B) (p := P) (q := Q) hk1
          obtain ⟨mu3, k1, k2, k3⟩ := sf_mkT (x := x) oT hV2 (show k < g_nu (ad_T A B P Q) by rw [nT]; omega) (show b + 1 ≤ g_nb (ad_T A B P Q) by rw [bT]; omega) (by rw [q.2.2.2, w]) (fun i hi => by rw [(ad_fa (show i < g_nu A by omega)).2.2.2]; exact hB2 i hi)
          rw [q.1, q.2.1, q.2.2.1] at k1
          refine Or.inl ⟨(nI (k + 1), mu3), r - 1, ?_, by omega, k + 1, rfl, by omega, by omega, fun i hi => ?_, k2, fun a ha => (k3 a ha).trans (hf2 a ha)⟩
          · unfold FX1_joinTwo_b45_L25
            simp (disch := omega) only [fg_gd_t, fg_bd_s, fg_b2_s, fg_wr_s, fg_let_s, fn_add, fn_sub, fn_mul, fn_cl, fn_lt, fn_le, fn_eq, fn_eq0, fn_lt0, fn_0le, fn_0lt, fn_le0, fn_in, fn_shl, fn_shr, fa_and, fa_or, bs_xorI, if_true, if_false, W.2.1, if_neg y, bo1, w, W.2.2.2.2.2.1 k hk1, W.2.2.2.2.2.2.1 k hk1, W.2.2.2.2.2.2.2.1 k hk1, k1]
          · by_cases e : i = k
            · subst e
              omega
            · exact hB2 i (by omega)
        · have m1 := h2 k hk hk1
          refine Or.inr ⟨(nI k, mu2), ?_, k, rfl, by omega, hB2, fun i i1 i2 => ?_, hV2, hf2⟩
          · unfold FX1_joinTwo_b45_L25
            simp (disch := omega) only [fg_gd_t, fg_bd_s, fg_b2_s, fg_wr_s, fg_let_s, fn_add, fn_sub, fn_mul, fn_cl, fn_lt, fn_le, fn_eq, fn_eq0, fn_lt0, fn_0le, fn_0lt, fn_le0, fn_in, fn_shl, fn_shr, fa_and, fa_or, bs_xorI, if_true, if_false, W.2.1, if_neg y, bo1, if_neg w]
          · have := g_bo_ml hA.1 i1 i2
            omega
    obtain ⟨⟨tv, m7⟩, t1, n1, t2, t3, t4, t5, t6, t7⟩ := inner
    have t2 : tv = nI n1 := t2
    subst t2
    refine Or.inl ⟨(nI n1, nI (b + 1), m7), r - 1, ?_, by omega, b + 1, n1, rfl, rfl, by omega, t3, t4, t5, t6, t7⟩
    unfold FX1_joinTwo_b25
    simp (disch := omega) only [fg_gd_t, fg_bd_s, fg_b2_s, fg_wr_s, fg_let_s, fn_add, fn_sub, fn_mul, fn_cl, fn_lt, fn_le, fn_eq, fn_eq0, fn_lt0, fn_0le, fn_0lt, fn_le0, fn_in, fn_shl, fn_shr, fa_and, fa_or, bs_xorI, if_true, if_false, hV1.1, if_neg z, hV1.2.2.2.2.1 b hb, s1, t1]
set_option maxHeartbeats 1000000 in
theorem sf_joB {x f p1 p2 : Nat} {P Q : Nat} {mu : bs_Mm} {A B : bs_G} (hA : g_iv A) (hB : g_iv B) (hP : P < g_np A) (hQ : Q < g_np B) (h24 : g_nu A + g_nu B ≤ 24) (h6 : g_nb A + g_nb B ≤ 6) (d1 : f + 6 < p1 ∨ p1 + 6 < f) (d2 : f + 6 < p2 ∨ p2 + 6 < f) (hVA : cFv p1 A mu) (hVB : cFv p2 B mu) (h0 : cFv f (g_pq (ad_T A B P Q) (g_nb A) (g_nu A)) mu) : ∃ mu', fg_lp (FX1_joinTwo_b109 x f p1 p2 (nI P) (nI Q)) fg_fu (nI 0, nI 0, mu) = some mu' ∧ cFv f (ad_T A B P Q) mu' ∧ ∀ a, (a < f ∨ f + 6 < a) → mu' a = mu a := by
  have oT := (ad_iv hA hB hP hQ h24 h6).1
  have a0 := g_bn hA.1
  have b0 := g_bn hB.1
  have nT : g_nu (ad_T A B P Q) = g_nu A + g_nu B := rfl
  have bT : g_nb (ad_T A B P Q) = g_nb A + g_nb B := rfl
  refine fg_lp_i (body := FX1_joinTwo_b109 x f p1 p2 (nI P) (nI Q)) (fun r s => ∃ b n, s.1 = nI n ∧ s.2.1 = nI b ∧ b + r = g_nb B ∧ n ≤ g_nu B ∧ (∀ i, i < n → g_bo B i < b) ∧ (∀ i, n ≤ i → i < g_nu B → b ≤ g_bo B i) ∧ cFv f (g_pq (ad_T A B P Q) (g_nb A + b) (g_nu A + n)) s.2.2 ∧ ∀ a, (a < f ∨ f + 6 < a) → s.2.2 a = mu a) _ (fun r s hJ => ?_) fg_fu (g_nb B) (nI 0, nI 0, mu) ⟨0, 0, rfl, rfl, by omega, Nat.zero_le _, fun i hi => absurd hi (Nat.not_lt_zero i), fun i _ _ => Nat.zero_le _, h0, fun _ _ => rfl⟩ (fg_fu_lt (by omega))
  obtain ⟨nv, bv, mu1⟩ := s
  obtain ⟨b, n, e1, e2, hr, hn, h1, h2, h5, hf⟩ := hJ
  have e1 : nv = nI n := e1
  have e2 : bv = nI b := e2
  subst e1
  subst e2
  have h5 : cFv f (g_pq (ad_T A B P Q) (g_nb A + b) (g_nu A + n)) mu1 := h5
  have hf : ∀ a, (a < f ∨ f + 6 < a) → mu1 a = mu a := hf
  have hV1 : cFv p2 B mu1 := cFv_of hVB fun k hk => hf _ (by omega)
  by_cases z : g_nb B ≤ b
  · have eb : b = g_nb B := by omega
    subst eb
    have en : n = g_nu B := by
      by_cases y : n < g_nu B
      · have := h2 n (Nat.le_refl _) y
        have := g_bd hB.1 y
        omega
      · omega
    subst en
    rw [ad_pqT] at h5
    refine Or.inr ⟨mu1, ?_, h5, hf⟩
    unfold FX1_joinTwo_b109
    simp (disch := omega) only [fg_gd_t, fg_bd_s, fg_b2_s, fg_wr_s, fg_let_s, fn_add, fn_sub, fn_mul, fn_cl, fn_lt, fn_le, fn_eq, fn_eq0, fn_lt0, fn_0le, fn_0lt, fn_le0, fn_in, fn_shl, fn_shr, fa_and, fa_or, bs_xorI, if_true, if_false, hV1.1, if_pos z]
  · have hb : b < g_nb B := by omega
    obtain ⟨m6, s1, s2, s3⟩ := sf_stT (x := x) oT h5 (show g_nb A + b < g_nb (ad_T A B P Q) by rw [bT]; omega)
    have eso : g_so (ad_T A B P Q) (g_nb A + b) = g_so B b := ad_r b
    rw [eso] at s1
    have hV6 : cFv p2 B m6 := cFv_of hV1 fun k hk => by rw [s3 _ (by omega)]
    have inner : ∃ t, fg_lp (FX1_joinTwo_b129_L109 x f p1 p2 (nI P) (nI Q) (nI b)) fg_fu (nI n, m6) = some t ∧ ∃ n1, t.1 = nI n1 ∧ n1 ≤ g_nu B ∧ (∀ i, i < n1 → g_bo B i < b + 1) ∧ (∀ i, n1 ≤ i → i < g_nu B → b + 1 ≤ g_bo B i) ∧ cFv f (g_pq (ad_T A B P Q) (g_nb A + (b + 1)) (g_nu A + n1)) t.2 ∧ ∀ a, (a < f ∨ f + 6 < a) → t.2 a = mu a := by
      refine fg_lp_i (body := FX1_joinTwo_b129_L109 x f p1 p2 (nI P) (nI Q) (nI b)) (fun r s => ∃ k, s.1 = nI k ∧ k + r = g_nu B ∧ n ≤ k ∧ (∀ i, i < k → g_bo B i < b + 1) ∧ cFv f (g_pq (ad_T A B P Q) (g_nb A + (b + 1)) (g_nu A + k)) s.2 ∧ ∀ a, (a < f ∨ f + 6 < a) → s.2 a = mu a) _ (fun r s hJ => ?_) fg_fu (g_nu B - n) (nI n, m6) ⟨n, rfl, by omega, Nat.le_refl _, fun i hi => by have := h1 i hi; omega, s2, fun a ha => (s3 a ha).trans (hf a ha)⟩ (fg_fu_lt (by omega))
      obtain ⟨kv, mu2⟩ := s
      obtain ⟨k, e1, hr2, hk, hB2, hV2, hf2⟩ := hJ
      have e1 : kv = nI k := e1
      subst e1
      have hV2 : cFv f (g_pq (ad_T A B P Q) (g_nb A + (b + 1)) (g_nu A + k)) mu2 := hV2
      have hf2 : ∀ a, (a < f ∨ f + 6 < a) → mu2 a = mu a := hf2
      have W : cFv p2 B mu2 := cFv_of hVB fun i hi => hf2 _ (by omega)
      have WA : cFv p1 A mu2 := cFv_of hVA fun i hi => hf2 _ (by omega)
      by_cases y : g_nu B ≤ k
      · refine Or.inr ⟨(nI k, mu2), ?_, k, rfl, by omega, hB2, fun i i1 i2 => by omega, hV2, hf2⟩
        unfold FX1_joinTwo_b129_L109
        simp (disch := omega) only [fg_gd_t, fg_bd_s, fg_b2_s, fg_wr_s, fg_let_s, fn_add, fn_sub, fn_mul, fn_cl, fn_lt, fn_le, fn_eq, fn_eq0, fn_lt0, fn_0le, fn_0lt, fn_le0, fn_in, fn_shl, fn_shr, fa_and, fa_or, bs_xorI, if_true, if_false, W.2.1, if_pos y]
      · have hk1 : k < g_nu B := by omega
        have bo1 := W.2.2.2.2.2.2.2.2.1 k hk1
        have b1 := g_bd hB.1 hk1
        by_cases w : g_bo B k = b
        · have q := ad_fb (A := A) (B := B) (p := P) (q := Q) k
          have jf := sf_joined (x := x) (n := g_np A) (p := P) (q := Q) (r := g_fr B k) (mu := mu2) (by omega) (by omega) (by omega)
          have jt := sf_joined (x := x) (n := g_np A) (p := P) (q := Q) (r := g_to B k) (mu := mu2) (by omega) (by omega) (by omega)
          obtain ⟨mu3, k1, k2, k3⟩ := sf_mkT (x := x) oT hV2 (show g_nu A + k < g_nu (ad_T A B P Q) by rw [nT]; omega) (show g_nb A + (b + 1) ≤ g_nb (ad_T A B P Q) by rw [bT]; omega) (by rw [q.2.2.2, w]; omega) (fun i hi => by
            by_cases c : i < g_nu A
            · have b2 := g_bd hA.1 c
              rw [(ad_fa c).2.2.2]
              omega
            · have b2 := hB2 (i - g_nu A) (by omega)
              rw [show i = g_nu A + (i - g_nu A) by omega, (ad_fb _).2.2.2]
              omega)
          rw [q.1, q.2.1, q.2.2.1] at k1
          refine Or.inl ⟨(nI (k + 1), mu3), r - 1, ?_, by omega, k + 1, rfl, by omega, by omega, fun i hi => ?_, k2, fun a ha => (k3 a ha).trans (hf2 a ha)⟩
          · unfold FX1_joinTwo_b129_L109
            simp (disch := omega) only [fg_gd_t, fg_bd_s, fg_b2_s, fg_wr_s, fg_let_s, fn_add, fn_sub, fn_mul, fn_cl, fn_lt, fn_le, fn_eq, fn_eq0, fn_lt0, fn_0le, fn_0lt, fn_le0, fn_in, fn_shl, fn_shr, fa_and, fa_or, bs_xorI, if_true, if_false, W.2.1, if_neg y, bo1, w, W.2.2.2.2.2.1 k hk1, W.2.2.2.2.2.2.1 k hk1, W.2.2.2.2.2.2.2.1 k hk1, WA.2.2.1, jf, jt, k1]
          · by_cases e : i = k
            · subst e
              omega
            · exact hB2 i (by omega)
        · have m1 := h2 k hk hk1
          refine Or.inr ⟨(nI k, mu2), ?_, k, rfl, by omega, hB2, fun i i1 i2 => ?_, hV2, hf2⟩
          · unfold FX1_joinTwo_b129_L109
            simp (disch := omega) only [fg_gd_t, fg_bd_s, fg_b2_s, fg_wr_s, fg_let_s, fn_add, fn_sub, fn_mul, fn_cl, fn_lt, fn_le, fn_eq, fn_eq0, fn_lt0, fn_0le, fn_0lt, fn_le0, fn_in, fn_shl, fn_shr, fa_and, fa_or, bs_xorI, if_true, if_false, W.2.1, if_neg y, bo1, if_neg w]
          · have := g_bo_ml hB.1 i1 i2
            omega
    obtain ⟨⟨tv, m7⟩, t1, n1, t2, t3, t4, t5, t6, t7⟩ := inner
    have t2 : tv = nI n1 := t2
    subst t2
    refine Or.inl ⟨(nI n1, nI (b + 1), m7), r - 1, ?_, by omega, b + 1, n1, rfl, rfl, by omega, t3, t4, t5, t6, t7⟩
    unfold FX1_joinTwo_b109
    simp (disch := omega) only [fg_gd_t, fg_bd_s, fg_b2_s, fg_wr_s, fg_let_s, fn_add, fn_sub, fn_mul, fn_cl, fn_lt, fn_le, fn_eq, fn_eq0, fn_lt0, fn_0le, fn_0lt, fn_le0, fn_in, fn_shl, fn_shr, fa_and, fa_or, bs_xorI, if_true, if_false, hV1.1, if_neg z, hV1.2.2.2.2.1 b hb, s1, t1]
