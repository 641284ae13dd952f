/-! FAR (own), the model's: the matrix; far and span -/
theorem nI_ex (x : Int32) : ∃ n, x = nI n := ⟨x.toBitVec.toNat, by
  apply Int32.toBitVec_inj.1
  apply BitVec.eq_of_toNat_eq
  show x.toBitVec.toNat = (BitVec.ofNat 32 x.toBitVec.toNat).toNat
  rw [BitVec.toNat_ofNat]
  exact (Nat.mod_eq_of_lt x.toBitVec.isLt).symm⟩
def dm (mu : bs_Mm) (m n : Nat) (V : Nat → Nat → Nat) : Prop := ∀ p q, p < n → q < n → bs_iv (mu (m + 24) (60 * p + q)) = nI (V p q)
theorem dm_cg {mu : bs_Mm} {m n : Nat} {V V' : Nat → Nat → Nat} (h : dm mu m n V) (e : ∀ p q, p < n → q < n → V p q = V' p q) : dm mu m n V' := fun p q hp hq => by rw [h p q hp hq, e p q hp hq]
theorem dm_up {mu : bs_Mm} {m n a b v : Nat} {V : Nat → Nat → Nat} (hn : n ≤ 30) (h : dm mu m n V) (hb : b < n) : dm (bs_up mu (m + 24) (60 * a + b) (.int (nI v))) m n (fun p q => if p = a ∧ q = b then v else V p q) := by
  intro p q hp hq
  show bs_iv _ = nI (if p = a ∧ q = b then v else V p q)
  by_cases e : p = a ∧ q = b
  · rw [if_pos e, e.1, e.2, bs_up_eq]; rfl
  · rw [if_neg e, bs_up_j (by omega)]
    exact h p q hp hq
theorem dm_any (mu : bs_Mm) (m n : Nat) : ∃ V, dm mu m n V := ⟨fun p q => (bs_iv (mu (m + 24) (60 * p + q))).toBitVec.toNat, fun p q _ _ => by
  apply Int32.toBitVec_inj.1
  apply BitVec.eq_of_toNat_eq
  show (bs_iv (mu (m + 24) (60 * p + q))).toBitVec.toNat = (BitVec.ofNat 32 (bs_iv (mu (m + 24) (60 * p + q))).toBitVec.toNat).toNat
  rw [BitVec.toNat_ofNat]
  exact (Nat.mod_eq_of_lt (bs_iv (mu (m + 24) (60 * p + q))).toBitVec.isLt).symm⟩
theorem fn_min {a b : Nat} (ha : a < 2 ^ 31) (hb : b < 2 ^ 31) : (if nI a < nI b then nI a else nI b) = nI (min a b) := by
  by_cases c : a < b
  · rw [if_pos ((nI_ltI ha hb).mpr c), Nat.min_eq_left (by omega)]
  · rw [if_neg (fun z => c ((nI_ltI ha hb).mp z)), Nat.min_eq_right (by omega)]
theorem tf_f0 {m n p : Nat} {l1 : Int32} {V : Nat → Nat → Nat} {mu : bs_Mm} (hn : n ≤ 30) (hp : p < n) (h : dm mu m n (fun a b => if a < p then (if a = b then 0 else 1000000) else V a b)) : ∃ mu', fg_lp (FX12_findFars_b17_L9 m l1 (nI n) (nI p)) fg_fu (nI 0, mu) = some mu' ∧ (∀ c, c ≠ m + 24 → mu' c = mu c) ∧ dm mu' m n (fun a b => if a < p + 1 then (if a = b then 0 else 1000000) else V a b) := by
  refine Exists.elim (fg_lp_i (body := FX12_findFars_b17_L9 m l1 (nI n) (nI p)) (fun r s => ∃ j, s.1 = nI j ∧ j + r = n ∧ (∀ c, c ≠ m + 24 → s.2 c = mu c) ∧ dm s.2 m n (fun a b => if a < p ∨ (a = p ∧ b < j) then (if a = b then 0 else 1000000) else V a b)) (fun t => (∀ c, c ≠ m + 24 → t c = mu c) ∧ dm t m n (fun a b => if a < p + 1 then (if a = b then 0 else 1000000) else V a b)) (fun r s hI => ?_) fg_fu n (nI 0, mu) ⟨0, rfl, by omega, fun _ _ => rfl, dm_cg h (fun a b _ _ => by
    by_cases c : a < p
    · rw [if_pos c, if_pos (Or.inl c)]
    · rw [if_neg c, if_neg (show ¬ (a < p ∨ (a = p ∧ b < 0)) by omega)])⟩ (fg_fu_lt (by omega))) (fun t ht => ?_)
  · obtain ⟨jv, mu1⟩ := s
    obtain ⟨j, e, hr, hfr, hd⟩ := hI
    have e : jv = nI j := e
    subst e
    have hfr : ∀ c, c ≠ m + 24 → mu1 c = mu c := hfr
    have hd : dm mu1 m n (fun a b => if a < p ∨ (a = p ∧ b < j) then (if a = b then 0 else 1000000) else V a b) := hd
    by_cases c : n ≤ j
    · refine Or.inr ⟨mu1, ?_, hfr, dm_cg hd (fun a b _ hb => ?_)⟩
      · unfold FX12_findFars_b17_L9
        simp (disch := omega) only [fg_gd_t, fg_bd_s, fg_b2_s, fg_wr_s, fg_let_s, fn_add, fn_sub, fn_mul, fn_cl, fn_lt, fn_le, fn_eq, fn_eq0, fn_lt0, fn_0le, fn_0lt, fn_le0, fn_in, fn_shl, fn_shr, fa_and, fa_or, bs_xorI, if_true, if_false, if_pos c]
      · by_cases d : a < p + 1
        · rw [if_pos d, if_pos (show a < p ∨ (a = p ∧ b < j) by omega)]
        · rw [if_neg d, if_neg (show ¬ (a < p ∨ (a = p ∧ b < j)) by omega)]
    · refine Or.inl ?_
      have nx : ∀ v, v = (if p = j then 0 else 1000000) → dm (bs_up mu1 (m + 24) (60 * p + j) (.int (nI v))) m n (fun a b => if a < p ∨ (a = p ∧ b < j + 1) then (if a = b then 0 else 1000000) else V a b) := fun v hv => dm_cg (dm_up hn hd (by omega)) (fun a b _ _ => by
        by_cases d : a = p ∧ b = j
        · obtain ⟨rfl, rfl⟩ := d
          rw [if_pos ⟨rfl, rfl⟩, if_pos (Or.inr ⟨rfl, by omega⟩)]
          exact hv
        · rw [if_neg d]
          by_cases y : a < p ∨ (a = p ∧ b < j)
          · rw [if_pos y, if_pos (show a < p ∨ (a = p ∧ b < j + 1) by omega)]
          · rw [if_neg y, if_neg (show ¬ (a < p ∨ (a = p ∧ b < j + 1)) by omega)])
      by_cases d : p = j
      · refine ⟨(nI (j + 1), bs_up mu1 (m + 24) (60 * p + j) (.int (nI 0))), r - 1, ?_, by omega, j + 1, rfl, by omega, fun c hc => (bs_up_f hc).trans (hfr c hc), nx 0 (by rw [if_pos d])⟩
        unfold FX12_findFars_b17_L9
        simp (disch := omega) only [fg_gd_t, fg_bd_s, fg_b2_s, fg_wr_s, fg_let_s, fn_add, fn_sub, fn_mul, fn_cl, fn_lt, fn_le, fn_eq, fn_eq0, fn_lt0, fn_0le, fn_0lt, fn_le0, fn_in, fn_shl, fn_shr, fa_and, fa_or, bs_xorI, if_true, if_false, if_neg c, if_pos d]
      · refine ⟨(nI (j + 1), bs_up mu1 (m + 24) (60 * p + j) (.int (nI 1000000))), r - 1, ?_, by omega, j + 1, rfl, by omega, fun c hc => (bs_up_f hc).trans (hfr c hc), nx 1000000 (by rw [if_neg d])⟩
        unfold FX12_findFars_b17_L9
        simp (disch := omega) only [fg_gd_t, fg_bd_s, fg_b2_s, fg_wr_s, fg_let_s, fn_add, fn_sub, fn_mul, fn_cl, fn_lt, fn_le, fn_eq, fn_eq0, fn_lt0, fn_0le, fn_0lt, fn_le0, fn_in, fn_shl, fn_shr, fa_and, fa_or, bs_xorI, if_true, if_false, if_neg c, if_neg d]
        rfl
  · obtain ⟨h1, h2, h3⟩ := ht
    exact ⟨t, h1, h2, h3⟩
theorem tf_f1 {m n : Nat} {l1 : Int32} {mu : bs_Mm} (hn : n ≤ 30) : ∃ mu', fg_lp (FX12_findFars_b9 m l1 (nI n)) fg_fu (nI 0, mu) = some mu' ∧ (∀ c, c ≠ m + 24 → mu' c = mu c) ∧ dm mu' m n (fun a b => if a = b then 0 else 1000000) := by
  obtain ⟨V, hV⟩ := dm_any mu m n
  refine Exists.elim (fg_lp_i (body := FX12_findFars_b9 m l1 (nI n)) (fun r s => ∃ p, s.1 = nI p ∧ p + r = n ∧ (∀ c, c ≠ m + 24 → s.2 c = mu c) ∧ dm s.2 m n (fun a b => if a < p then (if a = b then 0 else 1000000) else V a b)) (fun t => (∀ c, c ≠ m + 24 → t c = mu c) ∧ dm t m n (fun a b => if a = b then 0 else 1000000)) (fun r s hI => ?_) fg_fu n (nI 0, mu) ⟨0, rfl, by omega, fun _ _ => rfl, dm_cg hV (fun a b _ _ => by rw [if_neg (Nat.not_lt_zero a)])⟩ (fg_fu_lt (by omega))) (fun t ht => ?_)
  · obtain ⟨pv, mu1⟩ := s
    obtain ⟨p, e, hr, hfr, hd⟩ := hI
    have e : pv = nI p := e
    subst e
    have hfr : ∀ c, c ≠ m + 24 → mu1 c = mu c := hfr
    have hd : dm mu1 m n (fun a b => if a < p then (if a = b then 0 else 1000000) else V a b) := hd
    by_cases c : n ≤ p
    · refine Or.inr ⟨mu1, ?_, hfr, dm_cg hd (fun a b ha _ => by rw [if_pos (show a < p by omega)])⟩
      unfold FX12_findFars_b9
      simp (disch := omega) only [fg_gd_t, fg_bd_s, fg_b2_s, fg_wr_s, fg_let_s, fn_add, fn_sub, fn_mul, fn_cl, fn_lt, fn_le, fn_eq, fn_eq0, fn_lt0, fn_0le, fn_0lt, fn_le0, fn_in, fn_shl, fn_shr, fa_and, fa_or, bs_xorI, if_true, if_false, if_pos c]
    · obtain ⟨mu2, k1, k2, k3⟩ := tf_f0 (l1 := l1) hn (show p < n by omega) hd
      refine Or.inl ⟨(nI (p + 1), mu2), r - 1, ?_, by omega, p + 1, rfl, by omega, fun c hc => (k2 c hc).trans (hfr c hc), k3⟩
      unfold FX12_findFars_b9
      simp (disch := omega) only [fg_gd_t, fg_bd_s, fg_b2_s, fg_wr_s, fg_let_s, fn_add, fn_sub, fn_mul, fn_cl, fn_lt, fn_le, fn_eq, fn_eq0, fn_lt0, fn_0le, fn_0lt, fn_le0, fn_in, fn_shl, fn_shr, fa_and, fa_or, bs_xorI, if_true, if_false, if_neg c, k1]
  · obtain ⟨h1, h2, h3⟩ := ht
    exact ⟨t, h1, h2, h3⟩
theorem mFv_of {m g : Nat} {G : bs_G} {mu mu' : bs_Mm} (h : mFv m g G mu) (e : ∀ c, c ≠ m + 24 → mu' c = mu c) : mFv m g G mu' := by
  obtain ⟨h1, h2, h3, h4, h5, h6, h7, h8, h9⟩ := h
  exact ⟨by rw [e _ (by omega)]; exact h1, by rw [e _ (by omega)]; exact h2, by rw [e _ (by omega)]; exact h3, by rw [e _ (by omega)]; exact h4, by rw [e _ (by omega)]; exact h5, by rw [e _ (by omega)]; exact h6, by rw [e _ (by omega)]; exact h7, by rw [e _ (by omega)]; exact h8, by rw [e _ (by omega)]; exact h9⟩
theorem tf_f2 {m g : Nat} {l2 : Int32} {mu : bs_Mm} {G : bs_G} (hV : mFv m g G mu) (hg : g < 13) (hG : g_ok G) (h : dm mu m (g_np G) (ds_E G 0)) : ∃ mu', fg_lp (FX12_findFars_b65 m (nI g) l2) fg_fu (nI (24 * g), mu) = some mu' ∧ (∀ c, c ≠ m + 24 → mu' c = mu c) ∧ dm mu' m (g_np G) (ds_E G (g_nu G)) := by
  have q0 := g_bn hG
  refine Exists.elim (fg_lp_i (body := FX12_findFars_b65 m (nI g) l2) (fun r s => ∃ i, s.1 = nI (24 * g + i) ∧ i + r = g_nu G ∧ (∀ c, c ≠ m + 24 → s.2 c = mu c) ∧ dm s.2 m (g_np G) (ds_E G i)) (fun t => (∀ c, c ≠ m + 24 → t c = mu c) ∧ dm t m (g_np G) (ds_E G (g_nu G))) (fun r s hI => ?_) fg_fu (g_nu G) (nI (24 * g), mu) ⟨0, rfl, by omega, fun _ _ => rfl, h⟩ (fg_fu_lt (by omega))) (fun t ht => ?_)
  · obtain ⟨iv, mu1⟩ := s
    obtain ⟨i, e, hr, hfr, hd⟩ := hI
    have e : iv = nI (24 * g + i) := e
    subst e
    have hfr : ∀ c, c ≠ m + 24 → mu1 c = mu c := hfr
    have hd : dm mu1 m (g_np G) (ds_E G i) := hd
    have hV1 := mFv_of hV hfr
    by_cases c : g_nu G ≤ i
    · have e : i = g_nu G := by omega
      refine Or.inr ⟨mu1, ?_, hfr, by rw [← e]; exact hd⟩
      unfold FX12_findFars_b65
      simp (disch := omega) only [fg_gd_t, fg_bd_s, fg_b2_s, fg_wr_s, fg_let_s, fn_add, fn_sub, fn_mul, fn_cl, fn_lt, fn_le, fn_eq, fn_eq0, fn_lt0, fn_0le, fn_0lt, fn_le0, fn_in, fn_shl, fn_shr, fa_and, fa_or, bs_xorI, if_true, if_false, hV1.2.1, if_pos (show 24 * g + g_nu G ≤ 24 * g + i by omega)]
    · refine Or.inl ?_
      have hi : i < g_nu G := by omega
      have b := g_bd hG hi
      have El := ds_E_le G i (g_fr G i) (g_to G i)
      have rd := hd _ _ b.1 b.2.1
      have u1 := dm_up (a := g_fr G i) (b := g_to G i) (v := min (ds_E G i (g_fr G i) (g_to G i)) (g_le G i)) q0.2.2.1 hd b.2.1
      have u2 := dm_up (a := g_to G i) (b := g_fr G i) (v := min (ds_E G i (g_fr G i) (g_to G i)) (g_le G i)) q0.2.2.1 u1 b.1
      refine ⟨(nI (24 * g + (i + 1)), bs_up (bs_up mu1 (m + 24) (60 * g_fr G i + g_to G i) (.int (nI (min (ds_E G i (g_fr G i) (g_to G i)) (g_le G i))))) (m + 24) (60 * g_to G i + g_fr G i) (.int (nI (min (ds_E G i (g_fr G i) (g_to G i)) (g_le G i))))), r - 1, ?_, by omega, i + 1, rfl, by omega, fun c hc => by show bs_up (bs_up mu1 _ _ _) _ _ _ c = mu c; rw [bs_up_f hc, bs_up_f hc]; exact hfr c hc, dm_cg u2 (fun p q _ _ => ?_)⟩
      · unfold FX12_findFars_b65
        simp (disch := omega) only [fg_gd_t, fg_bd_s, fg_b2_s, fg_wr_s, fg_let_s, fn_add, fn_sub, fn_mul, fn_cl, fn_lt, fn_le, fn_eq, fn_eq0, fn_lt0, fn_0le, fn_0lt, fn_le0, fn_in, fn_shl, fn_shr, fa_and, fa_or, bs_xorI, if_true, if_false, hV1.2.1, if_neg (show ¬ 24 * g + g_nu G ≤ 24 * g + i by omega), hV1.2.2.2.2.2.1 i hi, hV1.2.2.2.2.2.2.1 i hi, hV1.2.2.2.2.2.2.2.1 i hi, rd, bs_up_f]
        have e2 : (if ds_E G i (g_fr G i) (g_to G i) < g_le G i then nI (ds_E G i (g_fr G i) (g_to G i)) else nI (g_le G i)) = nI (min (ds_E G i (g_fr G i) (g_to G i)) (g_le G i)) := by
          by_cases y : ds_E G i (g_fr G i) (g_to G i) < g_le G i
          · rw [if_pos y, Nat.min_eq_left (by omega)]
          · rw [if_neg y, Nat.min_eq_right (by omega)]
        rw [e2]
        rfl
      · rw [ds_E]
        by_cases c1 : p = g_to G i ∧ q = g_fr G i
        · rw [if_pos c1, if_pos (Or.inr c1), c1.1, c1.2, ds_E_sy G i (g_to G i) (g_fr G i)]
        · rw [if_neg c1]
          by_cases c2 : p = g_fr G i ∧ q = g_to G i
          · rw [if_pos c2, if_pos (Or.inl c2), c2.1, c2.2]
          · rw [if_neg c2, if_neg (fun z => z.elim c2 c1)]
  · obtain ⟨h1, h2, h3⟩ := ht
    exact ⟨t, h1, h2, h3⟩
theorem ds_M_k1 (G : bs_G) (k p : Nat) : ds_M G (k + 1) p k = ds_M G k p k := by rw [ds_M, ds_M_pp]; omega
theorem ds_M_k2 (G : bs_G) (k q : Nat) : ds_M G (k + 1) k q = ds_M G k k q := by rw [ds_M, ds_M_pp]; omega
/-- the matrix midway -/
def ds_h (G : bs_G) (k p j : Nat) : Nat → Nat → Nat := fun a b => if a < p ∨ (a = p ∧ b < j) then ds_M G (k + 1) a b else ds_M G k a b
theorem ds_h_k1 (G : bs_G) (k p j a : Nat) : ds_h G k p j a k = ds_M G k a k := by
  unfold ds_h
  split
  · exact ds_M_k1 G k a
  · rfl
theorem ds_h_k2 (G : bs_G) (k p j b : Nat) : ds_h G k p j k b = ds_M G k k b := by
  unfold ds_h
  split
  · exact ds_M_k2 G k b
  · rfl
theorem tf_f3 {m k p : Nat} {l1 : Int32} {mu : bs_Mm} {G : bs_G} (hG : g_ok G) (hk : k < g_np G) (hp : p < g_np G) (h : dm mu m (g_np G) (ds_h G k p 0)) : ∃ mu', fg_lp (FX12_findFars_b183_L174_L166 m l1 (nI (g_np G)) (nI k) (nI p)) fg_fu (nI 0, mu) = some mu' ∧ (∀ c, c ≠ m + 24 → mu' c = mu c) ∧ dm mu' m (g_np G) (ds_h G k (p + 1) 0) := by
  have q0 := g_bn hG
  refine Exists.elim (fg_lp_i (body := FX12_findFars_b183_L174_L166 m l1 (nI (g_np G)) (nI k) (nI p)) (fun r s => ∃ j, s.1 = nI j ∧ j + r = g_np G ∧ (∀ c, c ≠ m + 24 → s.2 c = mu c) ∧ dm s.2 m (g_np G) (ds_h G k p j)) (fun t => (∀ c, c ≠ m + 24 → t c = mu c) ∧ dm t m (g_np G) (ds_h G k (p + 1) 0)) (fun r s hI => ?_) fg_fu (g_np G) (nI 0, mu) ⟨0, rfl, by omega, fun _ _ => rfl, h⟩ (fg_fu_lt (by omega))) (fun t ht => ?_)
  · obtain ⟨jv, mu1⟩ := s
    obtain ⟨j, e, hr, hfr, hd⟩ := hI
    have e : jv = nI j := e
    subst e
    have hfr : ∀ c, c ≠ m + 24 → mu1 c = mu c := hfr
    have hd : dm mu1 m (g_np G) (ds_h G k p j) := hd
    by_cases c : g_np G ≤ j
    · refine Or.inr ⟨mu1, ?_, hfr, dm_cg hd (fun a b _ hb => ?_)⟩
      · unfold FX12_findFars_b183_L174_L166
        simp (disch := omega) only [fg_gd_t, fg_bd_s, fg_b2_s, fg_wr_s, fg_let_s, fn_add, fn_sub, fn_mul, fn_cl, fn_lt, fn_le, fn_eq, fn_eq0, fn_lt0, fn_0le, fn_0lt, fn_le0, fn_in, fn_shl, fn_shr, fa_and, fa_or, bs_xorI, if_true, if_false, if_pos c]
      · unfold ds_h
        by_cases d : a < p ∨ (a = p ∧ b < j)
        · rw [if_pos d, if_pos (show a < p + 1 ∨ (a = p + 1 ∧ b < 0) by omega)]
        · rw [if_neg d, if_neg (show ¬ (a < p + 1 ∨ (a = p + 1 ∧ b < 0)) by omega)]
    · refine Or.inl ?_
      have hj : j < g_np G := by omega
      have r1 := hd p j hp hj
      have r2 := hd p k hp hk
      have r3 := hd k j hk hj
      have e1 : ds_h G k p j p j = ds_M G k p j := if_neg (by omega)
      rw [e1] at r1
      rw [ds_h_k1] at r2
      rw [ds_h_k2] at r3
      have l1' := ds_M_le G k p j
      have l2' := ds_M_le G k p k
      have l3' := ds_M_le G k k j
      have up := dm_up (a := p) (b := j) (v := ds_M G (k + 1) p j) q0.2.2.1 hd hj
      refine ⟨(nI (j + 1), bs_up mu1 (m + 24) (60 * p + j) (.int (nI (ds_M G (k + 1) p j)))), r - 1, ?_, by omega, j + 1, rfl, by omega, fun c hc => (bs_up_f hc).trans (hfr c hc), dm_cg up (fun a b _ _ => ?_)⟩
      · unfold FX12_findFars_b183_L174_L166
        simp (disch := omega) only [fg_gd_t, fg_bd_s, fg_b2_s, fg_wr_s, fg_let_s, fn_add, fn_sub, fn_mul, fn_cl, fn_lt, fn_le, fn_eq, fn_eq0, fn_lt0, fn_0le, fn_0lt, fn_le0, fn_in, fn_shl, fn_shr, fa_and, fa_or, bs_xorI, if_true, if_false, if_neg c, r1, r2, r3]
        have e2 : (if ds_M G k p k + ds_M G k k j < ds_M G k p j then nI (ds_M G k p k + ds_M G k k j) else nI (ds_M G k p j)) = nI (ds_M G (k + 1) p j) := by
          rw [ds_M]
          by_cases y : ds_M G k p k + ds_M G k k j < ds_M G k p j
          · rw [if_pos y, Nat.min_eq_right (by omega)]
          · rw [if_neg y, Nat.min_eq_left (by omega)]
        rw [e2]
      · unfold ds_h
        by_cases d : a = p ∧ b = j
        · rw [if_pos d, if_pos (show a < p ∨ (a = p ∧ b < j + 1) by omega), d.1, d.2]
        · rw [if_neg d]
          by_cases y : a < p ∨ (a = p ∧ b < j)
          · rw [if_pos y, if_pos (show a < p ∨ (a = p ∧ b < j + 1) by omega)]
          · rw [if_neg y, if_neg (show ¬ (a < p ∨ (a = p ∧ b < j + 1)) by omega)]
  · obtain ⟨h1, h2, h3⟩ := ht
    exact ⟨t, h1, h2, h3⟩
theorem tf_f4 {m k : Nat} {l1 : Int32} {mu : bs_Mm} {G : bs_G} (hG : g_ok G) (hk : k < g_np G) (h : dm mu m (g_np G) (ds_M G k)) : ∃ mu', fg_lp (FX12_findFars_b174_L166 m l1 (nI (g_np G)) (nI k)) fg_fu (nI 0, mu) = some mu' ∧ (∀ c, c ≠ m + 24 → mu' c = mu c) ∧ dm mu' m (g_np G) (ds_M G (k + 1)) := by
  have q0 := g_bn hG
  refine Exists.elim (fg_lp_i (body := FX12_findFars_b174_L166 m l1 (nI (g_np G)) (nI k)) (fun r s => ∃ p, s.1 = nI p ∧ p + r = g_np G ∧ (∀ c, c ≠ m + 24 → s.2 c = mu c) ∧ dm s.2 m (g_np G) (ds_h G k p 0)) (fun t => (∀ c, c ≠ m + 24 → t c = mu c) ∧ dm t m (g_np G) (ds_M G (k + 1))) (fun r s hI => ?_) fg_fu (g_np G) (nI 0, mu) ⟨0, rfl, by omega, fun _ _ => rfl, dm_cg h (fun a b _ _ => by unfold ds_h; rw [if_neg (by omega)])⟩ (fg_fu_lt (by omega))) (fun t ht => ?_)
  · obtain ⟨pv, mu1⟩ := s
    obtain ⟨p, e, hr, hfr, hd⟩ := hI
    have e : pv = nI p := e
    subst e
    have hfr : ∀ c, c ≠ m + 24 → mu1 c = mu c := hfr
    have hd : dm mu1 m (g_np G) (ds_h G k p 0) := hd
    by_cases c : g_np G ≤ p
    · refine Or.inr ⟨mu1, ?_, hfr, dm_cg hd (fun a b ha _ => by unfold ds_h; rw [if_pos (by omega)])⟩
      unfold FX12_findFars_b174_L166
      simp (disch := omega) only [fg_gd_t, fg_bd_s, fg_b2_s, fg_wr_s, fg_let_s, fn_add, fn_sub, fn_mul, fn_cl, fn_lt, fn_le, fn_eq, fn_eq0, fn_lt0, fn_0le, fn_0lt, fn_le0, fn_in, fn_shl, fn_shr, fa_and, fa_or, bs_xorI, if_true, if_false, if_pos c]
    · obtain ⟨mu2, k1, k2, k3⟩ := tf_f3 (l1 := l1) hG hk (show p < g_np G by omega) hd
      refine Or.inl ⟨(nI (p + 1), mu2), r - 1, ?_, by omega, p + 1, rfl, by omega, fun c hc => (k2 c hc).trans (hfr c hc), k3⟩
      unfold FX12_findFars_b174_L166
      simp (disch := omega) only [fg_gd_t, fg_bd_s, fg_b2_s, fg_wr_s, fg_let_s, fn_add, fn_sub, fn_mul, fn_cl, fn_lt, fn_le, fn_eq, fn_eq0, fn_lt0, fn_0le, fn_0lt, fn_le0, fn_in, fn_shl, fn_shr, fa_and, fa_or, bs_xorI, if_true, if_false, if_neg c, k1]
  · obtain ⟨h1, h2, h3⟩ := ht
    exact ⟨t, h1, h2, h3⟩
theorem tf_fars {m g : Nat} {mu : bs_Mm} {G : bs_G} (hV : mFv m g G mu) (hg : g < 13) (hG : g_ok G) : ∃ mu', FX12_findFars m mu (nI g) = some mu' ∧ (∀ c, c ≠ m + 24 → mu' c = mu c) ∧ dm mu' m (g_np G) (ds_F G) := by
  have q0 := g_bn hG
  obtain ⟨mu1, a1, a2, a3⟩ := tf_f1 (m := m) (l1 := nI g) (mu := mu) q0.2.2.1
  obtain ⟨mu2, b1, b2, b3⟩ := tf_f2 (l2 := nI (g_np G)) (mFv_of hV a2) hg hG a3
  have key : ∃ mu', fg_lp (FX12_findFars_b166 m (nI g) (nI (g_np G))) fg_fu (nI 0, mu2) = some mu' ∧ (∀ c, c ≠ m + 24 → mu' c = mu2 c) ∧ dm mu' m (g_np G) (ds_M G (g_np G)) := by
    refine Exists.elim (fg_lp_i (body := FX12_findFars_b166 m (nI g) (nI (g_np G))) (fun r s => ∃ k, s.1 = nI k ∧ k + r = g_np G ∧ (∀ c, c ≠ m + 24 → s.2 c = mu2 c) ∧ dm s.2 m (g_np G) (ds_M G k)) (fun t => (∀ c, c ≠ m + 24 → t c = mu2 c) ∧ dm t m (g_np G) (ds_M G (g_np G))) (fun r s hI => ?_) fg_fu (g_np G) (nI 0, mu2) ⟨0, rfl, by omega, fun _ _ => rfl, b3⟩ (fg_fu_lt (by omega))) (fun t ht => ?_)
    · obtain ⟨kv, mu3⟩ := s
      obtain ⟨k, e, hr, hfr, hd⟩ := hI
      have e : kv = nI k := e
      subst e
      have hfr : ∀ c, c ≠ m + 24 → mu3 c = mu2 c := hfr
      have hd : dm mu3 m (g_np G) (ds_M G k) := hd
      by_cases c : g_np G ≤ k
      · have e : k = g_np G := by omega
        refine Or.inr ⟨mu3, ?_, hfr, by rw [e] at hd; exact hd⟩
        unfold FX12_findFars_b166
        simp (disch := omega) only [fg_gd_t, fg_bd_s, fg_b2_s, fg_wr_s, fg_let_s, fn_add, fn_sub, fn_mul, fn_cl, fn_lt, fn_le, fn_eq, fn_eq0, fn_lt0, fn_0le, fn_0lt, fn_le0, fn_in, fn_shl, fn_shr, fa_and, fa_or, bs_xorI, if_true, if_false, if_pos c]
      · obtain ⟨mu4, k1, k2, k3⟩ := tf_f4 (l1 := nI g) hG (show k < g_np G by omega) hd
        refine Or.inl ⟨(nI (k + 1), mu4), r - 1, ?_, by omega, k + 1, rfl, by omega, fun c hc => (k2 c hc).trans (hfr c hc), k3⟩
        unfold FX12_findFars_b166
        simp (disch := omega) only [fg_gd_t, fg_bd_s, fg_b2_s, fg_wr_s, fg_let_s, fn_add, fn_sub, fn_mul, fn_cl, fn_lt, fn_le, fn_eq, fn_eq0, fn_lt0, fn_0le, fn_0lt, fn_le0, fn_in, fn_shl, fn_shr, fa_and, fa_or, bs_xorI, if_true, if_false, if_neg c, k1]
    · obtain ⟨h1, h2, h3⟩ := ht
      exact ⟨t, h1, h2, h3⟩
  obtain ⟨mu3, c1, c2, c3⟩ := key
  refine ⟨mu3, ?_, fun c hc => (c2 c hc).trans ((b2 c hc).trans (a2 c hc)), c3⟩
  unfold FX12_findFars
  simp (disch := omega) only [fg_gd_t, fg_bd_s, fg_b2_s, fg_wr_s, fg_let_s, fn_add, fn_sub, fn_mul, fn_cl, fn_lt, fn_le, fn_eq, fn_eq0, fn_lt0, fn_0le, fn_0lt, fn_le0, fn_in, fn_shl, fn_shr, fa_and, fa_or, bs_xorI, if_true, if_false, hV.2.2.1, a1, b1, c1]
