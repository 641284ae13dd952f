/-! FIGURE, FAULT of a figure (own): the calls, both sides -/
theorem bs_cp_o {mu : bs_Mm} {a0 a1 sp dp n c : Nat} (h : c ≠ a1) : bs_cp mu a0 a1 sp dp n c = mu c := by
  funext j
  exact if_neg (fun w => h w.1)
theorem bs_cp_i {mu : bs_Mm} {a0 a1 n j : Nat} (h : j < n) : bs_iv (bs_cp mu a0 a1 0 0 n a1 j) = bs_iv (mu a0 j) := by
  have : bs_cp mu a0 a1 0 0 n a1 j = .int (bs_iv (mu a0 (0 + (j - 0)))) := if_pos ⟨rfl, Nat.zero_le _, by omega⟩
  rw [this, Nat.sub_zero, Nat.zero_add]
  rfl
set_option maxHeartbeats 1000000 in
theorem sf_copyF {x f p : Nat} {mu : bs_Mm} {G : bs_G} (hV : cFv p G mu) (hG : g_ok G) (hd : f + 6 < p ∨ p + 6 < f) : ∃ mu', FX1_copy x f mu p = some mu' ∧ cFv f G mu' ∧ ∀ c, (c < f ∨ f + 6 < c) → mu' c = mu c := by
  have q0 := g_bn hG
  obtain ⟨v6, v7, v8, v9, w1, w2, w3, w4, w5, w6⟩ := hV
  obtain ⟨m1, h1⟩ : ∃ y, y = bs_cp mu (p + 1) (f + 1) 0 0 6 := ⟨_, rfl⟩
  obtain ⟨m2, h2⟩ : ∃ y, y = bs_cp m1 (p + 2) (f + 2) 0 0 24 := ⟨_, rfl⟩
  obtain ⟨m3, h3⟩ : ∃ y, y = bs_cp m2 (p + 3) (f + 3) 0 0 24 := ⟨_, rfl⟩
  obtain ⟨m4, h4⟩ : ∃ y, y = bs_cp m3 (p + 4) (f + 4) 0 0 24 := ⟨_, rfl⟩
  obtain ⟨m5, h5⟩ : ∃ y, y = bs_cp m4 (p + 5) (f + 5) 0 0 24 := ⟨_, rfl⟩
  obtain ⟨m6, h6⟩ : ∃ y, y = bs_cp m5 (p + 6) (f + 6) 0 0 30 := ⟨_, rfl⟩
  have f1 : ∀ c, c ≠ f + 1 → m1 c = mu c := fun c hc => by rw [h1, bs_cp_o hc]
  have f2 : ∀ c, c ≠ f + 2 → m2 c = m1 c := fun c hc => by rw [h2, bs_cp_o hc]
  have f3 : ∀ c, c ≠ f + 3 → m3 c = m2 c := fun c hc => by rw [h3, bs_cp_o hc]
  have f4 : ∀ c, c ≠ f + 4 → m4 c = m3 c := fun c hc => by rw [h4, bs_cp_o hc]
  have f5 : ∀ c, c ≠ f + 5 → m5 c = m4 c := fun c hc => by rw [h5, bs_cp_o hc]
  have f6 : ∀ c, c ≠ f + 6 → m6 c = m5 c := fun c hc => by rw [h6, bs_cp_o hc]
  obtain ⟨m7, h7⟩ : ∃ y, y = bs_up m6 f 6 (.int (nI (g_nb G))) := ⟨_, rfl⟩
  obtain ⟨m8, h8⟩ : ∃ y, y = bs_up m7 f 7 (.int (nI (g_nu G))) := ⟨_, rfl⟩
  obtain ⟨m9, h9⟩ : ∃ y, y = bs_up m8 f 8 (.int (nI (g_np G))) := ⟨_, rfl⟩
  have f7 : ∀ c, c ≠ f → m7 c = m6 c := fun c hc => by rw [h7, bs_up_f hc]
  have f8 : ∀ c, c ≠ f → m8 c = m7 c := fun c hc => by rw [h8, bs_up_f hc]
  have f9 : ∀ c, c ≠ f → m9 c = m8 c := fun c hc => by rw [h9, bs_up_f hc]
  have src : ∀ c, (c < f ∨ f + 6 < c) → m6 c = mu c := fun c hc => by rw [f6 c (by omega), f5 c (by omega), f4 c (by omega), f3 c (by omega), f2 c (by omega), f1 c (by omega)]
  have p6 : bs_iv (m6 p 6) = nI (g_nb G) := by rw [src p (by omega)]; exact v6
  have p7 : bs_iv (m7 p 7) = nI (g_nu G) := by rw [f7 p (by omega), src p (by omega)]; exact v7
  have p8 : bs_iv (m8 p 8) = nI (g_np G) := by rw [f8 p (by omega), f7 p (by omega), src p (by omega)]; exact v8
  have p9 : bs_iv (m9 p 9) = nI (g_mh G) := by rw [f9 p (by omega), f8 p (by omega), f7 p (by omega), src p (by omega)]; exact v9
  have up : ∀ c v, c ≠ f → bs_up m9 f 9 v c = m6 c := fun c v hc => by rw [bs_up_f hc, f9 c hc, f8 c hc, f7 c hc]
  refine ⟨bs_up m9 f 9 (.int (nI (g_mh G))), ?_, ⟨?_, ?_, ?_, by rw [bs_up_eq]; rfl, fun j hj => ?_, fun j hj => ?_, fun j hj => ?_, fun j hj => ?_, fun j hj => ?_, fun j hj => ?_⟩, fun c hc => by rw [up c _ (by omega), src c hc]⟩
  · unfold FX1_copy
    rw [fg_wc_s, fg_wc_s, fg_wc_s, fg_wc_s, fg_wc_s, fg_wc_s, ← h1, ← h2, ← h3, ← h4, ← h5, ← h6, p6, fg_wr_s, ← h7, p7, fg_wr_s, ← h8, p8, fg_wr_s, ← h9, p9, fg_wr_s]
  · rw [bs_up_j (by decide), h9, bs_up_j (by decide), h8, bs_up_j (by decide), h7, bs_up_eq]
    rfl
  · rw [bs_up_j (by decide), h9, bs_up_j (by decide), h8, bs_up_eq]
    rfl
  · rw [bs_up_j (by decide), h9, bs_up_eq]
    rfl
  · rw [up _ _ (by omega), f6 _ (by omega), f5 _ (by omega), f4 _ (by omega), f3 _ (by omega), f2 _ (by omega), h1, bs_cp_i (by omega)]
    exact w1 j hj
  · rw [up _ _ (by omega), f6 _ (by omega), f5 _ (by omega), f4 _ (by omega), f3 _ (by omega), h2, bs_cp_i (by omega), f1 _ (by omega)]
    exact w2 j hj
  · rw [up _ _ (by omega), f6 _ (by omega), f5 _ (by omega), f4 _ (by omega), h3, bs_cp_i (by omega), f2 _ (by omega), f1 _ (by omega)]
    exact w3 j hj
  · rw [up _ _ (by omega), f6 _ (by omega), f5 _ (by omega), h4, bs_cp_i (by omega), f3 _ (by omega), f2 _ (by omega), f1 _ (by omega)]
    exact w4 j hj
  · rw [up _ _ (by omega), f6 _ (by omega), h5, bs_cp_i (by omega), f4 _ (by omega), f3 _ (by omega), f2 _ (by omega), f1 _ (by omega)]
    exact w5 j hj
  · rw [up _ _ (by omega), h6, bs_cp_i (by omega), f5 _ (by omega), f4 _ (by omega), f3 _ (by omega), f2 _ (by omega), f1 _ (by omega)]
    exact w6 j hj
/-- figure: refused by both, or taken by both -/
theorem sim_fig12 {x m : Nat} {mc mm : bs_Mm} (hc : bs_iv (mc x 13) = nI 12) (hm : bs_iv (mm m 20) = nI 12) : FX11_figure x mc = some (-1, mc) ∧ FX12_figure m mm = some (-1, mm) := by
  refine ⟨?_, ?_⟩
  · unfold FX11_figure
    rw [sf_freeN hc, fg_bd_s, fg_oq_n]
  · unfold FX12_figure
    rw [hm, if_pos rfl]
set_option maxHeartbeats 1000000 in
theorem sim_fig {x m n sc fc : Nat} {T : Nat → Nat} {FG : Nat → bs_G} {mc mm : bs_Mm} (hF : cFG x fc FG mc) (hM : mFG m fc FG mm) (h12 : fc < 12) (hsc : sc ≤ 6) (hC : cT x n T mc) (hT : mT m n T mm) (h5 : bs_iv (mm m 5) = nI sc) (h3 : bs_iv (mc (x + 1) 3) = nI sc) : ∃ r mc' mm', FX11_figure x mc = some (r, mc') ∧ FX12_figure m mm = some (r, mm') ∧ ((r = -1 ∧ cfr x mc mc' ∧ mfr2 m fc mm mm') ∨ (r = nI fc ∧ (∃ G, g_iv G ∧ (∀ b, b < g_nb G → g_so G b < sc) ∧ cFG x (fc + 1) (g_pu FG fc G) mc' ∧ mFG m (fc + 1) (g_pu FG fc G) mm') ∧ bs_iv (mc' (x + 5) 1) = nI 0 ∧ bs_iv (mm' m 7) = nI 0 ∧ (∀ k, k ≠ 13 → mc' x k = mc x k) ∧ (∀ k, k ≠ 1 → mc' (x + 5) k = mc (x + 5) k) ∧ (∀ a, a ≠ x → a ≠ x + 5 → (a < x + 9 ∨ x + 19 < a) → (a < x + 63 + 7 * fc ∨ x + 63 + 7 * fc + 6 < a) → mc' a = mc a) ∧ (∀ k, k ≠ 7 → k ≠ 8 → k ≠ 9 → k ≠ 10 → k ≠ 20 → k ≠ 23 → k ≠ 24 → k ≠ 25 → mm' m k = mm m k) ∧ ∀ a, a ≠ m → (a < m + 6 ∨ m + 17 < a) → mm' a = mm a)) := by
  obtain ⟨r, mc1, mm1, r1, r2, r3, r4, r5, r6⟩ := sim_read (f := fc) (by omega) hsc hC hT h5
  have e20 : ¬ bs_iv (mm m 20) = nI 12 := by
    rw [hM.2.1]
    exact fun w => by have := (nI_eq (show fc < 2 ^ 31 by omega) (by decide)).mp w; omega
  have c0 : FX11_figure x mc = (if r = (-1) then (fg_bd (FX1_copy x (x + 63 + 7 * fc) mc1 (x + 10)) (fun mu9 => fg_wr mu9 (x + 5) 1 (.int (nI 0)) (fun mu10 => fg_wr mu10 x 13 (.int ((bs_iv (mu10 x 13)) + (nI 1))) (fun mu11 => some ((bs_iv (mu10 x 13)), mu11))))) else (some ((-1), mc1))) := by
    unfold FX11_figure
    rw [sf_freeY hF.2.1 h12, fg_bd_s, fg_oq_s, fg_isF_y h12, fg_gd_t, h3, r1, fg_b2_s]
  have d0 : FX12_figure m mm = (if r = (-1) then (fg_wr mm1 m 7 (.int (nI 0)) (fun mu4 => fg_wr mu4 m 20 (.int ((bs_iv (mu4 m 20)) + (nI 1))) (fun mu5 => some (((bs_iv (mu5 m 20)) - (nI 1)), mu5)))) else (some ((-1), mm1))) := by
    unfold FX12_figure
    rw [if_neg e20, hM.2.1, r2, fg_b2_s]
  by_cases e : r = -1
  · obtain ⟨G, g1, g2, g3, g4⟩ := r5 e
    obtain ⟨mc2, k1, k2, k3⟩ := sf_copyF (x := x) (f := x + 63 + 7 * fc) g3 g1.1 (by omega)
    have mcx : ∀ c, (c < x + 9 ∨ x + 19 < c) → (c < x + 63 + 7 * fc ∨ x + 63 + 7 * fc + 6 < c) → mc2 c = mc c := fun c h1 h2 => by rw [k3 c h2, r3 c h1]
    obtain ⟨mc3, hm3⟩ : ∃ y, y = bs_up mc2 (x + 5) 1 (.int (nI 0)) := ⟨_, rfl⟩
    have e13 : bs_iv (mc3 x 13) = nI fc := by rw [hm3, bs_up_f (by omega), mcx _ (by omega) (by omega)]; exact hF.2.1
    obtain ⟨mm2, hn2⟩ : ∃ y, y = bs_up mm1 m 7 (.int (nI 0)) := ⟨_, rfl⟩
    have e202 : bs_iv (mm2 m 20) = nI fc := by rw [hn2, bs_up_j (by decide), r4.1 20 (by decide) (by decide) (by decide) (by decide) (by decide) (by decide)]; exact hM.2.1
    obtain ⟨mm3, hn3⟩ : ∃ y, y = bs_up mm2 m 20 (.int (nI (fc + 1))) := ⟨_, rfl⟩
    have e203 : bs_iv (mm3 m 20) = nI (fc + 1) := by rw [hn3, bs_up_eq]; rfl
    have fm3 : ∀ a, a ≠ m → mm3 a = mm1 a := fun a ha => by rw [hn3, bs_up_f ha, hn2, bs_up_f ha]
    refine ⟨nI fc, bs_up mc3 x 13 (.int (nI (fc + 1))), mm3, ?_, ?_, Or.inr ⟨rfl, ⟨G, g1, g2, ?_, ?_⟩, ?_, ?_, fun k hk => ?_, fun k hk => ?_, fun a a1 a2 a3 a4 => ?_, fun k k7 k8 k9 k10 k20 k23 k24 k25 => ?_, fun a a1 a2 => by rw [fm3 a a1]; exact r4.2.1 a a1 a2⟩⟩
    · rw [c0, if_pos e, k1, fg_bd_s, fg_wr_s, ← hm3, e13, fn_add, fg_wr_s]
    · rw [d0, if_pos e, fg_wr_s, ← hn2, e202, fn_add, fg_wr_s, ← hn3, e203, fn_sub (by omega), Nat.add_sub_cancel]
    · refine cFG_pu hF h12 g1.1 (cFv_of k2 fun i hi => by rw [bs_up_f (by omega), hm3, bs_up_f (by omega)]) (by rw [bs_up_eq]; rfl) fun a h1 h2 => by rw [bs_up_f (by omega), hm3, bs_up_f (by omega), mcx a (by omega) (by omega)]
    · refine mFG_pu hM h12 g1.1 (mFv_ofR g4 fun c c1 c2 => fm3 c (by omega)) e203 (mKp_tr r4.2 ⟨fun a h1 _ => fm3 a h1, fun a k h1 _ => by rw [fm3 a (by omega)], fun k _ => by rw [fm3 _ (by omega)], fun a k h1 h2 _ => by rw [fm3 a (by omega)]⟩)
    · rw [bs_up_f (by omega), hm3, bs_up_eq]
      rfl
    · rw [hn3, bs_up_j (by decide), hn2, bs_up_eq]
      rfl
    · rw [bs_up_j hk, hm3, bs_up_f (by omega), mcx _ (by omega) (by omega)]
    · rw [bs_up_f (by omega), hm3, bs_up_j hk, mcx _ (by omega) (by omega)]
    · rw [bs_up_f a1, hm3, bs_up_f a2, mcx a a3 a4]
    · rw [hn3, bs_up_j k20, hn2, bs_up_j k7]
      exact r4.1 k k8 k9 k10 k23 k24 k25
  · rw [if_neg e] at c0 d0
    exact ⟨-1, mc1, mm1, c0, d0, Or.inl ⟨rfl, r3, r4⟩⟩
