/-! ADDED of the model (own), its call -/
def ad_li (k p : Nat) : Bool := !decide (p = k)
theorem ad_lv (k : Nat) : ∀ n, pl_lv (ad_li k) n = n - (if k < n then 1 else 0) := by
  intro n
  induction n with
  | zero => rfl
  | succ n ih =>
    show pl_lv (ad_li k) n + g_if (ad_li k n = true) = _
    rw [ih]
    unfold ad_li
    by_cases e : n = k
    · subst e
      rw [decide_eq_true rfl, g_if0 (by decide), if_neg (by omega), if_pos (by omega)]
      omega
    · rw [decide_eq_false e, g_if1 (by decide)]
      by_cases d : k < n
      · rw [if_pos d, if_pos (by omega)]
        omega
      · rw [if_neg d, if_neg (by omega)]
        omega
def ad_rt (k p w : Nat) : Nat := if w = k then p else w
theorem ad_lvA {n q r : Nat} (h : r < n) : pl_lv (ad_li (n + q)) r = r := by
  rw [ad_lv, if_neg (by omega)]
  omega
theorem ad_lvB {n p q r : Nat} (h : p < n) : pl_lv (ad_li (n + q)) (ad_rt (n + q) p (n + r)) = ad_j n p q r := by
  unfold ad_rt ad_j
  by_cases e : r = q
  · subst e
    rw [if_pos rfl, if_pos rfl, ad_lvA h]
  · rw [if_neg (by omega), if_neg e, ad_lv]
    by_cases d : q < r
    · rw [if_pos (by omega), if_pos d]
    · rw [if_neg (by omega), if_neg d]
def ad_ra (A B : bs_G) : Nat → Nat := ad_a (g_nu A) (g_fr A) (fun i => g_np A + g_fr B i)
def ad_rb (A B : bs_G) : Nat → Nat := ad_a (g_nu A) (g_to A) (fun i => g_np A + g_to B i)
set_option maxHeartbeats 2000000 in
theorem tf_addY {m fc i j p q : Nat} {FG : Nat → bs_G} {mu : bs_Mm} (hF : mFG m fc FG mu) (h12 : fc < 12) (hi : i < fc) (hj : j < fc) (hp : p < g_np (FG i)) (hq : q < g_np (FG j)) (h24 : g_nu (FG i) + g_nu (FG j) ≤ 24) (h6 : g_nb (FG i) + g_nb (FG j) ≤ 6) (hA : g_iv (FG i)) (hB : g_iv (FG j)) : ∃ mu', FX12_add m mu (nI i) (nI j) (nI p) (nI q) = some (nI fc, mu') ∧ mFG m (fc + 1) (g_pu FG fc (ad_T (FG i) (FG j) p q)) mu' ∧ (∀ k, k ≠ 20 → mu' m k = mu m k) ∧ ∀ a, a ≠ m → (a < m + 6 ∨ m + 17 < a) → mu' a = mu a := by
  obtain ⟨A, hAe⟩ : ∃ G, G = FG i := ⟨_, rfl⟩
  obtain ⟨B, hBe⟩ : ∃ G, G = FG j := ⟨_, rfl⟩
  have hpt := tf_ptY hF hi hp
  have hqt := tf_ptY hF hj hq
  have VA := (hF.2.2 i hi).2
  have VB := (hF.2.2 j hj).2
  rw [← hAe] at hA VA hp h24 h6 ⊢
  rw [← hBe] at hB VB hq h24 h6 ⊢
  have a0 := g_bn hA.1
  have b0 := g_bn hB.1
  have hc := hF.2.1
  have a3 := hA.2.2.1
  have b3 := hB.2.2.1
  have oT := (ad_iv hA hB hp hq h24 h6).1
  have nT : g_nu (ad_T A B p q) = g_nu A + g_nu B := rfl
  obtain ⟨m1, s1, s2, s3, s4⟩ := tf_start hc h12
  have u20 : bs_iv (m1 m 20) = nI fc := by rw [s3 _ (by omega) (by omega)]; exact hc
  have L1 : ∃ t, fg_lp (FX12_add_b73 m (nI i) (nI j) (nI p) (nI q)) fg_fu (nI 0, m1) = some t ∧ (∀ k, k < g_np A + g_np B → bs_iv (t (m + 15) k) = nI k) ∧ (∀ a, a ≠ m + 15 → t a = m1 a) ∧ mKp m fc mu t := by
    refine fg_lp_i (body := FX12_add_b73 m (nI i) (nI j) (nI p) (nI q)) (fun r s => ∃ b, s.1 = nI b ∧ b + r = g_np A + g_np B ∧ (∀ k, k < b → bs_iv (s.2 (m + 15) k) = nI k) ∧ (∀ a, a ≠ m + 15 → s.2 a = m1 a) ∧ mKp m fc mu s.2) _ (fun r s hJ => ?_) fg_fu (g_np A + g_np B) (nI 0, m1) ⟨0, rfl, by omega, fun k hk => absurd hk (Nat.not_lt_zero k), fun _ _ => rfl, s4⟩ (fg_fu_lt (by omega))
    obtain ⟨bv, mu1⟩ := s
    obtain ⟨b, e1, hr, hb, hf, hk⟩ := hJ
    have e1 : bv = nI b := e1
    subst e1
    have hb : ∀ k, k < b → bs_iv (mu1 (m + 15) k) = nI k := hb
    have hf : ∀ a, a ≠ m + 15 → mu1 a = m1 a := hf
    have hk : mKp m fc mu mu1 := hk
    have V1 := mFv_kp VA hi hA.1 hk
    have V2 := mFv_kp VB hj hB.1 hk
    by_cases z : g_np A + g_np B ≤ b
    · refine Or.inr ⟨mu1, ?_, fun k hk2 => hb k (by omega), hf, hk⟩
      unfold FX12_add_b73
      simp (disch := omega) only [fg_gd_t, fg_bd_s, fg_b2_s, fg_wr_s, fg_let_s, fn_add, fn_sub, fn_mul, fn_cl, fn_lt, fn_le, fn_eq, fn_eq0, fn_lt0, fn_0le, fn_0lt, fn_le0, fn_in, fn_shl, fn_shr, fa_and, fa_or, bs_xorI, if_true, if_false, V1.2.2.1, V2.2.2.1, if_pos z]
    · refine Or.inl ⟨(nI (b + 1), bs_up mu1 (m + 15) b (.int (nI b))), r - 1, ?_, by omega, b + 1, rfl, by omega, fun k hk2 => ?_, fun a ha => (bs_up_f ha).trans (hf a ha), mKp_up hk (Or.inr ⟨by omega, by omega⟩) (fun h => by omega) (fun h => by omega) fun _ h => by omega⟩
      · unfold FX12_add_b73
        simp (disch := omega) only [fg_gd_t, fg_bd_s, fg_b2_s, fg_wr_s, fg_let_s, fn_add, fn_sub, fn_mul, fn_cl, fn_lt, fn_le, fn_eq, fn_eq0, fn_lt0, fn_0le, fn_0lt, fn_le0, fn_in, fn_shl, fn_shr, fa_and, fa_or, bs_xorI, if_true, if_false, V1.2.2.1, V2.2.2.1, if_neg z]
      · show bs_iv (bs_up mu1 (m + 15) b (.int (nI b)) (m + 15) k) = _
        by_cases e : k = b
        · subst e
          rw [bs_up_eq]
          rfl
        · rw [bs_up_j e]
          exact hb k (by omega)
  obtain ⟨m2, c1, c2, c3, c4⟩ := L1
  have VA2 := mFv_kp VA hi hA.1 c4
  obtain ⟨m3, hm3⟩ : ∃ y, y = bs_up m2 (m + 15) (g_np A + q) (.int (nI p)) := ⟨_, rfl⟩
  have f3 : ∀ a, a ≠ m + 15 → m3 a = m2 a := fun a ha => by rw [hm3, bs_up_f ha]
  have k3 : mKp m fc mu m3 := by
    rw [hm3]
    exact mKp_up c4 (Or.inr ⟨by omega, by omega⟩) (fun h => by omega) (fun h => by omega) fun _ h => by omega
  have VA3 := mFv_kp VA hi hA.1 k3
  have w20 : bs_iv (m3 m 20) = nI fc := by rw [f3 _ (by omega), c3 _ (by omega)]; exact u20
  have w8 : bs_iv (m3 (m + 8) fc) = nI 0 := by rw [f3 _ (by omega), c3 _ (by omega)]; exact s2
  obtain ⟨m4, d1, d2, d3, d4, d5⟩ := tf_addAll (ob := 0) (op := 0) (c0 := 0) (le := g_le (ad_T A B p q)) (bo := g_bo (ad_T A B p q)) (ra := ad_ra A B) (rb := ad_rb A B) (so := g_so (ad_T A B p q)) hA.1 VA3 hi h12 w20 (by omega) (by omega) (by omega) (fun k hk => by rw [Nat.zero_add, (ad_fa hk).1]) (fun k hk => by rw [Nat.zero_add, (ad_fa hk).2.2.2, Nat.zero_add]) (fun k hk => by rw [Nat.zero_add, Nat.zero_add]; exact ad_l hk) (fun k hk => by rw [Nat.zero_add, Nat.zero_add]; exact ad_l hk) (fun k hk => by rw [Nat.zero_add]; exact ad_l hk) ⟨w8, fun k hk => absurd hk (Nat.not_lt_zero k)⟩ (fun k hk => absurd hk (Nat.not_lt_zero k))
  rw [Nat.zero_add] at d2 d3
  have k4 := mKp_tr k3 d5
  have VA4 := mFv_kp VA hi hA.1 k4
  have VB4 := mFv_kp VB hj hB.1 k4
  have x20 : bs_iv (m4 m 20) = nI fc := by rw [d4 _ (by omega) (by omega) (by omega)]; exact w20
  obtain ⟨m5, o1, o2, o3, o4, o5⟩ := tf_addAll (ob := g_nb A) (op := g_np A) (c0 := g_nu A) (le := g_le (ad_T A B p q)) (bo := g_bo (ad_T A B p q)) (ra := ad_ra A B) (rb := ad_rb A B) (so := g_so (ad_T A B p q)) hB.1 VB4 hj h12 x20 (by omega) (by omega) (by omega) (fun k _ => (ad_fb k).1) (fun k _ => (ad_fb k).2.2.2) (fun k _ => ad_r k) (fun k _ => ad_r k) (fun k _ => ad_r k) d2 d3
  have k5 := mKp_tr k4 o5
  have VA5 := mFv_kp VA hi hA.1 k5
  have VB5 := mFv_kp VB hj hB.1 k5
  have y20 : bs_iv (m5 m 20) = nI fc := by rw [o4 _ (by omega) (by omega) (by omega)]; exact x20
  obtain ⟨m6, hm6⟩ : ∃ y, y = bs_up m5 (m + 6) fc (.int (nI (g_nb A + g_nb B))) := ⟨_, rfl⟩
  have f6 : ∀ a, a ≠ m + 6 → m6 a = m5 a := fun a ha => by rw [hm6, bs_up_f ha]
  have k6 : mKp m fc mu m6 := by
    rw [hm6]
    exact mKp_up k5 (Or.inr ⟨by omega, by omega⟩) (fun h => by omega) (fun h => by omega) fun h => by omega
  have VA6 := mFv_kp VA hi hA.1 k6
  have VB6 := mFv_kp VB hj hB.1 k6
  have e15 : m6 (m + 15) = m3 (m + 15) := by rw [f6 _ (by omega), o4 _ (by omega) (by omega) (by omega), d4 _ (by omega) (by omega) (by omega)]
  have h1 : ∀ k, k < g_np A + g_np B → k ≠ g_np A + q → bs_iv (m3 (m + 15) k) = nI k := fun k hk hn => by rw [hm3, bs_up_j hn]; exact c2 k hk
  have h2 : bs_iv (m3 (m + 15) (g_np A + q)) = nI p := by rw [hm3, bs_up_eq]; rfl
  have fnd : ∀ mu', mu' (m + 15) = m6 (m + 15) → ∀ w, w < g_np A + g_np B → FX12_find m mu' (nI w) = some (nI (ad_rt (g_np A + q) p w)) := by
    intro mu' e w hw
    unfold ad_rt
    by_cases c : w = g_np A + q
    · subst c
      rw [if_pos rfl]
      exact tf_find2 (by omega) (by omega) (by rw [e, e15]; exact h2) (by omega) (by rw [e, e15]; exact h1 p (by omega) (by omega))
    · rw [if_neg c]
      exact tf_find1 (by omega) (by rw [e, e15]; exact h1 w hw c)
  have split : ∀ c, c < g_nu A + g_nu B → c < g_nu A ∨ ∃ k, k < g_nu B ∧ c = g_nu A + k := fun c hc => by
    by_cases d : c < g_nu A
    · exact Or.inl d
    · exact Or.inr ⟨c - g_nu A, by omega, by omega⟩
  have hra : ∀ c, c < g_nu A + g_nu B → ad_ra A B c < g_np A + g_np B ∧ ad_rb A B c < g_np A + g_np B ∧ g_fr (ad_T A B p q) c = pl_lv (ad_li (g_np A + q)) (ad_rt (g_np A + q) p (ad_ra A B c)) ∧ g_to (ad_T A B p q) c = pl_lv (ad_li (g_np A + q)) (ad_rt (g_np A + q) p (ad_rb A B c)) := by
    intro c hc
    rcases split c hc with d | ⟨k, k1, k2⟩
    · have z := g_bd hA.1 d
      have er : ad_ra A B c = g_fr A c := ad_l d
      have eb : ad_rb A B c = g_to A c := ad_l d
      have n1 : ad_rt (g_np A + q) p (g_fr A c) = g_fr A c := if_neg (by omega)
      have n2 : ad_rt (g_np A + q) p (g_to A c) = g_to A c := if_neg (by omega)
      rw [er, eb, n1, n2, ad_lvA z.1, ad_lvA z.2.1]
      exact ⟨by omega, by omega, (ad_fa d).2.1, (ad_fa d).2.2.1⟩
    · subst k2
      have z := g_bd hB.1 k1
      have er : ad_ra A B (g_nu A + k) = g_np A + g_fr B k := ad_r k
      have eb : ad_rb A B (g_nu A + k) = g_np A + g_to B k := ad_r k
      rw [er, eb, ad_lvB hp, ad_lvB hp]
      exact ⟨by omega, by omega, (ad_fb k).2.1, (ad_fb k).2.2.1⟩
  have rtl : ∀ w, w < g_np A + g_np B → ad_rt (g_np A + q) p w < g_np A + g_np B ∧ ad_li (g_np A + q) (ad_rt (g_np A + q) p w) = true := by
    intro w hw
    unfold ad_rt ad_li
    by_cases c : w = g_np A + q
    · rw [if_pos c, decide_eq_false (by omega)]
      exact ⟨by omega, rfl⟩
    · rw [if_neg c, decide_eq_false c]
      exact ⟨hw, rfl⟩
  have z20 : bs_iv (m6 m 20) = nI fc := by rw [f6 _ (by omega)]; exact y20
  have hE : mE m fc (g_np A + g_np B) (ad_T A B p q) (ad_li (g_np A + q)) (ad_ra A B) (ad_rb A B) (fun c => ad_rt (g_np A + q) p (ad_ra A B c)) (fun c => ad_rt (g_np A + q) p (ad_rb A B c)) m6 := by
    refine ⟨z20, fun w hw => ⟨fun hl => ?_, fun hl => ?_⟩, ?_, ?_, fun b hb => ?_, fun c hc => ?_, fun mu' e c hc => ⟨fnd mu' e _ (hra c hc).1, fnd mu' e _ (hra c hc).2.1⟩⟩
    · rw [e15]
      refine h1 w hw fun e => ?_
      unfold ad_li at hl
      rw [decide_eq_true e] at hl
      cases hl
    · have e : w = g_np A + q := by
        unfold ad_li at hl
        by_cases e : w = g_np A + q
        · exact e
        · rw [decide_eq_false e] at hl
          cases hl
      rw [e15, e, h2]
      exact fun h => by
        have := (nI_eq (show p < 2 ^ 31 by omega) (show g_np A + q < 2 ^ 31 by omega)).mp h
        omega
    · rw [f6 _ (by omega)]
      exact o2.1
    · rw [hm6, bs_up_eq]
      rfl
    · rw [f6 _ (by omega)]
      exact o3 b hb
    · rw [f6 _ (by omega), f6 _ (by omega), f6 _ (by omega), f6 _ (by omega)]
      exact o2.2 c hc
  obtain ⟨m7, r1, r2, r3, r4, r5⟩ := tf_endF hE h12 (by omega) (fun c hc => by
    have y := hra c hc
    have y1 := rtl _ y.1
    have y2 := rtl _ y.2.1
    exact ⟨y1.1, y1.2, y2.1, y2.2, y.2.2.1, y.2.2.2⟩) (by
    rw [ad_lv, if_pos (by omega)]
    rfl) oT (by
    rw [nT, ad_hn]
    rfl)
  refine ⟨m7, ?_, mFG_pu hF h12 oT r2 r3 (mKp_tr k6 r5), fun k hk => by rw [r4 k hk, f6 _ (by omega), o4 _ (by omega) (by omega) (by omega), d4 _ (by omega) (by omega) (by omega), f3 _ (by omega), c3 _ (by omega), s3 _ (by omega) (by omega)], fun a h1 h2 => (mKp_tr k6 r5).1 a h1 h2⟩
  have gi : fg_in (nI i) 13 = true := fn_in (show i < 13 by omega) (by decide)
  have gj : fg_in (nI j) 13 = true := fn_in (show j < 13 by omega) (by decide)
  have ci : (nI i).toNatClampNeg = i := fn_cl (show i < 2 ^ 31 by omega)
  have cj : (nI j).toNatClampNeg = j := fn_cl (show j < 2 ^ 31 by omega)
  unfold FX12_add
  rw [hpt, fg_bd_s, if_neg (by decide), hqt, fg_bd_s, if_neg (by decide), gi, gj, fg_gd_t, fg_gd_t, ci, cj, VA.2.1, VB.2.1, fn_add, if_neg (fun z => by have := (nI_ltI (by decide) (by omega)).mp z; omega), fg_gd_t, fg_gd_t, VA.1, VB.1, fn_add, if_neg (fun z => by have := (nI_ltI (by decide) (by omega)).mp z; omega), hc, if_neg (fun h => by have := (nI_eq (show fc < 2 ^ 31 by omega) (by decide)).mp h; omega), s1, fg_bd_s, c1, fg_bd_s, fg_gd_t, VA2.2.2.1, fn_add, fn_in (show g_np A + q < 60 by omega) (by decide), fg_gd_t, fn_cl (show g_np A + q < 2 ^ 31 by omega), fg_wr_s, ← hm3, d1, fg_bd_s, fg_gd_t, fg_gd_t, VA4.1, VA4.2.2.1, o1, fg_bd_s, fg_gd_t, fg_gd_t, y20, fn_in (show fc < 13 by omega) (by decide), fg_gd_t, fn_cl (show fc < 2 ^ 31 by omega), VA5.1, VB5.1, fn_add, fg_wr_s, ← hm6, fg_gd_t, fg_gd_t, VA6.2.2.1, VB6.2.2.1, fn_add, r1, fg_bd_s, r3, fn_sub (by omega), Nat.add_sub_cancel]
