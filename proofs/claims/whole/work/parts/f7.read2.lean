/-! READING A FIGURE (own): the whole text, both sides (2) -/
/-- where the class finds its fault once no further balloon comes -/
theorem rc_last {x n a : Nat} {l : Int32} {T : Nat → Nat} {s : rf_S} {mu : bs_Mm} (hok : rf_ok s) (hS : rc_S x s false l mu) (hT : cT x n T mu) (ha : a < n) (hs : rd_st n T a) (hd : rf_d s = 0) (h47 : ¬ (a < n ∧ T a = 47 ∧ g_nb (rf_g s) < 6)) : rd_F x n l a mu a := by
  by_cases c1 : T a = 41
  · exact (rc_close hok hS hT ha c1).2 (Or.inr hd)
  · by_cases c2 : T a = 47
    · refine (rc_slash hok hS hT ha c2).2 (Or.inr (Or.inr ?_))
      by_cases u : g_nb (rf_g s) < 6
      · exact (h47 ⟨ha, c2, u⟩).elim
      · omega
    · exact rc_other hS hT ha (fun h => hs.1 ⟨ha, h⟩) hs.2.1 (fun h => hs.2.2.1 ⟨ha, h⟩) (fun h => hs.2.2.2 ⟨ha, h⟩) c1 c2
set_option maxHeartbeats 2000000 in
theorem sim_read {x m f n sc : Nat} {T : Nat → Nat} {mc mm : bs_Mm} (hf : f ≤ 12) (hsc : sc ≤ 6) (hC : cT x n T mc) (hT : mT m n T mm) (h5 : bs_iv (mm m 5) = nI sc) : ∃ r mc' mm', FX2_read x mc (nI sc) = some (r, mc') ∧ FX12_readFigure m mm (nI f) = some (r, mm') ∧ cfr x mc mc' ∧ mfr2 m f mm mm' ∧ (r = -1 → ∃ G, g_iv G ∧ (∀ b, b < g_nb G → g_so G b < sc) ∧ cFv (x + 10) G mc' ∧ mFv m f G mm') ∧ (r = -1 ∨ ∃ p, p ≤ n ∧ r = nI p) := by
  have n200 := hT.2.1
  obtain ⟨w, hw⟩ := nI_sj (bs_iv (mm m 24))
  obtain ⟨mc0, b1, b2, b3, b4, b5⟩ := sf_begin (x := x) (w := w) (v := nI sc) (mu := mc)
  have h13 : fg_in (nI f) 13 = true := fn_in (show f < 13 by omega) (by decide)
  have cf : (nI f).toNatClampNeg = f := fn_cl (by omega)
  -- the model's beginning
  obtain ⟨m1, hm1⟩ : ∃ y, y = bs_up (bs_up (bs_up (bs_up (bs_up mm m 25 (.int (nI f))) m 8 (.int (nI 0))) m 9 (.int (-1))) m 10 (.int (nI 0))) m 23 (.int (nI 0)) := ⟨_, rfl⟩
  have o1 : ∀ k, k ≠ 8 → k ≠ 9 → k ≠ 10 → k ≠ 23 → k ≠ 25 → m1 m k = mm m k := fun k k8 k9 k10 k23 k25 => by rw [hm1, bs_up_j k23, bs_up_j k10, bs_up_j k9, bs_up_j k8, bs_up_j k25]
  have f1 : ∀ c, c ≠ m → m1 c = mm c := fun c hc => by rw [hm1, bs_up_f hc, bs_up_f hc, bs_up_f hc, bs_up_f hc, bs_up_f hc]
  have e25 : bs_iv (m1 m 25) = nI f := by rw [hm1, bs_up_j (by decide), bs_up_j (by decide), bs_up_j (by decide), bs_up_j (by decide), bs_up_eq]; rfl
  obtain ⟨m2, hm2⟩ : ∃ y, y = bs_up m1 (m + 6) f (.int (nI 0)) := ⟨_, rfl⟩
  obtain ⟨m3, hm3⟩ : ∃ y, y = bs_up m2 (m + 8) f (.int (nI 0)) := ⟨_, rfl⟩
  obtain ⟨m4, hm4⟩ : ∃ y, y = bs_up m3 (m + 14) f (.int (nI 0)) := ⟨_, rfl⟩
  have f2 : ∀ c, c ≠ m + 6 → m2 c = m1 c := fun c hc => by rw [hm2, bs_up_f hc]
  have f3 : ∀ c, c ≠ m + 8 → m3 c = m2 c := fun c hc => by rw [hm3, bs_up_f hc]
  have f4 : ∀ c, c ≠ m + 14 → m4 c = m3 c := fun c hc => by rw [hm4, bs_up_f hc]
  have m4m : m4 m = m1 m := by rw [f4 _ (by omega), f3 _ (by omega), f2 _ (by omega)]
  have L0 : ∃ t, fg_lp (FX12_readFigure_b57 m (nI f)) fg_fu (nI 0, m4) = some t ∧ (∀ i, i < 8 → bs_iv (t (m + 16) i) = -1) ∧ ∀ a, a ≠ m + 16 → t a = m4 a := by
    refine fg_lp_i (body := FX12_readFigure_b57 m (nI f)) (fun r s => ∃ k, s.1 = nI k ∧ k + r = 8 ∧ (∀ i, i < k → bs_iv (s.2 (m + 16) i) = -1) ∧ ∀ a, a ≠ m + 16 → s.2 a = m4 a) _ (fun r s hJ => ?_) fg_fu 8 (nI 0, m4) ⟨0, rfl, rfl, fun i hi => absurd hi (Nat.not_lt_zero i), fun _ _ => rfl⟩ (fg_fu_lt (by omega))
    obtain ⟨kv, mu1⟩ := s
    obtain ⟨k, e1, hr, h1, hf1⟩ := hJ
    have e1 : kv = nI k := e1
    subst e1
    have h1 : ∀ i, i < k → bs_iv (mu1 (m + 16) i) = -1 := h1
    have hf1 : ∀ a, a ≠ m + 16 → mu1 a = m4 a := hf1
    by_cases z : 8 ≤ k
    · refine Or.inr ⟨mu1, ?_, fun i hi => h1 i (by omega), hf1⟩
      unfold FX12_readFigure_b57
      simp (disch := omega) only [fg_gd_t, fg_bd_s, fg_b2_s, fg_wr_s, fg_let_s, fn_add, fn_sub, fn_mul, fn_cl, fn_lt, fn_le, fn_eq, fn_eq0, fn_lt0, fn_0le, fn_0lt, fn_le0, fn_in, fn_shl, fn_shr, fa_and, fa_or, bs_xorI, if_true, if_false, if_pos z]
    · refine Or.inl ⟨(nI (k + 1), bs_up mu1 (m + 16) k (.int (-1))), r - 1, ?_, by omega, k + 1, rfl, by omega, fun i hi => ?_, fun a ha => (bs_up_f ha).trans (hf1 a ha)⟩
      · unfold FX12_readFigure_b57
        simp (disch := omega) only [fg_gd_t, fg_bd_s, fg_b2_s, fg_wr_s, fg_let_s, fn_add, fn_sub, fn_mul, fn_cl, fn_lt, fn_le, fn_eq, fn_eq0, fn_lt0, fn_0le, fn_0lt, fn_le0, fn_in, fn_shl, fn_shr, fa_and, fa_or, bs_xorI, if_true, if_false, if_neg z]
      · show bs_iv (bs_up mu1 (m + 16) k (.int (-1)) (m + 16) i) = -1
        by_cases e : i = k
        · subst e
          rw [bs_up_eq]
          rfl
        · rw [bs_up_j e]
          exact h1 i (by omega)
  obtain ⟨m5, n1, n2, n3⟩ := L0
  have m5m : m5 m = m1 m := by rw [n3 _ (by omega), m4m]
  have all : ∀ c, c ≠ m → c ≠ m + 6 → c ≠ m + 8 → c ≠ m + 14 → c ≠ m + 16 → m5 c = mm c := fun c c0 c6 c8 c14 c16 => by rw [n3 c c16, f4 c c14, f3 c c8, f2 c c6, f1 c c0]
  have fr5 : mfr2 m f mm m5 := by
    refine ⟨fun k k8 k9 k10 k23 _ k25 => by rw [m5m]; exact o1 k k8 k9 k10 k23 k25, ?_⟩
    refine mKp_tr ?_ (⟨fun a h1 h2 => n3 a (by omega), fun a k h1 _ => by rw [n3 a (by omega)], fun k _ => by rw [n3 _ (by omega)], fun a k h1 h2 _ => by rw [n3 a (by omega)]⟩ : mKp m f m4 m5)
    rw [hm4]
    refine mKp_up ?_ (Or.inr ⟨by omega, by omega⟩) (fun _ => Nat.le_refl _) (fun h => by omega) fun h1 h2 => by omega
    rw [hm3]
    refine mKp_up ?_ (Or.inr ⟨by omega, by omega⟩) (fun _ => Nat.le_refl _) (fun h => by omega) fun h1 h2 => by omega
    rw [hm2]
    refine mKp_up ?_ (Or.inr ⟨by omega, by omega⟩) (fun _ => Nat.le_refl _) (fun h => by omega) fun h1 h2 => by omega
    exact ⟨fun a h1 _ => f1 a h1, fun a k h1 _ => by rw [f1 a (by omega)], fun k _ => by rw [f1 _ (by omega)], fun a k h1 h2 _ => by rw [f1 a (by omega)]⟩
  have T5 : mT m n T m5 := mT_of hT (fr5.1 7 (by decide) (by decide) (by decide) (by decide) (by decide) (by decide)) (fr5.2.1 _ (by omega) (by omega))
  have e55 : bs_iv (m5 m 5) = nI sc := by rw [fr5.1 5 (by decide) (by decide) (by decide) (by decide) (by decide) (by decide)]; exact h5
  have M0 : rf_M m f (rf_s0 w) m5 := by
    refine ⟨⟨?_, fun j hj => absurd hj (Nat.not_lt_zero j)⟩, ?_, fun b hb => absurd hb (Nat.not_lt_zero b), ?_, ⟨fun _ => 0, fun p hp => absurd hp (Nat.not_lt_zero p)⟩, fun i hi => n2 i hi, ?_, ?_, ?_, ?_⟩
    · rw [n3 _ (by omega), f4 _ (by omega), hm3, bs_up_eq]
      rfl
    · rw [n3 _ (by omega), f4 _ (by omega), f3 _ (by omega), hm2, bs_up_eq]
      rfl
    · rw [n3 _ (by omega), hm4, bs_up_eq]
      rfl
    · rw [m5m, hm1, bs_up_eq]
      rfl
    · rw [m5m, o1 24 (by decide) (by decide) (by decide) (by decide) (by decide), hw]
      rfl
    · rw [m5m]
      exact e25
    · rw [m5m, hm1, bs_up_j (by decide), bs_up_eq]
      rfl
  have g0 : gH x m f n sc T (rf_s0 w) 0 mc0 m5 := ⟨rf_o0_0 w, b2, b3, b4, M0, cT_fr hC b5, T5, by rw [m5m, hm1, bs_up_j (by decide), bs_up_j (by decide), bs_up_eq]; rfl, by rw [m5m, hm1, bs_up_j (by decide), bs_up_j (by decide), bs_up_j (by decide), bs_up_eq]; rfl, Nat.zero_le _, show 0 < 6 by decide, e55, hsc⟩
  obtain ⟨m6, r1, r2, r3⟩ := sim_ball hf g0
  have start : ∃ r, sim_L x m f n sc T mc0 m5 m6 false r ∧ (r ≤ 6 ∨ ∃ p, bs_iv (m6 m 9) = nI p ∧ p ≤ n ∧ rd_F x n (nI sc) 0 mc0 p) := by
    rcases r3 with ⟨s5, a5, mc5, g5, x5, ⟨c, cs, so5⟩, d5, st5, le5, go5, fr5⟩ | ⟨p, p1, p2, p3⟩
    · exact ⟨6, ⟨r2, Or.inl ⟨s5, a5, mc5, g5, rf_so_B (s := rf_s0 w) (fun b hb => absurd hb (Nat.not_lt_zero b)) cs x5 so5, d5, st5, go5, fr5, by rw [x5]; rfl, fun h => by cases h⟩⟩, Or.inl (Nat.le_refl _)⟩
    · exact ⟨0, ⟨r2, Or.inr ⟨p, p1, p2, p3⟩⟩, Or.inr ⟨p, p1, p2, p3⟩⟩
  obtain ⟨r0, st0, st1⟩ := start
  have L1 : ∃ t, fg_lp (FX12_readFigure_b80 m (nI f)) fg_fu m6 = some t ∧ ∃ r, sim_L x m f n sc T mc0 m5 t true r := by
    have key : ∀ (R r : Nat) (mu : bs_Mm) (k : Nat), sim_L x m f n sc T mc0 m5 mu false r → (r < R ∨ ∃ p, bs_iv (mu m 9) = nI p ∧ p ≤ n ∧ rd_F x n (nI sc) 0 mc0 p) → R + 2 ≤ k → ∃ t, fg_lp (FX12_readFigure_b80 m (nI f)) k mu = some t ∧ ∃ r, sim_L x m f n sc T mc0 m5 t true r := by
      intro R
      induction R with
      | zero =>
        intro r mu k hL hr hk
        rcases hr with hr | ⟨p, p1, p2, p3⟩
        · omega
        · obtain ⟨k, rfl⟩ : ∃ k2, k = k2 + 1 := ⟨k - 1, by omega⟩
          refine ⟨mu, fg_lp_e ?_, r, hL.1, Or.inr ⟨p, p1, p2, p3⟩⟩
          unfold FX12_readFigure_b80
          rw [p1, if_neg (al_nm (by omega))]
      | succ R ih =>
        intro r mu k hL hr hk
        obtain ⟨k, rfl⟩ : ∃ k2, k = k2 + 1 := ⟨k - 1, by omega⟩
        rcases hr with hr | ⟨p, p1, p2, p3⟩
        · rcases sim_loop (l1 := nI f) hf hsc e55 n200 hL with ⟨s', r', q1, q2, q3, q4⟩ | ⟨t, q1, q2⟩
          · obtain ⟨t, t1, t2⟩ := ih r' s' k q3 (by
              rcases q4 with q4 | q4
              · exact Or.inl (by omega)
              · exact Or.inr q4) (by omega)
            exact ⟨t, by rw [fg_lp_s q1]; exact t1, t2⟩
          · exact ⟨t, fg_lp_e q1, r, q2⟩
        · refine ⟨mu, fg_lp_e ?_, r, hL.1, Or.inr ⟨p, p1, p2, p3⟩⟩
          unfold FX12_readFigure_b80
          rw [p1, if_neg (al_nm (by omega))]
    have ff : fg_fu = 2000000 := rfl
    exact key 7 r0 m6 fg_fu st0 (by
      rcases st1 with h | h
      · exact Or.inl (by omega)
      · exact Or.inr h) (by omega)
  obtain ⟨m7, t1, r7, hL⟩ := L1
  obtain ⟨hfr7, hL⟩ := hL
  have fr7 := mfr2_tr fr5 hfr7
  have rdc : ∀ q, rd_fin x (rd_go x n (nI sc) 0 mc0) = some q → FX2_read x mc (nI sc) = some q := by
    intro q hq
    have ff : fg_fu = 2000000 := rfl
    have ext : ∀ (a : Nat) (b : Nat) (st : Int32 × bs_Mm) (t : bs_Mm ⊕ (Int32 × bs_Mm)), a ≤ b → fg_lp (FX2_read_b7 x (nI sc)) a st = some t → fg_lp (FX2_read_b7 x (nI sc)) b st = some t := by
      intro a
      induction a with
      | zero => intro b st t _ h; cases h
      | succ a ih =>
        intro b st t hb h
        obtain ⟨b, rfl⟩ : ∃ b2, b = b2 + 1 := ⟨b - 1, by omega⟩
        obtain ⟨o, o1, o2, o3⟩ := fg_lpE h
        cases o with
        | inl s' => exact (fg_lp_s o1).trans (ih b s' t (by omega) (o2 s' rfl))
        | inr t' => rw [fg_lp_e o1, o3 t' rfl]
    unfold FX2_read
    rw [b1, fg_bd_s]
    unfold rd_fin at hq
    cases e : rd_go x n (nI sc) 0 mc0 with
    | none => rw [e] at hq; cases hq
    | some t =>
      rw [e] at hq
      have e : fg_lp (FX2_read_b7 x (nI sc)) (n + 1 - 0) (nI 0, mc0) = some t := e
      rw [ext _ fg_fu _ _ (by omega) e]
      exact hq
  have rdm : ∀ q, FX12_readFigure_j128 m m7 = some q → FX12_readFigure m mm (nI f) = some q := by
    intro q hq
    have e251 : bs_iv (m2 m 25) = nI f := by rw [f2 _ (by omega)]; exact e25
    have e252 : bs_iv (m3 m 25) = nI f := by rw [f3 _ (by omega)]; exact e251
    unfold FX12_readFigure
    rw [fg_wr_s, fg_wr_s, fg_wr_s, fg_wr_s, fg_wr_s, ← hm1, e25, h13, fg_gd_t, cf, fg_wr_s, ← hm2, e251, h13, fg_gd_t, cf, fg_wr_s, ← hm3, e252, h13, fg_gd_t, cf, fg_wr_s, ← hm4, n1, fg_bd_s, r1, fg_bd_s, t1, fg_bd_s]
    exact hq
  have fault : ∀ (p : Nat) (mm' : bs_Mm), rd_F x n (nI sc) 0 mc0 p → p ≤ n → FX12_readFigure_j128 m m7 = some (nI p, mm') → mfr2 m f mm mm' → ∃ r mc' mm', FX2_read x mc (nI sc) = some (r, mc') ∧ FX12_readFigure m mm (nI f) = some (r, mm') ∧ cfr x mc mc' ∧ mfr2 m f mm mm' ∧ (r = -1 → ∃ G, g_iv G ∧ (∀ b, b < g_nb G → g_so G b < sc) ∧ cFv (x + 10) G mc' ∧ mFv m f G mm') ∧ (r = -1 ∨ ∃ p, p ≤ n ∧ r = nI p) := by
    intro p mm' ⟨mc', F1, F2⟩ hp hj hfr
    exact ⟨nI p, mc', mm', rdc _ F1, rdm _ hj, cfr_tr b5 F2, hfr, fun h => (al_nm (by omega) h).elim, Or.inr ⟨p, hp, rfl⟩⟩
  rcases hL with ⟨s, a, mc7, g, so, d0, st, go, fr, -, hl⟩ | ⟨p, p1, p2, p3⟩
  · obtain ⟨i1, i2, i3, i4, i5, i6, i7, i8, i9⟩ := id g
    obtain ⟨a2, mc2, mm2, l1', g2, l2, l3, l4, l5, l6⟩ := gS_look g
    have e2 : a2 = a := by
      by_cases u : a < a2
      · exfalso
        obtain ⟨b', mm', z1, z2, z3, z4, z5, z6, z7, z8⟩ := tf_look i5 i7 i8
        have zz : mm' = mm2 := by
          rw [z1] at l1'
          exact congrArg (fun w => w.2) (Option.some.inj l1')
        have b8 : bs_iv (mm2 m 8) = nI b' := by rw [← zz]; exact z6
        have a8 := g2.2.2.2.2.2.2.1
        rw [a8] at b8
        have a5n := g2.2.2.2.2.2.2.2.1
        have : a2 = b' := (nI_eq (by omega) (by omega)).mp b8
        exact st.1 ⟨by omega, z4 a (Nat.le_refl _) (by omega)⟩
      · omega
    subst e2
    obtain ⟨i1, i2, i3, i4, i5, i6, i7, i8, i9⟩ := id g2
    have go2 := go.trans l4
    have fr2 : cfr x mc0 mc2 := cfr_tr fr l5
    have mf2 := mfr2_tr fr7 l6
    by_cases e : a2 = n
    · subst e
      obtain ⟨mm3, c1, c2, c3, c4⟩ := tf_numb hf i1 i3
      obtain ⟨mc3, d1, d2, d3⟩ := sf_close i1 i2.1
      have ch : tch a2 T a2 = -1 := if_neg (Nat.lt_irrefl _)
      have fin : rd_fin x (rd_go x a2 (nI sc) 0 mc0) = some (-1, mc3) := by
        rw [go2, rd_end i4]
        unfold rd_fin
        rw [fg_l3_l, i2.2.1, if_pos rfl, i2.2.2.1, if_pos (by decide), i2.1.2.2.2.2.2.1, if_pos (by rw [fn_le0 (by omega)]; exact d0), d1, fg_bd_s]
      have jm : FX12_readFigure_j128 m m7 = some (-1, mm3) := by
        unfold FX12_readFigure_j128
        rw [g.2.2.2.2.2.1, if_pos rfl, l1', fg_b2_s, if_pos ch, i6, if_pos rfl, c1, fg_bd_s, c3, i6]
      exact ⟨-1, mc3, mm3, rdc _ fin, rdm _ jm, cfr_tr b5 (cfr_tr fr2 d3), mfr2_tr mf2 c4, fun _ => ⟨rf_T s, rf_T_iv i1, so, d2, c2⟩, Or.inl rfl⟩
    · have ha : a2 < n := by omega
      have F := rd_F_go go2 fr2 (rc_last i1 i2 i4 ha st d0 (hl rfl))
      have ok2 := (i5.2.2 a2 ha).2.2
      have nch : ¬ tch n T a2 = -1 := by
        unfold tch
        rw [if_pos ha]
        exact al_nm (by omega)
      obtain ⟨mm3, hm⟩ : ∃ y, y = bs_up mm2 m 9 (.int (nI a2)) := ⟨_, rfl⟩
      have e9 : bs_iv (mm3 m 9) = nI a2 := by rw [hm, bs_up_eq]; rfl
      have jm : FX12_readFigure_j128 m m7 = some (nI a2, mm3) := by
        unfold FX12_readFigure_j128
        rw [g.2.2.2.2.2.1, if_pos rfl, l1', fg_b2_s, if_neg nch, tf_bad i6 i7, fg_bd_s, ← hm, e9, if_neg (al_nm (by omega))]
      exact fault a2 mm3 F i8 jm (mfr2_tr mf2 (mfr_m (mfr_rfl m f mm2) (fun j _ j2 _ _ _ => by rw [hm, bs_up_j j2]) (fun a ha => by rw [hm, bs_up_f ha])))
  · have jm : FX12_readFigure_j128 m m7 = some (nI p, m7) := by
      unfold FX12_readFigure_j128
      rw [p1, if_neg (al_nm (by omega)), if_neg (al_nm (by omega))]
    exact fault p m7 p3 p2 jm fr7
