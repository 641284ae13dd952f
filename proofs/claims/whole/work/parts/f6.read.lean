/-! READING A FIGURE (own): the whole text, both sides -/
def mfr2 (m f : Nat) (mu mu' : bs_Mm) : Prop := (∀ k, k ≠ 8 → k ≠ 9 → k ≠ 10 → k ≠ 23 → k ≠ 24 → k ≠ 25 → mu' m k = mu m k) ∧ mKp m f mu mu'
theorem mfr2_tr {m f : Nat} {mu mu1 mu2 : bs_Mm} (h : mfr2 m f mu mu1) (k : mfr m f mu1 mu2) : mfr2 m f mu mu2 := ⟨fun j a b c d e g => (k.1 j a b c d e).trans (h.1 j a b c d e g), mKp_tr h.2 k.2⟩
theorem nI_sj (v : Int32) : ∃ k, v = nI k := by
  refine ⟨v.toBitVec.toNat, ?_⟩
  apply Int32.toBitVec_inj.mp
  show v.toBitVec = BitVec.ofInt 32 (Int.ofNat v.toBitVec.toNat)
  rw [show BitVec.ofInt 32 (Int.ofNat v.toBitVec.toNat) = BitVec.ofNat 32 v.toBitVec.toNat from BitVec.ofInt_natCast 32 _, BitVec.ofNat_toNat, BitVec.setWidth_eq]
def rf_s0 (w : Nat) : rf_S := (g_em 0, (fun _ => 0), (fun _ => none), w, 0, fun _ => 0)
theorem rf_o0_0 (w : Nat) : rf_o0 (rf_s0 w) := ⟨⟨Nat.zero_le _, Nat.zero_le _, Nat.zero_le _, fun i hi => absurd hi (Nat.not_lt_zero i), fun b hb => absurd hb (Nat.not_lt_zero b), fun b hb => absurd hb (Nat.not_lt_zero b), Nat.zero_le _, fun i hi => absurd hi (Nat.not_lt_zero (i + 1))⟩, rfl, fun i hi => absurd hi (Nat.not_lt_zero i), fun i p _ h => (by cases h), rfl, fun p hp => absurd hp (Nat.not_lt_zero p), fun i hi => absurd hi (Nat.not_lt_zero i), fun i hi => absurd hi (Nat.not_lt_zero (i + 1))⟩
set_option maxHeartbeats 1000000 in
theorem sf_begin {x w : Nat} {v : Int32} {mu : bs_Mm} : ∃ mu', FX2_begin x mu v = some mu' ∧ rf_c x (rf_s0 w) mu' ∧ bs_iv (mu' (x + 9) 5) = nI 0 ∧ bs_iv (mu' (x + 9) 4) = v ∧ cfr x mu mu' := by
  obtain ⟨m1, c1, c2, c3, c4⟩ := sf_clear (x := x) (f := x + 10) (mu := mu)
  obtain ⟨m2, hm2⟩ : ∃ y, y = bs_fi (bs_fi m1 (x + 17) 30 (.int (nI 0))) (x + 18) 8 (.int (-1)) := ⟨_, rfl⟩
  obtain ⟨m3, hm3⟩ : ∃ y, y = bs_up (bs_up (bs_up (bs_up (bs_up (bs_up (bs_up m2 (x + 9) 4 (.int v)) (x + 9) 5 (.int (nI 0))) (x + 9) 6 (.int (nI 0))) (x + 9) 7 (.int (nI 0))) (x + 9) 8 (.int (nI 0))) (x + 9) 9 (.int (nI 0))) (x + 9) 10 (.int (nI 0)) := ⟨_, rfl⟩
  have f3 : ∀ a, a ≠ x + 9 → m3 a = m2 a := fun a ha => by rw [hm3, bs_up_f ha, bs_up_f ha, bs_up_f ha, bs_up_f ha, bs_up_f ha, bs_up_f ha, bs_up_f ha]
  have f2 : ∀ a, a ≠ x + 17 → a ≠ x + 18 → m2 a = m1 a := fun a h1 h2 => by rw [hm2, bs_fi_f h2, bs_fi_f h1]
  have all : ∀ a, a ≠ x + 9 → a ≠ x + 17 → a ≠ x + 18 → m3 a = m1 a := fun a h1 h2 h3 => by rw [f3 a h1, f2 a h2 h3]
  refine ⟨m3, ?_, ⟨?_, fun p hp => ?_, fun i hi => ?_, fun k hk => absurd hk (Nat.not_lt_zero k), ?_, ?_, fun p hp => ?_⟩, ?_, ?_, fun a ha => ?_⟩
  · unfold FX2_begin
    rw [c1, fg_bd_s, fg_wf_s, fg_wf_s, ← hm2, fg_wr_s, fg_wr_s, fg_wr_s, fg_wr_s, fg_wr_s, fg_wr_s, fg_wr_s, ← hm3]
  · exact cFv_cg (G := g_em 0) (cFv_of c3 fun k hk => all _ (by omega) (by omega) (by omega)) rfl (fun j hj => rfl) (fun j hj => rfl) (fun j hj => absurd hj (Nat.not_lt_zero j)) (fun j hj => absurd hj (Nat.not_lt_zero j)) fun j hj => rfl
  · rw [if_neg (fun h => absurd h.1 (Nat.not_lt_zero p)), f3 _ (by omega), hm2, bs_fi_f (by omega)]
    have : bs_fi m1 (x + 17) 30 (.int (nI 0)) (x + 17) p = .int (nI 0) := by simp [bs_fi, hp]
    rw [this]
    rfl
  · rw [f3 _ (by omega), hm2]
    have : bs_fi (bs_fi m1 (x + 17) 30 (.int (nI 0))) (x + 18) 8 (.int (-1)) (x + 18) i = .int (-1) := by simp [bs_fi, hi]
    rw [this]
    rfl
  · rw [hm3, bs_up_j (by decide), bs_up_j (by decide), bs_up_j (by decide), bs_up_j (by decide), bs_up_eq]
    rfl
  · rw [hm3, bs_up_j (by decide), bs_up_j (by decide), bs_up_j (by decide), bs_up_eq]
    rfl
  · have q := (c2 30 (Nat.le_refl _)).2.2.2.2.2.2.2.2.2 p hp
    rw [bs_up_f (by omega), show x + 10 + 6 = x + 16 by omega] at q
    rw [all _ (by omega) (by omega) (by omega)]
    exact q
  · rw [hm3, bs_up_j (by decide), bs_up_j (by decide), bs_up_j (by decide), bs_up_j (by decide), bs_up_j (by decide), bs_up_eq]
    rfl
  · rw [hm3, bs_up_j (by decide), bs_up_j (by decide), bs_up_j (by decide), bs_up_j (by decide), bs_up_j (by decide), bs_up_j (by decide), bs_up_eq]
    rfl
  · rw [all a (by omega) (by omega) (by omega), c4 a (by omega) (by omega)]
/-- sorts below sc -/
def rf_so (sc : Nat) (s : rf_S) : Prop := ∀ b, b < g_nb (rf_g s) → g_so (rf_g s) b < sc
def sim_L (x m f n sc : Nat) (T : Nat → Nat) (mc0 mm0 mm : bs_Mm) (last : Bool) (r : Nat) : Prop := mfr m f mm0 mm ∧ ((∃ s a mc, gS x m f n (nI sc) T s false a mc mm ∧ rf_so sc s ∧ rf_d s = 0 ∧ rd_st n T a ∧ rd_go x n (nI sc) 0 mc0 = rd_go x n (nI sc) a mc ∧ cfr x mc0 mc ∧ g_nb (rf_g s) + r = 7 ∧ (last = true → ¬ (a < n ∧ T a = 47 ∧ g_nb (rf_g s) < 6))) ∨ ∃ p, bs_iv (mm m 9) = nI p ∧ p ≤ n ∧ rd_F x n (nI sc) 0 mc0 p)
theorem rf_so_B {sc : Nat} {s s' : rf_S} {c : Nat} (h : rf_so sc s) (hc : c < sc) (e1 : g_nb (rf_g s') = g_nb (rf_g s) + 1) (e2 : g_so (rf_g s') = bs_fn (g_so (rf_g s)) (g_nb (rf_g s)) c) : rf_so sc s' := fun b hb => by
  rw [e2]
  by_cases e : b = g_nb (rf_g s)
  · subst e
    rw [bs_fn_s]
    exact hc
  · rw [bs_fn_n e]
    exact h b (by omega)
set_option maxHeartbeats 1000000 in
theorem sim_loop {x m f n sc : Nat} {T : Nat → Nat} {mc0 mm0 : bs_Mm} (hf : f ≤ 12) (hsc : sc ≤ 6) (h5 : bs_iv (mm0 m 5) = nI sc) (n200 : n ≤ 200) {l1 : Int32} {r : Nat} {mm : bs_Mm} (h : sim_L x m f n sc T mc0 mm0 mm false r) : (∃ s' r', FX12_readFigure_b80 m l1 mm = some (.inl s') ∧ r' < r + 1 ∧ sim_L x m f n sc T mc0 mm0 s' false r' ∧ (r' < r ∨ ∃ p, bs_iv (s' m 9) = nI p ∧ p ≤ n ∧ rd_F x n (nI sc) 0 mc0 p)) ∨ ∃ t, FX12_readFigure_b80 m l1 mm = some (.inr t) ∧ sim_L x m f n sc T mc0 mm0 t true r := by
  obtain ⟨hfr, h⟩ := h
  rcases h with ⟨s, a, mc, g, so, d0, st, go, fr, hr, -⟩ | ⟨p, p1, p2, p3⟩
  · obtain ⟨i1, i2, i3, i4, i5, i6, i7, i8, i9⟩ := id g
    obtain ⟨a2, mc2, mm2, l1', g2, l2, l3, l4, l5, l6⟩ := gS_look g
    have q0 := g_bn i1.1
    have q1 : g_nb (rf_g s) ≤ 6 := q0.1
    have e2 : a2 = a := by
      by_cases u : a < a2
      · exfalso
        obtain ⟨b', mm', z1, z2, z3, z4, z5, z6, z7, z8⟩ := tf_look i5 i7 i8
        have zz : mm' = mm2 := by
          rw [z1] at l1'
          exact congrArg (fun w => w.2) (Option.some.inj l1')
        have b8 : bs_iv (mm2 m 8) = nI b' := by rw [← zz]; exact z6
        have a8 := g2.2.2.2.2.2.2.1
        rw [a8] at b8
        have a5n := g2.2.2.2.2.2.2.2.1
        have : a2 = b' := (nI_eq (by omega) (by omega)).mp b8
        exact st.1 ⟨by omega, z4 a (Nat.le_refl _) (by omega)⟩
      · omega
    subst e2
    obtain ⟨i1, i2, i3, i4, i5, i6, i7, i8, i9⟩ := id g2
    have ok2 : a2 < n → T a2 ≤ 255 := fun h => (i5.2.2 a2 h).2.2
    have mf2 := mfr_tr hfr l6
    have go2 := go.trans l4
    have fr2 : cfr x mc0 mc2 := cfr_tr fr l5
    have h13 : fg_in (nI f) 13 = true := fn_in (show f < 13 by omega) (by decide)
    have cf : (nI f).toNatClampNeg = f := fn_cl (by omega)
    have e25 := i3.2.2.2.2.2.2.2.2.1
    have e6 := i3.2.1
    by_cases c47 : a2 < n ∧ T a2 = 47
    · have ch : tch n T a2 = nI 47 := (tch_lt ok2 (by decide) (by decide)).2.2.mpr c47
      by_cases nb6 : g_nb (rf_g s) < 6
      · obtain ⟨mc3, y1, y2, y3, y4, y5⟩ := (rc_slash i1 i2 i4 c47.1 c47.2).1 rfl d0 nb6
        obtain ⟨mm3, hm3⟩ : ∃ y, y = bs_up mm2 m 8 (.int (nI (a2 + 1))) := ⟨_, rfl⟩
        have o3 : ∀ k, k ≠ 8 → mm3 m k = mm2 m k := fun k hk => by rw [hm3, bs_up_j hk]
        have f3 : ∀ c, c ≠ m → mm3 c = mm2 c := fun c hc => by rw [hm3, bs_up_f hc]
        have mf3 := mfr_m mf2 (fun j j1 _ _ _ _ => o3 j j1) f3
        have gH3 : gH x m f n sc T s (a2 + 1) mc3 mm3 := ⟨rf_ok_o0 i1 d0, y2, y3, y4, rf_M_of i3 (fun k k1 _ => o3 k k1) f3, cT_fr i4 y5, mT_of i5 (o3 7 (by decide)) (f3 _ (by omega)), by rw [o3 9 (by decide)]; exact i6, by rw [hm3, bs_up_eq]; rfl, c47.1, nb6, by rw [mf3.1 5 (by decide) (by decide) (by decide) (by decide) (by decide)]; exact h5, hsc⟩
        obtain ⟨mm4, r1, r2, r3⟩ := sim_ball hf gH3
        have body : FX12_readFigure_b80 m l1 mm = some (.inl mm4) := by
          unfold FX12_readFigure_b80
          rw [g.2.2.2.2.2.1, if_pos rfl, l1', fg_b2_s, if_pos ch, e25, h13, fg_gd_t, cf, e6, if_neg (fun w => by have := (nI_leI (by decide) (by omega)).mp w; omega), i7, fn_add, fg_wr_s, ← hm3, r1, fg_bd_s]
        have mf4 := mfr_tr mf3 r2
        rcases r3 with ⟨s5, a5, mc5, g5, x5, ⟨c, cs, so5⟩, d5, st5, le5, go5, fr5⟩ | ⟨p, p1, p2, p3⟩
        · exact Or.inl ⟨mm4, r - 1, body, by omega, ⟨mf4, Or.inl ⟨s5, a5, mc5, g5, rf_so_B so cs x5 so5, d5, st5, go2.trans (y1.trans go5), cfr_tr fr2 (cfr_tr y5 fr5), by omega, fun h => by cases h⟩⟩, Or.inl (by omega)⟩
        · have F := rd_F_go go2 fr2 (rd_F_go y1 y5 p3)
          exact Or.inl ⟨mm4, r, body, by omega, ⟨mf4, Or.inr ⟨p, p1, p2, F⟩⟩, Or.inr ⟨p, p1, p2, F⟩⟩
      · refine Or.inr ⟨mm2, ?_, mf2, Or.inl ⟨s, a2, mc2, g2, so, d0, st, go2, fr2, hr, fun _ h => nb6 h.2.2⟩⟩
        unfold FX12_readFigure_b80
        rw [g.2.2.2.2.2.1, if_pos rfl, l1', fg_b2_s, if_pos ch, e25, h13, fg_gd_t, cf, e6, if_pos ((nI_leI (by decide) (by omega)).mpr (by omega))]
    · have nch : ¬ tch n T a2 = nI 47 := fun w => c47 ((tch_lt ok2 (by decide) (by decide)).2.2.mp w)
      refine Or.inr ⟨mm2, ?_, mf2, Or.inl ⟨s, a2, mc2, g2, so, d0, st, go2, fr2, hr, fun _ h => c47 ⟨h.1, h.2.1⟩⟩⟩
      unfold FX12_readFigure_b80
      rw [g.2.2.2.2.2.1, if_pos rfl, l1', fg_b2_s, if_neg nch]
  · refine Or.inr ⟨mm, ?_, hfr, Or.inr ⟨p, p1, p2, p3⟩⟩
    unfold FX12_readFigure_b80
    rw [p1, if_neg (al_nm (by omega))]
