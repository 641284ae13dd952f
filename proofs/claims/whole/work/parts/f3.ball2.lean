/-! READING A FIGURE (own): a BALLOON, both sides (2) -/
def sim_B (x m f n sc : Nat) (T : Nat → Nat) (s : rf_S) (a : Nat) (mc mm mm' : bs_Mm) : Prop := mfr m f mm mm' ∧ ((∃ s' a' mc', gS x m f n (nI sc) T s' false a' mc' mm' ∧ g_nb (rf_g s') = g_nb (rf_g s) + 1 ∧ (∃ c, c < sc ∧ g_so (rf_g s') = bs_fn (g_so (rf_g s)) (g_nb (rf_g s)) c) ∧ rf_d s' = 0 ∧ rd_st n T a' ∧ a < a' ∧ rd_go x n (nI sc) a mc = rd_go x n (nI sc) a' mc' ∧ cfr x mc mc') ∨ ∃ p, bs_iv (mm' m 9) = nI p ∧ p ≤ n ∧ rd_F x n (nI sc) a mc p)
set_option maxHeartbeats 2000000 in
theorem sim_ball {x m f n sc a : Nat} {T : Nat → Nat} {s : rf_S} {mc mm : bs_Mm} (hf : f ≤ 12) (h : gH x m f n sc T s a mc mm) : ∃ mm', FX12_balloon m mm = some mm' ∧ sim_B x m f n sc T s a mc mm mm' := by
  obtain ⟨h1, h2, h3, h4, h5, h6, h7, h8, h9, h10, h11, h12, h13⟩ := h
  have n200 := h7.2.1
  have q0 := g_bn h1.1
  have q1 : g_nu (rf_g s) ≤ 24 := q0.2.1
  have d0 := h1.2.2.2.2.1
  obtain ⟨a1, mc1, mm1, k1, k2, k3, k4, k5, k6, k7, k8, k9, k10, k11, k12, k13⟩ := gH_look (sc := sc) h2 h5 h6 h7 h9 h10 (nI sc)
  have T1 := mT_fr h7 k13
  have C1 := cT_fr h6 k12
  have ok1 : a1 < n → T a1 ≤ 255 := fun h => (h7.2.2 a1 h).2.2
  have m19 : bs_iv (mm1 m 9) = -1 := by rw [k5 9 (by decide)]; exact h8
  unfold FX12_balloon
  rw [k1, fg_b2_s]
  by_cases c35 : a1 < n ∧ T a1 = 35
  · have ch : tch n T a1 = nI 35 := (tch_lt ok1 (by decide) (by decide)).2.2.mpr c35
    obtain ⟨mc2, y1, y2, y3, y4, y5⟩ := (rc_hash (l := nI sc) k2 (by rw [k3 5 (by decide)]; exact h3) C1 c35.1 (by omega)).1 c35.2
    obtain ⟨mm2, hm2⟩ : ∃ y, y = bs_up mm1 m 8 (.int (nI (a1 + 1))) := ⟨_, rfl⟩
    have o2 : ∀ k, k ≠ 8 → mm2 m k = mm1 m k := fun k hk => by rw [hm2, bs_up_j hk]
    have f2 : ∀ c, c ≠ m → mm2 c = mm1 c := fun c hc => by rw [hm2, bs_up_f hc]
    have mf2 := mfr_m k13 (fun j j1 _ _ _ _ => o2 j j1) f2
    have C2 := cT_fr C1 y5
    obtain ⟨a3, mc3, mm3, l1, l2, l3, l4, l5, l6, l7, l8, l9, l10, l11, l12, l13⟩ := gH_look (sc := sc) (a := a1 + 1) y2 (rf_M_of k4 (fun k k1 _ => o2 k k1) f2) C2 (mT_fr h7 mf2) (by rw [hm2, bs_up_eq]; rfl) c35.1 (nI sc)
    have T3 := mT_fr (mT_fr h7 mf2) l13
    have C3 := cT_fr C2 l12
    have mf3 := mfr_tr mf2 l13
    have ok3 : a3 < n → T a3 ≤ 255 := fun h => (h7.2.2 a3 h).2.2
    have m39 : bs_iv (mm3 m 9) = -1 := by rw [l5 9 (by decide), o2 9 (by decide)]; exact m19
    have m35 : bs_iv (mm3 m 5) = nI sc := by rw [l5 5 (by decide), o2 5 (by decide), k5 5 (by decide)]; exact h12
    have p53 : bs_iv (mc3 (x + 9) 5) = nI 1 := by rw [l3 5 (by decide)]; exact y3
    have p43 : bs_iv (mc3 (x + 9) 4) = nI sc := by rw [l3 4 (by decide), y4, k3 4 (by decide)]; exact h4
    have go3 : rd_go x n (nI sc) a mc = rd_go x n (nI sc) a3 mc3 := k11.trans (y1.trans l11)
    have fr3 : cfr x mc mc3 := cfr_tr k12 (cfr_tr y5 l12)
    -- no sort
    have bad : (a3 = n ∨ ¬ (48 ≤ T a3 ∧ T a3 - 48 < sc)) → ∃ mm', fg_bd (FX12_bad m mm3) (fun mu26 => some mu26) = some mm' ∧ sim_B x m f n sc T s a mc mm mm' := by
      intro hn
      have F : rd_F x n (nI sc) a3 mc3 a3 := by
        by_cases e : a3 = n
        · subst e
          exact rd_F_end C3 (Or.inl (by rw [p53]; decide))
        · have hb := hn.resolve_left e
          exact (rc_sort h1 h11 h13 l2 p53 p43 C3 (by omega) (fun w => l10 ⟨by omega, w⟩)).2 hb
      refine ⟨bs_up mm3 m 9 (.int (nI a3)), ?_, mfr_m mf3 (fun j _ j2 _ _ _ => bs_up_j j2) (fun a ha => bs_up_f ha), Or.inr ⟨a3, by rw [bs_up_eq]; rfl, l9, rd_F_go go3 fr3 F⟩⟩
      rw [tf_bad m39 l7, fg_bd_s]
    rw [if_pos ch, k7, fn_add, fg_wr_s, ← hm2, l1, fg_b2_s]
    by_cases cd : tdg n T a3
    · have hd := cd.2
      have ha3 := cd.1
      have t3 := ok3 ha3
      have ch3 : tch n T a3 = nI (T a3) := if_pos ha3
      rw [(tf_isD ok3).1 cd, fg_bd_s, if_neg (by decide), ch3, fn_sub hd.1, m35]
      by_cases cs : T a3 - 48 < sc
      · rw [if_pos ((nI_ltI (by omega) (by omega)).mpr cs)]
        obtain ⟨mc4, z1, z2, z3, z4⟩ := (rc_sort h1 h11 h13 l2 p53 p43 C3 ha3 (by omega)).1 hd.1 cs
        obtain ⟨M1, M2, M3, M4, M5, M6, M7, M8, M9, M10⟩ := l4
        have h13 : fg_in (nI f) 13 = true := fn_in (show f < 13 by omega) (by decide)
        have cf : (nI f).toNatClampNeg = f := fn_cl (by omega)
        obtain ⟨mA, hA⟩ : ∃ y, y = bs_up mm3 m 8 (.int (nI (a3 + 1))) := ⟨_, rfl⟩
        obtain ⟨mB, hB⟩ : ∃ y, y = bs_up mA (m + 7) (6 * f + g_nb (rf_g s)) (.int (nI (T a3 - 48))) := ⟨_, rfl⟩
        obtain ⟨mC, hC⟩ : ∃ y, y = bs_up mB (m + 6) f (.int (nI (g_nb (rf_g s) + 1))) := ⟨_, rfl⟩
        obtain ⟨mD, hD⟩ : ∃ y, y = bs_up (bs_up mC (m + 15) (g_np (rf_g s)) (.int (nI (g_np (rf_g s))))) m 23 (.int (nI (g_np (rf_g s) + 1))) := ⟨_, rfl⟩
        obtain ⟨mE, hE⟩ : ∃ y, y = bs_up mD m 24 (.int (nI (g_np (rf_g s)))) := ⟨_, rfl⟩
        have A0 : ∀ k, k ≠ 8 → mA m k = mm3 m k := fun k hk => by rw [hA, bs_up_j hk]
        have A1 : ∀ c, c ≠ m → mA c = mm3 c := fun c hc => by rw [hA, bs_up_f hc]
        have B1 : ∀ c, c ≠ m + 7 → mB c = mA c := fun c hc => by rw [hB, bs_up_f hc]
        have Ce : ∀ c, c ≠ m + 6 → mC c = mB c := fun c hc => by rw [hC, bs_up_f hc]
        have D1 : ∀ c, c ≠ m → c ≠ m + 15 → mD c = mC c := fun c h1 h2 => by rw [hD, bs_up_f h1, bs_up_f h2]
        have E1 : ∀ c, c ≠ m → mE c = mD c := fun c hc => by rw [hE, bs_up_f hc]
        have all : ∀ c, c ≠ m → c ≠ m + 6 → c ≠ m + 7 → c ≠ m + 15 → mE c = mm3 c := fun c c0 c6 c7 c15 => by rw [E1 c c0, D1 c c0 c15, Ce c c6, B1 c c7, A1 c c0]
        have mC0 : mC m = mA m := by rw [Ce _ (by omega), B1 _ (by omega)]
        have E0 : ∀ k, k ≠ 8 → k ≠ 23 → k ≠ 24 → mE m k = mm3 m k := fun k k8 k23 k24 => by rw [hE, bs_up_j k24, hD, bs_up_j k23, bs_up_f (by omega), mC0, A0 k k8]
        have np := tf_np (m := m) (mu := mC) (n := g_np (rf_g s)) (by rw [mC0, A0 23 (by decide)]; exact M7) (by have := h1.2.1; omega)
        rw [← hD] at np
        have ME : rf_M m f (rf_P s (T a3 - 48)) mE := by
          refine ⟨mB_of M1 (all _ (by omega) (by omega) (by omega) (by omega)) (all _ (by omega) (by omega) (by omega) (by omega)) (all _ (by omega) (by omega) (by omega) (by omega)) (all _ (by omega) (by omega) (by omega) (by omega)) (all _ (by omega) (by omega) (by omega) (by omega)), ?_, fun b hb => ?_, ?_, ?_, fun i hi => ?_, ?_, ?_, ?_, ?_⟩
          · rw [E1 _ (by omega), D1 _ (by omega) (by omega), hC, bs_up_eq]
            rfl
          · have hb : b < g_nb (rf_g s) + 1 := hb
            show bs_iv (mE (m + 7) (6 * f + b)) = nI (bs_fn (g_so (rf_g s)) (g_nb (rf_g s)) (T a3 - 48) b)
            rw [E1 _ (by omega), D1 _ (by omega) (by omega), Ce _ (by omega), hB]
            by_cases e : b = g_nb (rf_g s)
            · subst e
              rw [bs_up_eq, bs_fn_s]
              rfl
            · rw [bs_up_j (by omega), bs_fn_n e, A1 _ (by omega)]
              exact M3 b (by omega)
          · rw [all _ (by omega) (by omega) (by omega) (by omega)]
            exact M4
          · have := mh_new (mu := mC) h1.2.2.2.2.2.1 (mh_of M5 (by rw [Ce _ (by omega), B1 _ (by omega), A1 _ (by omega)]))
            exact mh_of this (by rw [E1 _ (by omega), hD, bs_up_f (by omega)])
          · rw [all _ (by omega) (by omega) (by omega) (by omega)]
            exact M6 i hi
          · rw [hE, bs_up_j (by decide), hD, bs_up_eq]
            rfl
          · rw [hE, bs_up_eq]
            rfl
          · rw [E0 25 (by decide) (by decide) (by decide)]
            exact M9
          · rw [E0 10 (by decide) (by decide) (by decide)]
            exact M10
        have mfE : mfr m f mm mE := by
          refine mfr_tr mf3 ⟨fun k k8 k9 k10 k23 k24 => E0 k k8 k23 k24, ?_⟩
          rw [hE]
          refine mKp_up ?_ (Or.inl rfl) (fun h => by omega) (fun h => by omega) fun h1 h2 => by omega
          rw [hD]
          refine mKp_up (mKp_up ?_ (Or.inr ⟨by omega, by omega⟩) (fun h => by omega) (fun h => by omega) fun h1 h2 => by omega) (Or.inl rfl) (fun h => by omega) (fun h => by omega) fun h1 h2 => by omega
          rw [hC]
          refine mKp_up ?_ (Or.inr ⟨by omega, by omega⟩) (fun _ => Nat.le_refl _) (fun h => by omega) fun h1 h2 => by omega
          rw [hB]
          refine mKp_up ?_ (Or.inr ⟨by omega, by omega⟩) (fun h => by omega) (fun _ => by omega) fun h1 h2 => by omega
          rw [hA]
          exact mKp_up (mKp_rfl m f mm3) (Or.inl rfl) (fun h => by omega) (fun h => by omega) fun h1 h2 => by omega
        have gE : gS x m f n (nI sc) T (rf_P s (T a3 - 48)) true (a3 + 1) mc4 mE := ⟨rf_ok_P h1 h11 (by omega), z2, ME, cT_fr C3 z4, mT_fr h7 mfE, by rw [E0 9 (by decide) (by decide) (by decide)]; exact m39, by rw [hE, bs_up_j (by decide), hD, bs_up_j (by decide), bs_up_f (by omega), mC0, hA, bs_up_eq]; rfl, ha3, Or.inl z3⟩
        obtain ⟨mF, r1, r2, r3⟩ := sim_moves hf 8 (rf_P s (T a3 - 48)) (a3 + 1) mc4 mE (show rf_d s + 8 = 8 by omega) gE
        have e25 : bs_iv (mA m 25) = nI f := by rw [A0 25 (by decide)]; exact M9
        have e6 : bs_iv (mA (m + 6) f) = nI (g_nb (rf_g s)) := by rw [A1 _ (by omega)]; exact M2
        have e25B : bs_iv (mB m 25) = nI f := by rw [B1 _ (by omega)]; exact e25
        have e6B : bs_iv (mB (m + 6) f) = nI (g_nb (rf_g s)) := by rw [B1 _ (by omega)]; exact e6
        refine ⟨mF, ?_, mfr_tr mfE r2, ?_⟩
        · rw [l7, fn_add, fg_wr_s, ← hA, e25, h13, fg_gd_t, cf, e6, fn_mul, fn_add, fn_in (show 6 * f + g_nb (rf_g s) < 78 by omega) (by decide), fg_gd_t, fn_cl (show 6 * f + g_nb (rf_g s) < 2 ^ 31 by omega), fg_wr_s, ← hB, e25B, h13, fg_gd_t, fg_gd_t, cf, e6B, fn_add, fg_wr_s, ← hC, np, fg_b2_s, fg_wr_s, ← hE, r1, fg_bd_s]
        · rcases r3 with ⟨s5, a5, mc5, g5, x5, st5, le5, go5, fr5⟩ | ⟨p, p1, p2, p3⟩
          · exact Or.inl ⟨s5, a5, mc5, g5, x5.1, ⟨T a3 - 48, cs, x5.2.1⟩, by rw [x5.2.2.1]; exact d0, st5, by omega, go3.trans (z1.trans go5), cfr_tr fr3 (cfr_tr z4 fr5)⟩
          · exact Or.inr ⟨p, p1, p2, rd_F_go go3 fr3 (rd_F_go z1 z4 p3)⟩
      · rw [if_neg (fun w => cs ((nI_ltI (by omega) (by omega)).mp w))]
        exact bad (Or.inr (fun h => cs h.2))
    · rw [(tf_isD ok3).2 cd, fg_bd_s, if_pos nI_0]
      refine bad ?_
      by_cases e : a3 = n
      · exact Or.inl e
      · refine Or.inr fun w => cd ⟨by omega, w.1, by omega⟩
  · have nch : ¬ tch n T a1 = nI 35 := fun w => c35 ((tch_lt ok1 (by decide) (by decide)).2.2.mp w)
    have p51 : bs_iv (mc1 (x + 9) 5) = nI 0 := by rw [k3 5 (by decide)]; exact h3
    have F : rd_F x n (nI sc) a1 mc1 a1 := by
      by_cases e : a1 = n
      · subst e
        exact rd_F_end C1 (Or.inl (by rw [p51]; decide))
      · have ha1 : a1 < n := by omega
        exact (rc_hash k2 p51 C1 ha1 (fun w => k10 ⟨ha1, w⟩)).2 (fun w => c35 ⟨ha1, w⟩)
    rw [if_neg nch, tf_bad m19 k7, fg_bd_s]
    exact ⟨_, rfl, mfr_m k13 (fun j _ j2 _ _ _ => bs_up_j j2) (fun a ha => bs_up_f ha), Or.inr ⟨a1, by rw [bs_up_eq]; rfl, k9, rd_F_go k11 k12 F⟩⟩
