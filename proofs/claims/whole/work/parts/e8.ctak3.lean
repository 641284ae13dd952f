/-! READING A FIGURE (own): the class's steps (3) -/
theorem rc_tk22 {x n a : Nat} {T : Nat → Nat} {mu : bs_Mm} (hT : cT x n T mu) (ha : a < n) (p5 : bs_iv (mu (x + 9) 5) = nI 2) (h32 : T a ≠ 32) (hd : ¬ tdg n T a) (hn : ¬ (97 ≤ T a ∧ T a ≤ 104)) (d : Int32) : FX2_takes x mu (nI (T a)) d = fg_b2 (FX2_takesMove_j22 x (bs_up mu (x + 9) 8 (.int (nI 0))) (nI (T a))) (fun v4 mu3 => fg_gd (decide (v4 = 0 ∨ v4 = 1)) (some (v4, mu3))) := by
  have ta := (hT.2.2 a ha).2.2
  rw [sf_tkM ta (fun h => hd ⟨ha, h⟩) h32 p5, sf_tm22 ta hn]
theorem rc_close {x n a : Nat} {l : Int32} {T : Nat → Nat} {s : rf_S} {due : Bool} {mu : bs_Mm} (hok : rf_ok s) (hS : rc_S x s due l mu) (hT : cT x n T mu) (ha : a < n) (h1 : T a = 41) : (due = false → 0 < rf_d s → ∃ mu', rd_go x n l a mu = rd_go x n l (a + 1) mu' ∧ rc_S x (rf_C s) false l mu' ∧ bs_iv (mu' (x + 9) 8) = nI 0 ∧ cfr x mu mu') ∧ ((due = true ∨ rf_d s = 0) → rd_F x n l a mu a) := by
  obtain ⟨m1, hm1⟩ : ∃ y, y = bs_up mu (x + 9) 8 (.int (nI 0)) := ⟨_, rfl⟩
  obtain ⟨hc, p5, p10, p4⟩ := hS
  have f1 : ∀ c, c ≠ x + 9 → m1 c = mu c := fun c hc => by rw [hm1, bs_up_f hc]
  have o1 : ∀ k, k ≠ 8 → m1 (x + 9) k = mu (x + 9) k := fun k k1 => by rw [hm1, bs_up_j k1]
  have c1 : rf_c x s m1 := rf_c_of hc (o1 6 (by decide)) (o1 7 (by decide)) f1
  have d6 := hok.2.2.2.2.2.1
  have tk := rc_tk22 hT ha p5 (by omega) (fun h => by have := h.2; omega) (by omega)
  rw [← hm1] at tk
  have j22 : FX2_takesMove_j22 x m1 (nI (T a)) = fg_b2 (FX2_closes x m1) (fun v9 mu8 => fg_gd (decide (v9 = 0 ∨ v9 = 1)) (some (v9, mu8))) := by
    rw [h1]
    unfold FX2_takesMove_j22
    rw [if_neg (by decide), if_pos rfl]
  have no : FX2_closes x m1 = some (nI 0, m1) → rd_F x n l a mu a := fun op => by
    refine rd_F_ref (mu1 := m1) hT ha ?_ (fun c hc => f1 c (by omega))
    rw [tk, j22, op, fg_b2_s, fg_dt z01_0, fg_gd_t, fg_b2_s, fg_dt z01_0, fg_gd_t]
    rfl
  refine ⟨fun hdue hd => ?_, fun h => no ?_⟩
  · obtain ⟨m2, hm2⟩ : ∃ y, y = bs_up m1 (x + 9) 7 (.int (nI (rf_d s - 1))) := ⟨_, rfl⟩
    have e10 : bs_iv (m1 (x + 9) 10) = 0 := by rw [o1 10 (by decide), p10, hdue]; rfl
    have e72 : bs_iv (m2 (x + 9) 7) = nI (rf_d s - 1) := by rw [hm2, bs_up_eq]; rfl
    have f2 : ∀ c, c ≠ x + 9 → m2 c = m1 c := fun c hc => by rw [hm2, bs_up_f hc]
    have c2 : rf_c x (rf_D s) m2 := by
      obtain ⟨h1, h2, h3, h4, h5, h6, h7⟩ := c1
      exact ⟨cFv_of h1 fun k hk => f2 _ (by omega), fun p hp => by rw [f2 _ (by omega)]; exact h2 p hp, fun i hi => by rw [f2 _ (by omega)]; exact h3 i hi, fun k hk => by have hk : k < rf_d s - 1 := hk; rw [f2 _ (by omega)]; exact h4 k (by omega), by rw [hm2, bs_up_j (by decide)]; exact h5, e72, fun p hp => by rw [f2 _ (by omega)]; exact h7 p hp⟩
    have op9 : bs_iv (m2 (x + 19) (rf_d s - 1)) = nI (rf_r s (rf_k s (rf_d s - 1))) := by rw [f2 _ (by omega)]; exact c1.2.2.2.1 _ (by omega)
    obtain ⟨m3, k1, k2, k3, k4⟩ := sf_join2 (rf_ok_D hok) c2 (p := rf_k s (rf_d s - 1)) (q := rf_w s) (hok.2.2.2.2.2.2.1 _ (by omega)) hok.2.2.2.2.1
    have k1 : FX2_join x m2 (nI (rf_r s (rf_k s (rf_d s - 1)))) (nI (rf_r s (rf_w s))) = some m3 := k1
    have w6 : bs_iv (m2 (x + 9) 6) = nI (rf_r s (rf_w s)) := c2.2.2.2.2.1
    have op : FX2_closes x m1 = some (nI 1, m3) := by
      unfold FX2_closes
      rw [e10, if_pos rfl, c1.2.2.2.2.2.1, if_pos (by rw [fn_0lt (by omega)]; exact hd), fn_sub hd, fg_wr_s, ← hm2, e72, fn_in (show rf_d s - 1 < 6 by omega) (by decide), fg_gd_t, fn_cl (show rf_d s - 1 < 2 ^ 31 by omega), op9, w6, k1, fg_bd_s]
    have tk2 : ∀ d, FX2_takes x mu (nI (T a)) d = some (nI 1, m3) := fun d => by rw [tk, j22, op, fg_b2_s, fg_dt z01_1, fg_gd_t, fg_b2_s, fg_dt z01_1, fg_gd_t]
    have o3 : ∀ k, k ≠ 6 → k ≠ 7 → k ≠ 8 → m3 (x + 9) k = mu (x + 9) k := fun k k6 k7 k8 => by rw [k3 k k6, hm2, bs_up_j k7, o1 k k8]
    refine ⟨m3, (rd_step hT ha (tk2 _)).1 (by decide), ⟨k2, by rw [o3 5 (by decide) (by decide) (by decide)]; exact p5, by rw [o3 10 (by decide) (by decide) (by decide), p10, hdue], by rw [o3 4 (by decide) (by decide) (by decide)]; exact p4⟩, ?_, fun c hc => by rw [k4 c hc, f2 c (by omega), f1 c (by omega)]⟩
    rw [k3 8 (by decide), hm2, bs_up_j (by decide), hm1, bs_up_eq]
    rfl
  · unfold FX2_closes
    rw [o1 10 (by decide), p10]
    rcases h with h | h
    · rw [h, if_neg (by decide)]
    · cases due with
      | true => rw [if_neg (by decide)]
      | false => rw [if_pos (by decide), c1.2.2.2.2.2.1, if_neg (by rw [fn_0lt (by omega)]; omega)]
theorem rc_slash {x n a : Nat} {l : Int32} {T : Nat → Nat} {s : rf_S} {due : Bool} {mu : bs_Mm} (hok : rf_ok s) (hS : rc_S x s due l mu) (hT : cT x n T mu) (ha : a < n) (h1 : T a = 47) : (due = false → rf_d s = 0 → g_nb (rf_g s) < 6 → ∃ mu', rd_go x n l a mu = rd_go x n l (a + 1) mu' ∧ rf_c x s mu' ∧ bs_iv (mu' (x + 9) 5) = nI 0 ∧ bs_iv (mu' (x + 9) 4) = l ∧ cfr x mu mu') ∧ ((due = true ∨ 0 < rf_d s ∨ 6 ≤ g_nb (rf_g s)) → rd_F x n l a mu a) := by
  obtain ⟨m1, hm1⟩ : ∃ y, y = bs_up mu (x + 9) 8 (.int (nI 0)) := ⟨_, rfl⟩
  obtain ⟨hc, p5, p10, p4⟩ := hS
  have q0 := g_bn hok.1
  have q1 : g_nb (rf_g s) ≤ 6 := q0.1
  have f1 : ∀ c, c ≠ x + 9 → m1 c = mu c := fun c hc => by rw [hm1, bs_up_f hc]
  have o1 : ∀ k, k ≠ 8 → m1 (x + 9) k = mu (x + 9) k := fun k k1 => by rw [hm1, bs_up_j k1]
  have c1 : rf_c x s m1 := rf_c_of hc (o1 6 (by decide)) (o1 7 (by decide)) f1
  have d6 := hok.2.2.2.2.2.1
  have e6 : bs_iv (m1 (x + 10) 6) = nI (g_nb (rf_g s)) := c1.1.1
  have tk := rc_tk22 hT ha p5 (by omega) (fun h => by have := h.2; omega) (by omega)
  rw [← hm1] at tk
  have j22 : FX2_takesMove_j22 x m1 (nI (T a)) = fg_b2 (FX2_endsBalloon x m1) (fun v9 mu8 => fg_gd (decide (v9 = 0 ∨ v9 = 1)) (some (v9, mu8))) := by
    rw [h1]
    unfold FX2_takesMove_j22
    rw [if_neg (by decide), if_neg (by decide), if_pos rfl]
  refine ⟨fun hdue hd hb => ?_, fun h => ?_⟩
  · have op : FX2_endsBalloon x m1 = some (nI 1, bs_up m1 (x + 9) 5 (.int (nI 0))) := by
      unfold FX2_endsBalloon
      rw [o1 10 (by decide), p10, hdue, if_pos (by decide), c1.2.2.2.2.2.1, if_neg (by rw [fn_0lt (by omega)]; omega), e6, if_pos ((nI_ltI (by omega) (by decide)).mpr hb), fg_wr_s]
    have tk2 : ∀ d, FX2_takes x mu (nI (T a)) d = some (nI 1, bs_up m1 (x + 9) 5 (.int (nI 0))) := fun d => by rw [tk, j22, op, fg_b2_s, fg_dt z01_1, fg_gd_t, fg_b2_s, fg_dt z01_1, fg_gd_t]
    exact ⟨_, (rd_step hT ha (tk2 _)).1 (by decide), rf_c_of c1 (bs_up_j (by decide)) (bs_up_j (by decide)) fun c hc => bs_up_f hc, by rw [bs_up_eq]; rfl, by rw [bs_up_j (by decide), o1 4 (by decide)]; exact p4, fun c hc => by rw [bs_up_f (by omega), f1 c (by omega)]⟩
  · have op : FX2_endsBalloon x m1 = some (nI 0, m1) := by
      unfold FX2_endsBalloon
      rw [o1 10 (by decide), p10]
      cases due with
      | true => rw [if_neg (by decide)]
      | false =>
        rw [if_pos (by decide), c1.2.2.2.2.2.1]
        by_cases d : 0 < rf_d s
        · rw [if_pos (by rw [fn_0lt (by omega)]; exact d)]
        · have hb : 6 ≤ g_nb (rf_g s) := by
            rcases h with h | h | h
            · cases h
            · exact absurd h d
            · exact h
          rw [if_neg (by rw [fn_0lt (by omega)]; exact d), e6, if_neg (fun w => by have := (nI_ltI (by omega) (by decide)).mp w; omega)]
    refine rd_F_ref (mu1 := m1) hT ha ?_ (fun c hc => f1 c (by omega))
    rw [tk, j22, op, fg_b2_s, fg_dt z01_0, fg_gd_t, fg_b2_s, fg_dt z01_0, fg_gd_t]
    rfl
theorem rc_other {x n a : Nat} {l : Int32} {T : Nat → Nat} {s : rf_S} {due : Bool} {mu : bs_Mm} (hS : rc_S x s due l mu) (hT : cT x n T mu) (ha : a < n) (h32 : T a ≠ 32) (hd : ¬ tdg n T a) (hn : ¬ (97 ≤ T a ∧ T a ≤ 104)) (h0 : T a ≠ 40) (h1 : T a ≠ 41) (h2 : T a ≠ 47) : rd_F x n l a mu a := by
  have ta := (hT.2.2 a ha).2.2
  have tk := rc_tk22 hT ha hS.2.1 h32 hd hn
  refine rd_F_ref (mu1 := bs_up mu (x + 9) 8 (.int (nI 0))) hT ha ?_ (fun c hc => bs_up_f (by omega))
  rw [tk]
  unfold FX2_takesMove_j22
  rw [if_neg (fun w => h0 ((nI_eq (by omega) (by decide)).mp w)), if_neg (fun w => h1 ((nI_eq (by omega) (by decide)).mp w)), if_neg (fun w => h2 ((nI_eq (by omega) (by decide)).mp w)), fg_b2_s, fg_dt z01_0, fg_gd_t]
  rfl
/-- where MOVES stop -/
def rd_st (n : Nat) (T : Nat → Nat) (a : Nat) : Prop := ¬ (a < n ∧ T a = 32) ∧ ¬ tdg n T a ∧ ¬ (a < n ∧ 97 ≤ T a ∧ T a ≤ 104) ∧ ¬ (a < n ∧ T a = 40)
/-- at such a place the class finds its fault, if moves are due -/
theorem rc_due {x n a : Nat} {l : Int32} {T : Nat → Nat} {s : rf_S} {mu : bs_Mm} (hok : rf_ok s) (hS : rc_S x s true l mu) (hT : cT x n T mu) (ha : a ≤ n) (hs : rd_st n T a) : rd_F x n l a mu a := by
  by_cases e : a = n
  · subst e
    exact rd_F_end hT (Or.inr (Or.inl (by rw [hS.2.2.1]; decide)))
  · have ha : a < n := by omega
    by_cases c1 : T a = 41
    · exact (rc_close hok hS hT ha c1).2 (Or.inl rfl)
    · by_cases c2 : T a = 47
      · exact (rc_slash hok hS hT ha c2).2 (Or.inl rfl)
      · exact rc_other hS hT ha (fun h => hs.1 ⟨ha, h⟩) hs.2.1 (fun h => hs.2.2.1 ⟨ha, h⟩) (fun h => hs.2.2.2 ⟨ha, h⟩) c1 c2
/-- and within a ( where no ) comes -/
theorem rc_deep {x n a : Nat} {l : Int32} {T : Nat → Nat} {s : rf_S} {due : Bool} {mu : bs_Mm} (hok : rf_ok s) (hS : rc_S x s due l mu) (hT : cT x n T mu) (ha : a ≤ n) (hs : rd_st n T a) (hd : 0 < rf_d s) (h41 : ¬ (a < n ∧ T a = 41)) : rd_F x n l a mu a := by
  have d6 := hok.2.2.2.2.2.1
  by_cases e : a = n
  · subst e
    exact rd_F_end hT (Or.inr (Or.inr (by rw [hS.1.2.2.2.2.2.1, fn_le0 (by omega)]; omega)))
  · have ha : a < n := by omega
    by_cases c2 : T a = 47
    · exact (rc_slash hok hS hT ha c2).2 (Or.inr (Or.inl hd))
    · exact rc_other hS hT ha (fun h => hs.1 ⟨ha, h⟩) hs.2.1 (fun h => hs.2.2.1 ⟨ha, h⟩) (fun h => hs.2.2.2 ⟨ha, h⟩) (fun h => h41 ⟨ha, h⟩) c2
