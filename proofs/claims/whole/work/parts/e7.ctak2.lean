/-! READING A FIGURE (own): the class's steps (2) -/
set_option maxHeartbeats 1000000 in
theorem rc_digN {x n a p : Nat} {l : Int32} {T : Nat → Nat} {s : rf_S} {due : Bool} {mu : bs_Mm} (hok : rf_ok s) (hS : rc_S x s due l mu) (hT : cT x n T mu) (h8 : bs_iv (mu (x + 9) 8) = nI 0) (hd : tdg n T a) (hy : rb_n n T (g_nu (rf_g s)) a p) : rd_F x n l a mu p := by
  have q0 := g_bn hok.1
  have t2 := hT.2.1
  have ta := (hT.2.2 a hd.1).2.2
  have hda := hd.1
  have hdg := hd.2
  obtain ⟨hc, p5, p10, p4⟩ := hS
  have e107 : bs_iv (mu (x + 10) 7) = nI (g_nu (rf_g s)) := hc.1.2.1
  have q1 : g_nu (rf_g s) ≤ 24 := q0.2.1
  have tak : ∀ (fl q : Int32) (r : bs_Mm), FX2_takesDigit x mu (nI (T a - 48)) fl = some (q, r) → (q = 0 ∨ q = 1) → FX2_takes x mu (nI (T a)) fl = some (q, r) := by
    intro fl q r td hq2
    unfold FX2_takes
    rw [p5, if_pos rfl, (sf_isD ta).1 hdg, fg_bd_s, if_neg (by decide), fn_sub (by omega), td, fg_b2_s, fg_dt hq2, fg_gd_t]
  obtain ⟨m1, hm1⟩ : ∃ y, y = bs_up (bs_up mu (x + 9) 9 (.int (nI (T a - 48)))) (x + 9) 8 (.int (nI 1)) := ⟨_, rfl⟩
  have f1 : ∀ c, c ≠ x + 9 → m1 c = mu c := fun c hc => by rw [hm1, bs_up_f hc, bs_up_f hc]
  have o1 : ∀ k, k ≠ 8 → k ≠ 9 → m1 (x + 9) k = mu (x + 9) k := fun k k1 k2 => by rw [hm1, bs_up_j k1, bs_up_j k2]
  have c1 : rf_c x s m1 := rf_c_of hc (o1 6 (by decide) (by decide)) (o1 7 (by decide) (by decide)) f1
  have e18 : bs_iv (m1 (x + 9) 8) = nI 1 := by rw [hm1, bs_up_eq]; rfl
  have e19 : bs_iv (m1 (x + 9) 9) = nI (T a - 48) := by rw [hm1, bs_up_j (by decide), bs_up_eq]; rfl
  have fr1 : cfr x mu m1 := fun c hc => f1 c (by omega)
  have up8 : bs_iv (bs_up mu (x + 9) 9 (.int (nI (T a - 48))) (x + 9) 8) = nI 0 := by rw [bs_up_j (by decide)]; exact h8
  have td1 : g_nu (rf_g s) < 24 → ∀ (fl q : Int32) (r : bs_Mm), (if fl = 0 then (fg_b2 (FX2_makesBubble x m1) (fun v9 mu8 => fg_gd (decide (v9 = 0 ∨ v9 = 1)) (some (v9, mu8)))) else some (nI 1, m1)) = some (q, r) → FX2_takesDigit x mu (nI (T a - 48)) fl = some (q, r) := by
    intro y1 fl q r hq
    unfold FX2_takesDigit
    rw [h8, if_neg (by decide), if_pos nI_0, e107, if_pos ((nI_ltI (by omega) (by decide)).mpr y1)]
    unfold FX2_takesDigit_j29
    rw [h8, if_pos nI_0]
    unfold FX2_takesDigit_j50
    rw [fg_wr_s, up8, fn_add, fg_wr_s, ← hm1, e18, if_pos rfl]
    exact hq
  have mkN : ∀ (v : Nat) (m : bs_Mm), bs_iv (m (x + 9) 9) = nI v → v < 1000 → ¬ (1 ≤ v ∧ v ≤ 30) → FX2_makesBubble x m = some (nI 0, m) := by
    intro v m e hv hn
    unfold FX2_makesBubble
    rw [e]
    by_cases c : v < 1
    · rw [if_pos ((nI_ltI (by omega) (by decide)).mpr c)]
    · rw [if_neg (fun w => c ((nI_ltI (by omega) (by decide)).mp w)), if_neg (fun w => hn ⟨by omega, (nI_leI (by omega) (by decide)).mp w⟩)]
  rcases hy with ⟨y1, y2⟩ | ⟨y1, y2, y3, y4⟩ | ⟨y1, y2, y3, y4⟩ | ⟨y1, y2, y3, y4, y5⟩
  · subst y2
    refine rd_F_ref hT hda (tak _ 0 mu ?_ (Or.inl rfl)) (cfr_rfl x mu)
    unfold FX2_takesDigit
    rw [h8, if_neg (by decide), if_pos nI_0, e107, if_neg (fun w => by have := (nI_ltI (by omega) (by decide)).mp w; omega)]
    rfl
  · subst y4
    refine rd_F_ref hT hda (tak _ 0 m1 (td1 y1 _ _ _ ?_) (Or.inl rfl)) fr1
    rw [if_neg (fun h => y2 (tdb_c.mp h)), if_pos nI_0, mkN _ m1 e19 (by omega) (by omega), fg_b2_s, fg_dt z01_0, fg_gd_t]
    rfl
  · subst y4
    have hdb := y2.1
    have hdgb := y2.2
    have tb := (hT.2.2 (a + 1) hdb).2.2
    have T1 : cT x n T m1 := cT_fr hT fr1
    have tk := tak (nI (if tdb n T (a + 1) = true then 1 else 0)) (nI 1) m1 (td1 y1 _ _ _ (by rw [if_pos (tdb_c.mpr y2), if_neg (by decide)])) z01_1
    refine rd_F_go ((rd_step hT hda tk).1 (by decide)) fr1 ?_
    obtain ⟨m3, hm3⟩ : ∃ y, y = bs_up (bs_up m1 (x + 9) 9 (.int (nI (10 * (T a - 48) + (T (a + 1) - 48))))) (x + 9) 8 (.int (nI 2)) := ⟨_, rfl⟩
    have e38 : bs_iv (m3 (x + 9) 8) = nI 2 := by rw [hm3, bs_up_eq]; rfl
    have e39 : bs_iv (m3 (x + 9) 9) = nI (10 * (T a - 48) + (T (a + 1) - 48)) := by rw [hm3, bs_up_j (by decide), bs_up_eq]; rfl
    have up8b : ∀ v, bs_iv (bs_up m1 (x + 9) 9 v (x + 9) 8) = nI 1 := fun v => by rw [bs_up_j (by decide)]; exact e18
    refine rd_F_ref (mu1 := m3) T1 hdb ?_ (fun c hc => by rw [hm3, bs_up_f (by omega), bs_up_f (by omega)])
    have td : ∀ fl, FX2_takesDigit x m1 (nI (T (a + 1) - 48)) fl = some (0, m3) := fun fl => by
      unfold FX2_takesDigit
      rw [e18, if_neg (by decide), if_neg (by decide)]
      unfold FX2_takesDigit_j29
      rw [e18, if_neg (by decide), e19, fn_mul, fn_add, Nat.mul_comm (T a - 48) 10]
      unfold FX2_takesDigit_j50
      rw [fg_wr_s, up8b, fn_add, fg_wr_s, ← hm3, e38, if_neg (by decide), mkN _ m3 e39 (by omega) y3, fg_b2_s, fg_dt z01_0, fg_gd_t]
      rfl
    unfold FX2_takes
    rw [o1 5 (by decide) (by decide), p5, if_pos rfl, (sf_isD tb).1 hdgb, fg_bd_s, if_neg (by decide), fn_sub (by omega), td, fg_b2_s, fg_dt (Or.inl rfl : (0 : Int32) = 0 ∨ (0 : Int32) = 1), fg_gd_t]
  · subst y5
    have hdb := y2.1
    have hdgb := y2.2
    have hdc := y4.1
    have hdgc := y4.2
    have tb := (hT.2.2 (a + 1) hdb).2.2
    have tc := (hT.2.2 (a + 2) hdc).2.2
    have T1 : cT x n T m1 := cT_fr hT fr1
    have tk := tak (nI (if tdb n T (a + 1) = true then 1 else 0)) (nI 1) m1 (td1 y1 _ _ _ (by rw [if_pos (tdb_c.mpr y2), if_neg (by decide)])) z01_1
    refine rd_F_go ((rd_step hT hda tk).1 (by decide)) fr1 ?_
    obtain ⟨m3, hm3⟩ : ∃ y, y = bs_up (bs_up m1 (x + 9) 9 (.int (nI (10 * (T a - 48) + (T (a + 1) - 48))))) (x + 9) 8 (.int (nI 2)) := ⟨_, rfl⟩
    have f3 : ∀ c, c ≠ x + 9 → m3 c = m1 c := fun c hc => by rw [hm3, bs_up_f hc, bs_up_f hc]
    have o3 : ∀ k, k ≠ 8 → k ≠ 9 → m3 (x + 9) k = m1 (x + 9) k := fun k k1 k2 => by rw [hm3, bs_up_j k1, bs_up_j k2]
    have c3 : rf_c x s m3 := rf_c_of c1 (o3 6 (by decide) (by decide)) (o3 7 (by decide) (by decide)) f3
    have e38 : bs_iv (m3 (x + 9) 8) = nI 2 := by rw [hm3, bs_up_eq]; rfl
    have e39 : bs_iv (m3 (x + 9) 9) = nI (10 * (T a - 48) + (T (a + 1) - 48)) := by rw [hm3, bs_up_j (by decide), bs_up_eq]; rfl
    obtain ⟨m4, k1, k2, k3, k4, k5⟩ := rc_bub hok c3 y1 e39 y3.1 y3.2
    have up8b : ∀ v, bs_iv (bs_up m1 (x + 9) 9 v (x + 9) 8) = nI 1 := fun v => by rw [bs_up_j (by decide)]; exact e18
    have tk2 : ∀ fl, FX2_takes x m1 (nI (T (a + 1))) fl = some (nI 1, m4) := fun fl => by
      have td : FX2_takesDigit x m1 (nI (T (a + 1) - 48)) fl = some (nI 1, m4) := by
        unfold FX2_takesDigit
        rw [e18, if_neg (by decide), if_neg (by decide)]
        unfold FX2_takesDigit_j29
        rw [e18, if_neg (by decide), e19, fn_mul, fn_add, Nat.mul_comm (T a - 48) 10]
        unfold FX2_takesDigit_j50
        rw [fg_wr_s, up8b, fn_add, fg_wr_s, ← hm3, e38, if_neg (by decide), k1, fg_b2_s, fg_dt z01_1, fg_gd_t]
      unfold FX2_takes
      rw [o1 5 (by decide) (by decide), p5, if_pos rfl, (sf_isD tb).1 hdgb, fg_bd_s, if_neg (by decide), fn_sub (by omega), td, fg_b2_s, fg_dt z01_1, fg_gd_t]
    have fr4 : cfr x m1 m4 := cfr_tr (fun c hc => f3 c (by omega)) k5
    refine rd_F_go ((rd_step T1 hdb (tk2 _)).1 (by decide)) fr4 ?_
    show rd_F x n l (a + 2) m4 (a + 2)
    refine rd_F_ref (mu1 := m4) (cT_fr T1 fr4) hdc ?_ (cfr_rfl x m4)
    have e48 : bs_iv (m4 (x + 9) 8) = nI 2 := by rw [k4 8 (by decide) (by decide)]; exact e38
    have td : ∀ fl, FX2_takesDigit x m4 (nI (T (a + 2) - 48)) fl = some (0, m4) := fun fl => by
      unfold FX2_takesDigit
      rw [e48, if_pos rfl]
      rfl
    unfold FX2_takes
    rw [k4 5 (by decide) (by decide), o3 5 (by decide) (by decide), o1 5 (by decide) (by decide), p5, if_pos rfl, (sf_isD tc).1 hdgc, fg_bd_s, if_neg (by decide), fn_sub (by omega), td, fg_b2_s, fg_dt (Or.inl rfl : (0 : Int32) = 0 ∨ (0 : Int32) = 1), fg_gd_t]
/-- another sign than a digit, in MOVES -/
theorem sf_tkM {x t : Nat} {d : Int32} {mu : bs_Mm} (ht : t ≤ 255) (hd : ¬ (48 ≤ t ∧ t ≤ 57)) (h32 : t ≠ 32) (p5 : bs_iv (mu (x + 9) 5) = nI 2) : FX2_takes x mu (nI t) d = fg_b2 (FX2_takesMove x (bs_up mu (x + 9) 8 (.int (nI 0))) (nI t)) (fun v4 mu3 => fg_gd (decide (v4 = 0 ∨ v4 = 1)) (some (v4, mu3))) := by
  unfold FX2_takes
  rw [p5, if_pos rfl, (sf_isD ht).2 hd, fg_bd_s, if_pos nI_0]
  unfold FX2_takes_j25
  rw [fg_wr_s, if_neg (fun w => h32 ((nI_eq (by omega) (by decide)).mp w)), bs_up_j (by decide), p5, if_neg (by decide), if_neg (by decide)]
theorem sf_tm22 {x t : Nat} {mu : bs_Mm} (ht : t ≤ 255) (h : ¬ (97 ≤ t ∧ t ≤ 104)) : FX2_takesMove x mu (nI t) = FX2_takesMove_j22 x mu (nI t) := by
  unfold FX2_takesMove
  by_cases c : t < 97
  · rw [if_pos ((nI_ltI (by omega) (by decide)).mpr c)]
  · rw [if_neg (fun w => c ((nI_ltI (by omega) (by decide)).mp w)), if_pos ((nI_leI (by decide) (by omega)).mpr (by omega))]
/-- a name -/
theorem rc_name {x n a : Nat} {l : Int32} {T : Nat → Nat} {s : rf_S} {due : Bool} {mu : bs_Mm} (hok : rf_ok s) (hS : rc_S x s due l mu) (hT : cT x n T mu) (ha : a < n) (h1 : 97 ≤ T a) (h2 : T a ≤ 104) : ∃ mu', rd_go x n l a mu = rd_go x n l (a + 1) mu' ∧ rc_S x (rf_N s (T a - 97)) false l mu' ∧ bs_iv (mu' (x + 9) 8) = nI 0 ∧ cfr x mu mu' := by
  have ta := (hT.2.2 a ha).2.2
  obtain ⟨m1, hm1⟩ : ∃ y, y = bs_up mu (x + 9) 8 (.int (nI 0)) := ⟨_, rfl⟩
  obtain ⟨m2, hm2⟩ : ∃ y, y = bs_up m1 (x + 9) 10 (.int (nI 0)) := ⟨_, rfl⟩
  obtain ⟨hc, p5, p10, p4⟩ := hS
  have f2 : ∀ c, c ≠ x + 9 → m2 c = mu c := fun c hc => by rw [hm2, bs_up_f hc, hm1, bs_up_f hc]
  have o2 : ∀ k, k ≠ 8 → k ≠ 10 → m2 (x + 9) k = mu (x + 9) k := fun k k1 k2 => by rw [hm2, bs_up_j k2, hm1, bs_up_j k1]
  have c2 : rf_c x s m2 := rf_c_of hc (o2 6 (by decide) (by decide)) (o2 7 (by decide) (by decide)) f2
  have e8 : bs_iv (m2 (x + 9) 8) = nI 0 := by rw [hm2, bs_up_j (by decide), hm1, bs_up_eq]; rfl
  have e10 : bs_iv (m2 (x + 9) 10) = nI 0 := by rw [hm2, bs_up_eq]; rfl
  have w5 := hok.2.2.2.2.1
  have nh : ∃ m3, FX2_nameHere x m1 (nI (T a - 97)) = some m3 ∧ rf_c x (rf_N s (T a - 97)) m3 ∧ (∀ k, k ≠ 6 → m3 (x + 9) k = m2 (x + 9) k) ∧ cfr x m2 m3 := by
    have c8 : T a - 97 < 8 := by omega
    have nm := c2.2.2.1 (T a - 97) c8
    unfold FX2_nameHere
    rw [fg_wr_s, ← hm2, fn_in c8 (by decide), fg_gd_t, fn_cl (show T a - 97 < 2 ^ 31 by omega), nm]
    unfold rf_N
    cases e : rf_n s (T a - 97) with
    | none =>
      have e : (rf_nv (rf_r s) none = -1) := rfl
      rw [if_pos e, fg_gd_t, c2.2.2.2.2.1, fg_wr_s]
      obtain ⟨h1, h2, h3, h4, h5, h6, h7⟩ := c2
      refine ⟨_, rfl, ⟨cFv_of h1 fun k hk => bs_up_f (by omega), fun p hp => by rw [bs_up_f (by omega)]; exact h2 p hp, fun i hi => ?_, fun k hk => by rw [bs_up_f (by omega)]; exact h4 k hk, by rw [bs_up_f (by omega)]; exact h5, by rw [bs_up_f (by omega)]; exact h6, fun p hp => by rw [bs_up_f (by omega)]; exact h7 p hp⟩, fun k hk => by rw [bs_up_f (by omega)], fun c hc => bs_up_f (by omega)⟩
      show bs_iv (bs_up m2 (x + 18) (T a - 97) (.int (nI (rf_r s (rf_w s)))) (x + 18) i) = rf_nv (rf_r s) (if i = T a - 97 then some (rf_w s) else rf_n s i)
      by_cases d : i = T a - 97
      · subst d
        rw [bs_up_eq, if_pos rfl]
        rfl
      · rw [bs_up_j d, if_neg d]
        exact h3 i hi
    | some p =>
      have hp := hok.2.2.2.1 _ p c8 e
      have rp := (hok.2.2.2.2.2.2.2.1 p hp).1
      have q0 := g_bn hok.1
      have q2 : g_np (rf_g s) ≤ 30 := q0.2.2.1
      have ev : rf_nv (rf_r s) (some p) = nI (rf_r s p) := rfl
      obtain ⟨m3, k1, k2, k3, k4⟩ := sf_join2 hok c2 hp w5
      rw [ev, if_neg (al_nm (by omega)), fg_gd_t, c2.2.2.2.2.1, k1, fg_bd_s]
      exact ⟨m3, rfl, k2, k3, k4⟩
  obtain ⟨m3, k1, k2, k3, k4⟩ := nh
  have tk : ∀ d, FX2_takes x mu (nI (T a)) d = some (nI 1, m3) := fun d => by
    rw [sf_tkM ta (by omega) (by omega) p5, ← hm1]
    unfold FX2_takesMove
    rw [if_neg (fun w => by have := (nI_ltI (by omega) (by decide)).mp w; omega), if_neg (fun w => by have := (nI_leI (by decide) (by omega)).mp w; omega), fn_sub h1, k1, fg_bd_s, fg_b2_s, fg_dt z01_1, fg_gd_t]
  exact ⟨m3, (rd_step hT ha (tk _)).1 (by decide), ⟨k2, by rw [k3 5 (by decide), o2 5 (by decide) (by decide)]; exact p5, by rw [k3 10 (by decide)]; exact e10, by rw [k3 4 (by decide), o2 4 (by decide) (by decide)]; exact p4⟩, by rw [k3 8 (by decide)]; exact e8, cfr_tr (fun c hc => f2 c (by omega)) k4⟩
/-- ( -/
theorem rc_open {x n a : Nat} {l : Int32} {T : Nat → Nat} {s : rf_S} {due : Bool} {mu : bs_Mm} (hok : rf_ok s) (hS : rc_S x s due l mu) (hT : cT x n T mu) (ha : a < n) (h1 : T a = 40) : (rf_d s < 6 → ∃ mu', rd_go x n l a mu = rd_go x n l (a + 1) mu' ∧ rc_S x (rf_O s) true l mu' ∧ bs_iv (mu' (x + 9) 8) = nI 0 ∧ cfr x mu mu') ∧ (rf_d s = 6 → rd_F x n l a mu a) := by
  obtain ⟨m1, hm1⟩ : ∃ y, y = bs_up mu (x + 9) 8 (.int (nI 0)) := ⟨_, rfl⟩
  obtain ⟨hc, p5, p10, p4⟩ := hS
  have f1 : ∀ c, c ≠ x + 9 → m1 c = mu c := fun c hc => by rw [hm1, bs_up_f hc]
  have o1 : ∀ k, k ≠ 8 → m1 (x + 9) k = mu (x + 9) k := fun k k1 => by rw [hm1, bs_up_j k1]
  have c1 : rf_c x s m1 := rf_c_of hc (o1 6 (by decide)) (o1 7 (by decide)) f1
  have d6 := hok.2.2.2.2.2.1
  have tk : ∀ d, FX2_takes x mu (nI (T a)) d = fg_b2 (fg_b2 (FX2_opens x m1) (fun v4 mu3 => fg_gd (decide (v4 = 0 ∨ v4 = 1)) (some (v4, mu3)))) (fun v4 mu3 => fg_gd (decide (v4 = 0 ∨ v4 = 1)) (some (v4, mu3))) := fun d => by
    rw [h1, sf_tkM (by decide) (by decide) (by decide) p5, ← hm1, sf_tm22 (by decide) (by decide)]
    unfold FX2_takesMove_j22
    rw [if_pos rfl]
  refine ⟨fun hd => ?_, fun hd => ?_⟩
  · obtain ⟨m2, hm2⟩ : ∃ y, y = bs_up m1 (x + 19) (rf_d s) (.int (nI (rf_r s (rf_w s)))) := ⟨_, rfl⟩
    have e72 : bs_iv (m2 (x + 9) 7) = nI (rf_d s) := by rw [hm2, bs_up_f (by omega)]; exact c1.2.2.2.2.2.1
    have op : FX2_opens x m1 = some (nI 1, bs_up (bs_up m2 (x + 9) 7 (.int (nI (rf_d s + 1)))) (x + 9) 10 (.int (nI 1))) := by
      unfold FX2_opens
      rw [c1.2.2.2.2.2.1, if_pos ((nI_ltI (by omega) (by decide)).mpr hd), fn_in hd (by decide), fg_gd_t, fn_cl (by omega), c1.2.2.2.2.1, fg_wr_s, ← hm2, e72, fn_add, fg_wr_s, fg_wr_s]
    have tk2 : ∀ d, FX2_takes x mu (nI (T a)) d = some (nI 1, bs_up (bs_up m2 (x + 9) 7 (.int (nI (rf_d s + 1)))) (x + 9) 10 (.int (nI 1))) := fun d => by rw [tk, op, fg_b2_s, fg_dt z01_1, fg_gd_t, fg_b2_s, fg_dt z01_1, fg_gd_t]
    obtain ⟨h1, h2, h3, h4, h5, h6, h7⟩ := c1
    have nf : ∀ c v w, c ≠ x + 9 → c ≠ x + 19 → bs_up (bs_up m2 (x + 9) 7 v) (x + 9) 10 w c = m1 c := fun c v w h1 h2 => by rw [bs_up_f h1, bs_up_f h1, hm2, bs_up_f h2]
    refine ⟨_, (rd_step hT ha (tk2 _)).1 (by decide), ⟨⟨cFv_of h1 fun k hk => nf _ _ _ (by omega) (by omega), fun p hp => by rw [nf _ _ _ (by omega) (by omega)]; exact h2 p hp, fun i hi => by rw [nf _ _ _ (by omega) (by omega)]; exact h3 i hi, fun k hk => ?_, ?_, ?_, fun p hp => by rw [nf _ _ _ (by omega) (by omega)]; exact h7 p hp⟩, ?_, by rw [bs_up_eq]; rfl, ?_⟩, ?_, fun c hc => by rw [nf _ _ _ (by omega) (by omega), f1 _ (by omega)]⟩
    · have hk : k < rf_d s + 1 := hk
      show bs_iv (bs_up (bs_up m2 (x + 9) 7 _) (x + 9) 10 _ (x + 19) k) = nI (rf_r s (bs_fn (rf_k s) (rf_d s) (rf_w s) k))
      rw [bs_up_f (by omega), bs_up_f (by omega), hm2]
      by_cases e : k = rf_d s
      · subst e
        rw [bs_up_eq, bs_fn_s]
        rfl
      · rw [bs_up_j e, bs_fn_n e]
        exact h4 k (by omega)
    · rw [bs_up_j (by decide), bs_up_j (by decide), hm2, bs_up_f (by omega)]
      exact h5
    · rw [bs_up_j (by decide), bs_up_eq]
      rfl
    · rw [bs_up_j (by decide), bs_up_j (by decide), hm2, bs_up_f (by omega), o1 5 (by decide)]
      exact p5
    · rw [bs_up_j (by decide), bs_up_j (by decide), hm2, bs_up_f (by omega), o1 4 (by decide)]
      exact p4
    · rw [bs_up_j (by decide), bs_up_j (by decide), hm2, bs_up_f (by omega), hm1, bs_up_eq]
      rfl
  · refine rd_F_ref (mu1 := m1) hT ha ?_ (fun c hc => f1 c (by omega))
    have op : FX2_opens x m1 = some (nI 0, m1) := by
      unfold FX2_opens
      rw [c1.2.2.2.2.2.1, if_neg (fun w => by have := (nI_ltI (by omega) (by decide)).mp w; omega)]
    rw [tk, op, fg_b2_s, fg_dt z01_0, fg_gd_t, fg_b2_s, fg_dt z01_0, fg_gd_t]
    rfl
