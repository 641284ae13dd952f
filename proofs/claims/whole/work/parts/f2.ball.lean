/-! READING A FIGURE (own): a BALLOON, both sides -/
def gH (x m f n sc : Nat) (T : Nat → Nat) (s : rf_S) (a : Nat) (mc mm : bs_Mm) : Prop := rf_o0 s ∧ rf_c x s mc ∧ bs_iv (mc (x + 9) 5) = nI 0 ∧ bs_iv (mc (x + 9) 4) = nI sc ∧ rf_M m f s mm ∧ cT x n T mc ∧ mT m n T mm ∧ bs_iv (mm m 9) = -1 ∧ bs_iv (mm m 8) = nI a ∧ a ≤ n ∧ g_nb (rf_g s) < 6 ∧ bs_iv (mm m 5) = nI sc ∧ sc ≤ 6
theorem gH_look {x m f n sc a : Nat} {T : Nat → Nat} {s : rf_S} {mc mm : bs_Mm} (h2 : rf_c x s mc) (h5 : rf_M m f s mm) (h6 : cT x n T mc) (h7 : mT m n T mm) (h9 : bs_iv (mm m 8) = nI a) (h10 : a ≤ n) (l : Int32) : ∃ a' mc' mm', FX12_look m mm = some (tch n T a', mm') ∧ rf_c x s mc' ∧ (∀ k, k ≠ 8 → mc' (x + 9) k = mc (x + 9) k) ∧ rf_M m f s mm' ∧ (∀ k, k ≠ 8 → mm' m k = mm m k) ∧ (∀ c, c ≠ m → mm' c = mm c) ∧ bs_iv (mm' m 8) = nI a' ∧ a ≤ a' ∧ a' ≤ n ∧ ¬ (a' < n ∧ T a' = 32) ∧ rd_go x n l a mc = rd_go x n l a' mc' ∧ cfr x mc mc' ∧ mfr m f mm mm' := by
  obtain ⟨a', mm', k1, k2, k3, k4, k5, k6, k7, k8⟩ := tf_look h7 h9 h10
  obtain ⟨mc', c1, c2, c3, c4, c5⟩ := rd_skip (l := l) (a' - a) a a' mc (by omega) k3 h6 k4
  exact ⟨a', mc', mm', k1, rf_c_of h2 (c4 6 (by decide)) (c4 7 (by decide)) c5, c4, rf_M_of h5 (fun k k1 _ => k7 k k1) k8, k7, k8, k6, k2, k3, k5, c1, fun c hc => c5 c (by omega), mfr_m (mfr_rfl m f mm) (fun j j1 _ _ _ _ => k7 j j1) k8⟩
/-- # -/
theorem rc_hash {x n a : Nat} {l : Int32} {T : Nat → Nat} {s : rf_S} {mu : bs_Mm} (hc : rf_c x s mu) (p5 : bs_iv (mu (x + 9) 5) = nI 0) (hT : cT x n T mu) (ha : a < n) (h32 : T a ≠ 32) : (T a = 35 → ∃ mu', rd_go x n l a mu = rd_go x n l (a + 1) mu' ∧ rf_c x s mu' ∧ bs_iv (mu' (x + 9) 5) = nI 1 ∧ mu' (x + 9) 4 = mu (x + 9) 4 ∧ cfr x mu mu') ∧ (T a ≠ 35 → rd_F x n l a mu a) := by
  have ta := (hT.2.2 a ha).2.2
  obtain ⟨m1, hm1⟩ : ∃ y, y = bs_up mu (x + 9) 8 (.int (nI 0)) := ⟨_, rfl⟩
  obtain ⟨m2, hm2⟩ : ∃ y, y = bs_up m1 (x + 9) 5 (.int (nI 1)) := ⟨_, rfl⟩
  have o2 : ∀ k, k ≠ 8 → k ≠ 5 → m2 (x + 9) k = mu (x + 9) k := fun k k1 k2 => by rw [hm2, bs_up_j k2, hm1, bs_up_j k1]
  have f2 : ∀ c, c ≠ x + 9 → m2 c = mu c := fun c hc => by rw [hm2, bs_up_f hc, hm1, bs_up_f hc]
  have tk : ∀ d, FX2_takes x mu (nI (T a)) d = (if nI (T a) = nI 35 then some (nI 1, m2) else some (nI 0, m2)) := fun d => by
    unfold FX2_takes
    rw [p5, if_neg (by decide)]
    unfold FX2_takes_j25
    rw [fg_wr_s, ← hm1, if_neg (fun w => h32 ((nI_eq (by omega) (by decide)).mp w)), hm1, bs_up_j (by decide), ← hm1, p5, if_pos nI_0, fg_wr_s, ← hm2]
  refine ⟨fun h => ?_, fun h => ?_⟩
  · have tk2 : ∀ d, FX2_takes x mu (nI (T a)) d = some (nI 1, m2) := fun d => by rw [tk, if_pos (by rw [h])]
    exact ⟨m2, (rd_step hT ha (tk2 _)).1 (by decide), rf_c_of hc (o2 6 (by decide) (by decide)) (o2 7 (by decide) (by decide)) f2, by rw [hm2, bs_up_eq]; rfl, o2 4 (by decide) (by decide), fun c hc => f2 c (by omega)⟩
  · refine rd_F_ref (mu1 := m2) hT ha ?_ (fun c hc => f2 c (by omega))
    rw [tk, if_neg (fun w => h ((nI_eq (by omega) (by decide)).mp w))]
    rfl
/-- the sort -/
theorem rc_sort {x n a sc : Nat} {T : Nat → Nat} {s : rf_S} {mu : bs_Mm} (hok : rf_o0 s) (hb : g_nb (rf_g s) < 6) (hsc : sc ≤ 6) (hc : rf_c x s mu) (p5 : bs_iv (mu (x + 9) 5) = nI 1) (p4 : bs_iv (mu (x + 9) 4) = nI sc) (hT : cT x n T mu) (ha : a < n) (h32 : T a ≠ 32) : (48 ≤ T a → T a - 48 < sc → ∃ mu', rd_go x n (nI sc) a mu = rd_go x n (nI sc) (a + 1) mu' ∧ rc_S x (rf_P s (T a - 48)) true (nI sc) mu' ∧ bs_iv (mu' (x + 9) 8) = nI 0 ∧ cfr x mu mu') ∧ (¬ (48 ≤ T a ∧ T a - 48 < sc) → rd_F x n (nI sc) a mu a) := by
  have ta := (hT.2.2 a ha).2.2
  have q0 := g_bn hok.1
  have q1 : g_nu (rf_g s) ≤ 24 := q0.2.1
  obtain ⟨m1, hm1⟩ : ∃ y, y = bs_up mu (x + 9) 8 (.int (nI 0)) := ⟨_, rfl⟩
  have o1 : ∀ k, k ≠ 8 → m1 (x + 9) k = mu (x + 9) k := fun k k1 => by rw [hm1, bs_up_j k1]
  have f1 : ∀ c, c ≠ x + 9 → m1 c = mu c := fun c hc => by rw [hm1, bs_up_f hc]
  have c1 : rf_c x s m1 := rf_c_of hc (o1 6 (by decide)) (o1 7 (by decide)) f1
  have p51 : bs_iv (m1 (x + 9) 5) = nI 1 := by rw [o1 5 (by decide)]; exact p5
  have p41 : bs_iv (m1 (x + 9) 4) = nI sc := by rw [o1 4 (by decide)]; exact p4
  have tk : ∀ d, FX2_takes x mu (nI (T a)) d = fg_b2 (FX2_takesSort x m1 (nI (T a) - nI 48)) (fun v8 mu7 => fg_gd (decide (v8 = 0 ∨ v8 = 1)) (some (v8, mu7))) := fun d => by
    unfold FX2_takes
    rw [p5, if_neg (by decide)]
    unfold FX2_takes_j25
    rw [fg_wr_s, ← hm1, if_neg (fun w => h32 ((nI_eq (by omega) (by decide)).mp w)), p51, if_neg (by decide), if_pos rfl]
  refine ⟨fun h1 h2 => ?_, fun h => ?_⟩
  · obtain ⟨m2, s1, s2, s3⟩ := sf_stG (x := x) (s := T a - 48) c1.1 (show g_nb (rf_g s) < 6 from hb)
    have s4 := sf_stFr s1
    rw [show x + 10 + 6 = x + 16 by omega] at s4
    have e8 : bs_iv (m2 (x + 10) 8) = nI (g_np (rf_g s)) := s2.2.2.1
    obtain ⟨m3, hm3⟩ : ∃ y, y = bs_up m2 (x + 10) 8 (.int (nI (g_np (rf_g s) + 1))) := ⟨_, rfl⟩
    have f3 : ∀ c, c ≠ x + 10 → m3 c = m2 c := fun c hc => by rw [hm3, bs_up_f hc]
    have np := sf_np (x := x) (mu := m2) e8 (show g_np (rf_g s) < 30 by have := hok.2.1; omega)
    rw [← hm3] at np
    obtain ⟨m4, hm4⟩ : ∃ y, y = bs_up (bs_up (bs_up m3 (x + 9) 6 (.int (nI (g_np (rf_g s))))) (x + 9) 5 (.int (nI 2))) (x + 9) 10 (.int (nI 1)) := ⟨_, rfl⟩
    have f4 : ∀ c, c ≠ x + 9 → m4 c = m3 c := fun c hc => by rw [hm4, bs_up_f hc, bs_up_f hc, bs_up_f hc]
    have o4 : ∀ k, k ≠ 5 → k ≠ 6 → k ≠ 10 → m4 (x + 9) k = m1 (x + 9) k := fun k k5 k6 k10 => by rw [hm4, bs_up_j k10, bs_up_j k5, bs_up_j k6, f3 _ (by omega), s3 _ (by omega)]
    have ts : FX2_takesSort x m1 (nI (T a) - nI 48) = some (nI 1, m4) := by
      unfold FX2_takesSort
      rw [fn_sub h1, if_neg (nI_pos (by omega)), p41, if_pos ((nI_ltI (by omega) (by omega)).mpr h2), s1, fg_bd_s, np, fg_b2_s, fg_wr_s, fg_wr_s, fg_wr_s, ← hm4]
    have tk2 : ∀ d, FX2_takes x mu (nI (T a)) d = some (nI 1, m4) := fun d => by rw [tk, ts, fg_b2_s, fg_dt z01_1, fg_gd_t]
    have m4o : ∀ c, (c < x + 9 ∨ x + 16 < c) → m4 c = mu c := fun c hc => by rw [f4 c (by omega), f3 c (by omega), s3 c (by omega), f1 c (by omega)]
    have V3 : cFv (x + 10) (rf_R (rf_g (rf_P s (T a - 48))) (rf_r (rf_P s (T a - 48)))) m4 := by
      have rb : ∀ z, z < g_np (rf_g s) → rf_Br s z = rf_r s z := fun z hz => rf_Br_o hz
      obtain ⟨v6, v7, v8, v9, w1, w2, w3, w4, w5, w6⟩ := s2
      have n4 : ∀ c, c ≠ x + 9 → c ≠ x + 10 → m4 c = m2 c := fun c c1 c2 => by rw [f4 c c1, f3 c c2]
      have n10 : ∀ k, k ≠ 8 → m4 (x + 10) k = m2 (x + 10) k := fun k hk => by rw [f4 _ (by omega), hm3, bs_up_j hk]
      refine ⟨by rw [n10 6 (by decide)]; exact v6, by rw [n10 7 (by decide)]; exact v7, by rw [f4 _ (by omega), hm3, bs_up_eq]; rfl, by rw [n10 9 (by decide)]; exact v9, w1.of (n4 _ (by omega) (by omega)), w2.of (n4 _ (by omega) (by omega)), fun i hi => ?_, fun i hi => ?_, w5.of (n4 _ (by omega) (by omega)), fun p hp => ?_⟩
      · rw [n4 _ (by omega) (by omega), w3 i hi]
        show nI (rf_r s (g_fr (rf_g s) i)) = nI (rf_Br s (g_fr (rf_g s) i))
        rw [rb _ (hok.2.2.1 i hi).1]
      · rw [n4 _ (by omega) (by omega), w4 i hi]
        show nI (rf_r s (g_to (rf_g s) i)) = nI (rf_Br s (g_to (rf_g s) i))
        rw [rb _ (hok.2.2.1 i hi).2]
      · have hp : p < g_np (rf_g s) + 1 := hp
        rw [n4 _ (by omega) (by omega), show x + 10 + 6 = x + 16 by omega, s4, c1.2.2.2.2.2.2 p (by have := hok.2.1; omega)]
        refine congrArg nI (g_sm_cg _ fun i hi => ?_)
        show g_if (rf_r s (g_fr (rf_g s) i) = p) + g_if (rf_r s (g_to (rf_g s) i) = p) = g_if (rf_Br s (g_fr (rf_g s) i) = p) + g_if (rf_Br s (g_to (rf_g s) i) = p)
        rw [rb _ (hok.2.2.1 i hi).1, rb _ (hok.2.2.1 i hi).2]
    refine ⟨m4, (rd_step hT ha (tk2 _)).1 (by decide), ⟨⟨V3, fun p hp => ?_, fun i hi => ?_, fun k hk => ?_, ?_, ?_, fun p hp => ?_⟩, by rw [hm4, bs_up_j (by decide), bs_up_eq]; rfl, by rw [hm4, bs_up_eq]; rfl, by rw [o4 4 (by decide) (by decide) (by decide)]; exact p41⟩, ?_, fun c hc => m4o c (by omega)⟩
    · show bs_iv (m4 (x + 17) p) = if p < g_np (rf_g s) + 1 ∧ rf_Br s p ≠ p then -1 else nI 0
      rw [m4o _ (by omega), hc.2.1 p hp]
      by_cases e : p = g_np (rf_g s)
      · subst e
        rw [if_neg (fun h => absurd h.1 (Nat.lt_irrefl _)), if_neg (fun h => h.2 (rf_Br_n s))]
      · by_cases d : p < g_np (rf_g s)
        · rw [rf_Br_o d]
          by_cases u : rf_r s p ≠ p
          · rw [if_pos ⟨d, u⟩, if_pos ⟨by omega, u⟩]
          · rw [if_neg (fun h => u h.2), if_neg (fun h => u h.2)]
        · rw [if_neg (fun h => d h.1), if_neg (fun h => by omega)]
    · show bs_iv (m4 (x + 18) i) = rf_nv (rf_Br s) (rf_n s i)
      rw [m4o _ (by omega), hc.2.2.1 i hi]
      cases c : rf_n s i with
      | none => rfl
      | some z =>
        show nI (rf_r s z) = nI (rf_Br s z)
        rw [rf_Br_o (hok.2.2.2.1 i z hi c)]
    · have hk : k < rf_d s := hk
      have := hok.2.2.2.2.1
      omega
    · show bs_iv (m4 (x + 9) 6) = nI (rf_Br s (g_np (rf_g s)))
      rw [rf_Br_n, hm4, bs_up_j (by decide), bs_up_j (by decide), bs_up_eq]
      rfl
    · rw [o4 7 (by decide) (by decide) (by decide)]
      exact c1.2.2.2.2.2.1
    · by_cases e : p < g_np (rf_g s) + 1
      · exact V3.2.2.2.2.2.2.2.2.2 p e
      · rw [f4 _ (by omega), f3 _ (by omega), s4, c1.2.2.2.2.2.2 p hp]
        refine congrArg nI (g_sm_cg _ fun i hi => ?_)
        show g_if (rf_r s (g_fr (rf_g s) i) = p) + g_if (rf_r s (g_to (rf_g s) i) = p) = g_if (rf_Br s (g_fr (rf_g s) i) = p) + g_if (rf_Br s (g_to (rf_g s) i) = p)
        rw [rf_Br_o (hok.2.2.1 i hi).1, rf_Br_o (hok.2.2.1 i hi).2]
    · rw [o4 8 (by decide) (by decide) (by decide), hm1, bs_up_eq]
      rfl
  · have ts : FX2_takesSort x m1 (nI (T a) - nI 48) = some (nI 0, m1) := by
      unfold FX2_takesSort
      by_cases c : 48 ≤ T a
      · rw [fn_sub c, if_neg (nI_pos (by omega)), p41, if_neg (fun w => h ⟨c, (nI_ltI (by omega) (by omega)).mp w⟩)]
      · have neg : nI (T a) - nI 48 < 0 := by
          rw [Int32.lt_iff_toInt_lt, pk_sub_toInt (by omega) (by decide), Int32.toInt_zero]
          omega
        rw [if_pos neg]
    refine rd_F_ref (mu1 := m1) hT ha ?_ (fun c hc => f1 c (by omega))
    rw [tk, ts, fg_b2_s, fg_dt z01_0, fg_gd_t]
    rfl
