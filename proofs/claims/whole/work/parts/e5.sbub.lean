/-! READING A FIGURE (own): a bubble is read, both sides -/
set_option maxHeartbeats 2000000 in
theorem rm_put {m f v a n : Nat} {T : Nat → Nat} {s : rf_S} {mu : bs_Mm} (hf : f ≤ 12) (hok : rf_ok s) (hM : rf_M m f s mu) (hT : mT m n T mu) (hn : g_nu (rf_g s) < 24) (h1 : 1 ≤ v) (h2 : v ≤ 30) (h8 : bs_iv (mu m 8) = nI a) (ha : a ≤ n) (hd : ¬ tdg n T a) : ∃ mu', FX12_bubble_j70 m mu (nI v) = some mu' ∧ rf_M m f (rf_B s v) mu' ∧ (∀ k, k ≠ 23 → k ≠ 24 → mu' m k = mu m k) ∧ mfr m f mu mu' := by
  obtain ⟨a1, a2, a3, a4, a5, a6, a7, a8, a9, a10, a11, a12⟩ := id hok
  have q0 := g_bn a1
  have q1 : g_nb (rf_g s) ≤ 6 := q0.1
  have t2 := hT.2.1
  obtain ⟨M1, M2, M3, M4, M5, M6, M7, M8, M9, M10⟩ := hM
  have h13 : fg_in (nI f) 13 = true := fn_in (show f < 13 by omega) (by decide)
  have cf : (nI f).toNatClampNeg = f := fn_cl (by omega)
  have kx : nI 24 * nI f + nI (g_nu (rf_g s)) = nI (24 * f + g_nu (rf_g s)) := by rw [fn_mul, fn_add]
  have gk : fg_in (nI (24 * f + g_nu (rf_g s))) 312 = true := fn_in (show 24 * f + g_nu (rf_g s) < 312 by omega) (by decide)
  have ck : (nI (24 * f + g_nu (rf_g s))).toNatClampNeg = 24 * f + g_nu (rf_g s) := fn_cl (by omega)
  obtain ⟨m1, hm1⟩ : ∃ y, y = bs_up mu (m + 10) (24 * f + g_nu (rf_g s)) (.int (nI v)) := ⟨_, rfl⟩
  obtain ⟨m2, hm2⟩ : ∃ y, y = bs_up m1 (m + 13) (24 * f + g_nu (rf_g s)) (.int (nI (g_nb (rf_g s) - 1))) := ⟨_, rfl⟩
  obtain ⟨m3, hm3⟩ : ∃ y, y = bs_up m2 (m + 11) (24 * f + g_nu (rf_g s)) (.int (nI (rf_w s))) := ⟨_, rfl⟩
  obtain ⟨m4, hm4⟩ : ∃ y, y = bs_up m3 (m + 15) (g_np (rf_g s)) (.int (nI (g_np (rf_g s)))) := ⟨_, rfl⟩
  obtain ⟨m5, hm5⟩ : ∃ y, y = bs_up m4 m 23 (.int (nI (g_np (rf_g s) + 1))) := ⟨_, rfl⟩
  obtain ⟨m6, hm6⟩ : ∃ y, y = bs_up m5 m 24 (.int (nI (g_np (rf_g s)))) := ⟨_, rfl⟩
  obtain ⟨m7, hm7⟩ : ∃ y, y = bs_up m6 (m + 12) (24 * f + g_nu (rf_g s)) (.int (nI (g_np (rf_g s)))) := ⟨_, rfl⟩
  obtain ⟨m8, hm8⟩ : ∃ y, y = bs_up m7 (m + 8) f (.int (nI (g_nu (rf_g s) + 1))) := ⟨_, rfl⟩
  have f1 : ∀ c, c ≠ m + 10 → m1 c = mu c := fun c hc => by rw [hm1, bs_up_f hc]
  have f2 : ∀ c, c ≠ m + 13 → m2 c = m1 c := fun c hc => by rw [hm2, bs_up_f hc]
  have f3 : ∀ c, c ≠ m + 11 → m3 c = m2 c := fun c hc => by rw [hm3, bs_up_f hc]
  have f4 : ∀ c, c ≠ m + 15 → m4 c = m3 c := fun c hc => by rw [hm4, bs_up_f hc]
  have f5 : ∀ c, c ≠ m → m5 c = m4 c := fun c hc => by rw [hm5, bs_up_f hc]
  have f6 : ∀ c, c ≠ m → m6 c = m5 c := fun c hc => by rw [hm6, bs_up_f hc]
  have f7 : ∀ c, c ≠ m + 12 → m7 c = m6 c := fun c hc => by rw [hm7, bs_up_f hc]
  have f8 : ∀ c, c ≠ m + 8 → m8 c = m7 c := fun c hc => by rw [hm8, bs_up_f hc]
  have mm3 : m3 m = mu m := by rw [f3 _ (by omega), f2 _ (by omega), f1 _ (by omega)]
  have mm8 : ∀ k, k ≠ 23 → k ≠ 24 → m8 m k = mu m k := fun k k1 k2 => by rw [f8 _ (by omega), f7 _ (by omega), hm6, bs_up_j k2, hm5, bs_up_j k1, f4 _ (by omega), mm3]
  have r10 : m8 (m + 10) = m1 (m + 10) := by rw [f8 _ (by omega), f7 _ (by omega), f6 _ (by omega), f5 _ (by omega), f4 _ (by omega), f3 _ (by omega), f2 _ (by omega)]
  have r13 : m8 (m + 13) = m2 (m + 13) := by rw [f8 _ (by omega), f7 _ (by omega), f6 _ (by omega), f5 _ (by omega), f4 _ (by omega), f3 _ (by omega)]
  have r11 : m8 (m + 11) = m3 (m + 11) := by rw [f8 _ (by omega), f7 _ (by omega), f6 _ (by omega), f5 _ (by omega), f4 _ (by omega)]
  have r12 : m8 (m + 12) = m7 (m + 12) := by rw [f8 _ (by omega)]
  have r15 : m8 (m + 15) = m4 (m + 15) := by rw [f8 _ (by omega), f7 _ (by omega), f6 _ (by omega), f5 _ (by omega)]
  have s13 : m1 (m + 13) = mu (m + 13) := f1 _ (by omega)
  have s11 : m2 (m + 11) = mu (m + 11) := by rw [f2 _ (by omega), f1 _ (by omega)]
  have s12 : m6 (m + 12) = mu (m + 12) := by rw [f6 _ (by omega), f5 _ (by omega), f4 _ (by omega), f3 _ (by omega), f2 _ (by omega), f1 _ (by omega)]
  have s15 : m3 (m + 15) = mu (m + 15) := by rw [f3 _ (by omega), f2 _ (by omega), f1 _ (by omega)]
  have ro : ∀ c, c ≠ m → c ≠ m + 8 → c ≠ m + 10 → c ≠ m + 11 → c ≠ m + 12 → c ≠ m + 13 → c ≠ m + 15 → m8 c = mu c := fun c c1 c2 c3 c4 c5 c6 c7 => by rw [f8 _ c2, f7 _ c5, f6 _ c1, f5 _ c1, f4 _ c7, f3 _ c4, f2 _ c6, f1 _ c3]
  have B8 : ∀ h0, mB m f (g_nu (rf_Bg s v h0)) (g_le (rf_Bg s v h0)) (g_bo (rf_Bg s v h0)) (g_fr (rf_Bg s v h0)) (g_to (rf_Bg s v h0)) m8 := fun h0 => by
    refine ⟨by rw [hm8, bs_up_eq]; rfl, fun j hj => ?_⟩
    have hj : j < g_nu (rf_g s) + 1 := hj
    show bs_iv (m8 (m + 10) (24 * f + j)) = nI (bs_fn (g_le (rf_g s)) (g_nu (rf_g s)) v j) ∧ bs_iv (m8 (m + 11) (24 * f + j)) = nI (bs_fn (g_fr (rf_g s)) (g_nu (rf_g s)) (rf_w s) j) ∧ bs_iv (m8 (m + 12) (24 * f + j)) = nI (bs_fn (g_to (rf_g s)) (g_nu (rf_g s)) (g_np (rf_g s)) j) ∧ bs_iv (m8 (m + 13) (24 * f + j)) = nI (bs_fn (g_bo (rf_g s)) (g_nu (rf_g s)) (g_nb (rf_g s) - 1) j)
    rw [r10, r11, r12, r13]
    by_cases e : j = g_nu (rf_g s)
    · subst e
      rw [bs_fn_s, bs_fn_s, bs_fn_s, bs_fn_s, hm1, bs_up_eq, hm2, bs_up_eq, hm3, bs_up_eq, hm7, bs_up_eq]
      exact ⟨rfl, rfl, rfl, rfl⟩
    · have p10 : m1 (m + 10) (24 * f + j) = mu (m + 10) (24 * f + j) := by rw [hm1, bs_up_j (by omega)]
      have p13 : m2 (m + 13) (24 * f + j) = mu (m + 13) (24 * f + j) := by rw [hm2, bs_up_j (by omega), s13]
      have p11 : m3 (m + 11) (24 * f + j) = mu (m + 11) (24 * f + j) := by rw [hm3, bs_up_j (by omega), s11]
      have p12 : m7 (m + 12) (24 * f + j) = mu (m + 12) (24 * f + j) := by rw [hm7, bs_up_j (by omega), s12]
      rw [bs_fn_n e, bs_fn_n e, bs_fn_n e, bs_fn_n e, p10, p11, p12, p13]
      exact M1.2 j (by omega)
  have hh8 : mh_ok m (g_np (rf_g s) + 1) (rf_Br s) m8 := by
    have := mh_new (mu := mu) a8 M5
    unfold mh_ok at this ⊢
    rw [r15, hm4]
    have e : ∀ p, bs_up m3 (m + 15) (g_np (rf_g s)) (.int (nI (g_np (rf_g s)))) (m + 15) p = bs_up mu (m + 15) (g_np (rf_g s)) (.int (nI (g_np (rf_g s)))) (m + 15) p := fun p => by
      by_cases c : p = g_np (rf_g s)
      · subst c
        rw [bs_up_eq, bs_up_eq]
      · rw [bs_up_j c, bs_up_j c, s15]
    obtain ⟨hd, hh⟩ := this
    exact ⟨hd, fun p hp => by rw [e p]; exact hh p hp⟩
  have og := rf_ok_g hok hn h1 h2 0 (Nat.zero_le _)
  have oB := rf_ok_B hok hn h1 h2
  have e25 : bs_iv (m8 m 25) = nI f := by rw [mm8 25 (by decide) (by decide)]; exact M9
  have hld := tf_held hf (B8 0) e25 hh8 og (fun i hi => oB.2.2.1 i hi) (fun p hp => (oB.2.2.2.2.2.2.2.1 p hp).1)
  have sm : g_sm (g_sl (rf_R (rf_Bg s v 0) (rf_Br s))) (g_nu (rf_Bg s v 0)) = g_sm (g_sl (g_bb0 (rf_H s) v (rf_r s (rf_w s)) (g_np (rf_g s)) 0)) (g_nu (rf_g s) + 1) := g_sm_cg _ fun i hi => g_sl_cg (A := rf_R (rf_Bg s v 0) (rf_Br s)) (B := g_bb0 (rf_H s) v (rf_r s (rf_w s)) (g_np (rf_g s)) 0) rfl (fun j hj => ⟨(rf_B_eq hok v 0 j hj).2.1, (rf_B_eq hok v 0 j hj).2.2.1, (rf_B_eq hok v 0 j hj).2.2.2⟩) i hi
  rw [sm] at hld
  have smb := g_sm1 (h := g_sl (g_bb0 (rf_H s) v (rf_r s (rf_w s)) (g_np (rf_g s)) 0)) (fun i => g_sl_le _ i) (g_nu (rf_g s) + 1)
  have mhb : g_mh (rf_g s) ≤ 24 := q0.2.2.2
  have e14 : bs_iv (m8 (m + 14) f) = nI (g_mh (rf_g s)) := by rw [ro _ (by omega) (by omega) (by omega) (by omega) (by omega) (by omega) (by omega)]; exact M4
  have mx := (nI_mxmn (a := g_mh (rf_g s)) (b := g_sm (g_sl (g_bb0 (rf_H s) v (rf_r s (rf_w s)) (g_np (rf_g s)) 0)) (g_nu (rf_g s) + 1)) (by omega) (by omega)).1
  refine ⟨bs_up m8 (m + 14) f (.int (nI (rf_mh s v))), ?_, ⟨?_, ?_, fun b hb => ?_, by rw [bs_up_eq]; rfl, ?_, fun i hi => ?_, ?_, ?_, ?_, ?_⟩, fun k k1 k2 => by rw [bs_up_f (by omega)]; exact mm8 k k1 k2, ?_⟩
  · have dg := (tf_isD (m := m) (mu := mu) (n := n) (T := T) (a := a) (fun h => (hT.2.2 a h).2.2)).2 hd
    have i1 : FX12_in m mu (nI v) (nI 1) (nI 30) = some 1 := tf_inY h1 h2 (by decide)
    have n3 := tf_np (m := m) (mu := m3) (n := g_np (rf_g s)) (by rw [mm3]; exact M7) (by omega)
    rw [← hm4, ← hm5] at n3
    have e251 : bs_iv (m1 m 25) = nI f := by rw [f1 _ (by omega)]; exact M9
    have e6 : bs_iv (m1 (m + 6) f) = nI (g_nb (rf_g s)) := by rw [f1 _ (by omega)]; exact M2
    have e24 : bs_iv (m2 m 24) = nI (rf_w s) := by rw [f2 _ (by omega), f1 _ (by omega)]; exact M8
    have e246 : bs_iv (m6 m 24) = nI (g_np (rf_g s)) := by rw [hm6, bs_up_eq]; rfl
    have e257 : bs_iv (m7 m 25) = nI f := by rw [f7 _ (by omega), hm6, bs_up_j (by decide), hm5, bs_up_j (by decide), f4 _ (by omega), mm3]; exact M9
    have e87 : bs_iv (m7 (m + 8) f) = nI (g_nu (rf_g s)) := by rw [f7 _ (by omega), f6 _ (by omega), f5 _ (by omega), f4 _ (by omega), f3 _ (by omega), f2 _ (by omega), f1 _ (by omega)]; exact M1.1
    unfold FX12_bubble_j70
    rw [i1, fg_bd_s, if_neg (by decide), tf_here hT h8 (by omega), fg_bd_s, dg, fg_bd_s, if_pos nI_0, M9, h13, fg_gd_t, cf, M1.1, kx, gk, fg_gd_t, ck, fg_wr_s, ← hm1, e251, h13, fg_gd_t, fg_gd_t, cf, e6, fn_sub a12, fg_wr_s, ← hm2, fg_gd_t, e24, fg_wr_s, ← hm3, n3, fg_b2_s, fg_wr_s, ← hm6, fg_gd_t, e246, fg_wr_s, ← hm7, e257, h13, fg_gd_t, fg_gd_t, cf, e87, fn_add, fg_wr_s, ← hm8, e25, h13, fg_gd_t, hld, fg_bd_s, fg_gd_t, cf, e14, mx, fg_wr_s]
    rfl
  · exact mB_of (B8 (rf_mh s v)) (bs_up_f (by omega)) (bs_up_f (by omega)) (bs_up_f (by omega)) (bs_up_f (by omega)) (bs_up_f (by omega))
  · rw [bs_up_f (by omega), ro _ (by omega) (by omega) (by omega) (by omega) (by omega) (by omega) (by omega)]
    exact M2
  · rw [bs_up_f (by omega), ro _ (by omega) (by omega) (by omega) (by omega) (by omega) (by omega) (by omega)]
    exact M3 b hb
  · obtain ⟨hd, hh⟩ := hh8
    exact ⟨hd, fun p hp => by rw [bs_up_f (by omega)]; exact hh p hp⟩
  · rw [bs_up_f (by omega), ro _ (by omega) (by omega) (by omega) (by omega) (by omega) (by omega) (by omega)]
    exact M6 i hi
  · rw [bs_up_f (by omega), f8 _ (by omega), f7 _ (by omega), hm6, bs_up_j (by decide), hm5, bs_up_eq]
    rfl
  · rw [bs_up_f (by omega), f8 _ (by omega), f7 _ (by omega), hm6, bs_up_eq]
    rfl
  · rw [bs_up_f (by omega)]
    exact e25
  · rw [bs_up_f (by omega), mm8 10 (by decide) (by decide)]
    exact M10
  · refine ⟨fun k k1 k2 k3 k4 k5 => by rw [bs_up_f (by omega)]; exact mm8 k k4 k5, ?_⟩
    refine mKp_up ?_ (Or.inr ⟨by omega, by omega⟩) (fun _ => Nat.le_refl _) (fun h => by omega) fun h1 h2 => by omega
    rw [hm8]
    refine mKp_up ?_ (Or.inr ⟨by omega, by omega⟩) (fun _ => Nat.le_refl _) (fun h => by omega) fun h1 h2 => by omega
    rw [hm7]
    refine mKp_up ?_ (Or.inr ⟨by omega, by omega⟩) (fun h => by omega) (fun h => by omega) fun h1 h2 => by omega
    rw [hm6]
    refine mKp_up ?_ (Or.inl rfl) (fun h => by omega) (fun h => by omega) fun h1 h2 => by omega
    rw [hm5]
    refine mKp_up ?_ (Or.inl rfl) (fun h => by omega) (fun h => by omega) fun h1 h2 => by omega
    rw [hm4]
    refine mKp_up ?_ (Or.inr ⟨by omega, by omega⟩) (fun h => by omega) (fun h => by omega) fun h1 h2 => by omega
    rw [hm3]
    refine mKp_up ?_ (Or.inr ⟨by omega, by omega⟩) (fun h => by omega) (fun h => by omega) fun h1 h2 => by omega
    rw [hm2]
    refine mKp_up ?_ (Or.inr ⟨by omega, by omega⟩) (fun h => by omega) (fun h => by omega) fun h1 h2 => by omega
    rw [hm1]
    exact mKp_up (mKp_rfl m f mu) (Or.inr ⟨by omega, by omega⟩) (fun h => by omega) (fun h => by omega) fun h1 h2 => by omega
/-- what reading a bubble from byte a on comes to: value and next byte, or the fault -/
def rb_y (n : Nat) (T : Nat → Nat) (u a v b : Nat) : Prop := u < 24 ∧ 1 ≤ v ∧ v ≤ 30 ∧ ((b = a + 1 ∧ v = T a - 48 ∧ ¬ tdg n T (a + 1)) ∨ (b = a + 2 ∧ v = 10 * (T a - 48) + (T (a + 1) - 48) ∧ tdg n T (a + 1) ∧ ¬ tdg n T (a + 2)))
def rb_n (n : Nat) (T : Nat → Nat) (u a p : Nat) : Prop := (u = 24 ∧ p = a) ∨ (u < 24 ∧ ¬ tdg n T (a + 1) ∧ T a = 48 ∧ p = a) ∨ (u < 24 ∧ tdg n T (a + 1) ∧ ¬ (1 ≤ 10 * (T a - 48) + (T (a + 1) - 48) ∧ 10 * (T a - 48) + (T (a + 1) - 48) ≤ 30) ∧ p = a + 1) ∨ (u < 24 ∧ tdg n T (a + 1) ∧ (1 ≤ 10 * (T a - 48) + (T (a + 1) - 48) ∧ 10 * (T a - 48) + (T (a + 1) - 48) ≤ 30) ∧ tdg n T (a + 2) ∧ p = a + 2)
theorem tf_inO {m v : Nat} {mu : bs_Mm} (hv : v < 1000) (h : ¬ (1 ≤ v ∧ v ≤ 30)) : FX12_in m mu (nI v) (nI 1) (nI 30) = some 0 := by
  have e : bs_in (nI v) (nI 1) (nI 30) = 0 := if_neg (by
    rintro ⟨h1, h2⟩
    exact h ⟨(nI_leI (by omega) (by omega)).mp h1, (nI_leI (by omega) (by omega)).mp h2⟩)
  rw [tf_in, e]
set_option maxHeartbeats 1000000 in
theorem rm_bub {m f a n : Nat} {T : Nat → Nat} {s : rf_S} {mu : bs_Mm} (hf : f ≤ 12) (hok : rf_ok s) (hM : rf_M m f s mu) (hT : mT m n T mu) (h9 : bs_iv (mu m 9) = -1) (h8 : bs_iv (mu m 8) = nI a) (hd : tdg n T a) : ∃ mu', FX12_bubble m mu = some mu' ∧ mfr m f mu mu' ∧ ((∃ v b, rb_y n T (g_nu (rf_g s)) a v b ∧ bs_iv (mu' m 9) = -1 ∧ bs_iv (mu' m 8) = nI b ∧ rf_M m f (rf_B s v) mu') ∨ ∃ p, rb_n n T (g_nu (rf_g s)) a p ∧ bs_iv (mu' m 9) = nI p) := by
  have t2 := hT.2.1
  have q0 := g_bn hok.1
  have q1 : g_nu (rf_g s) ≤ 24 := q0.2.1
  have ta := (hT.2.2 a hd.1).2.2
  have hda := hd.1
  have h13 : fg_in (nI f) 13 = true := fn_in (show f < 13 by omega) (by decide)
  have cf : (nI f).toNatClampNeg = f := fn_cl (by omega)
  have M9 := hM.2.2.2.2.2.2.2.2.1
  have M1 := hM.1.1
  unfold FX12_bubble
  rw [M9, h13, fg_gd_t, cf, M1]
  by_cases c24 : g_nu (rf_g s) = 24
  · rw [if_pos (by rw [c24]), tf_bad h9 h8, fg_bd_s]
    exact ⟨_, rfl, mfr_m (mfr_rfl m f mu) (fun j _ j2 _ _ _ => bs_up_j j2) (fun a ha => bs_up_f ha), Or.inr ⟨a, Or.inl ⟨c24, rfl⟩, by rw [bs_up_eq]; rfl⟩⟩
  · have hn : g_nu (rf_g s) < 24 := by omega
    have ch : tch n T a = nI (T a) := if_pos hd.1
    obtain ⟨m1, hm1⟩ : ∃ y, y = bs_up mu m 8 (.int (nI (a + 1))) := ⟨_, rfl⟩
    have o1 : ∀ k, k ≠ 8 → m1 m k = mu m k := fun k hk => by rw [hm1, bs_up_j hk]
    have f1 : ∀ c, c ≠ m → m1 c = mu c := fun c hc => by rw [hm1, bs_up_f hc]
    have e1 : bs_iv (m1 m 8) = nI (a + 1) := by rw [hm1, bs_up_eq]; rfl
    have T1 : mT m n T m1 := mT_of hT (o1 7 (by decide)) (f1 _ (by omega))
    have M1' : rf_M m f s m1 := rf_M_of hM (fun k k1 _ => o1 k k1) f1
    have m19 : bs_iv (m1 m 9) = -1 := by rw [o1 9 (by decide)]; exact h9
    have fr1 : mfr m f mu m1 := mfr_m (mfr_rfl m f mu) (fun j j1 _ _ _ _ => o1 j j1) f1
    have hdg := hd.2
    have ok1 : ∀ i, i < n → T i ≤ 255 := fun i hi => (hT.2.2 i hi).2.2
    rw [if_neg (fun w => c24 ((nI_eq (by omega) (by decide)).mp w)), tf_here hT h8 (by omega), fg_bd_s, h8, fn_add, fg_wr_s, ← hm1, tf_here T1 e1 (by omega), fg_bd_s, ch, fn_sub (by omega)]
    by_cases d1 : tdg n T (a + 1)
    · have ch1 : tch n T (a + 1) = nI (T (a + 1)) := if_pos d1.1
      have hd1 := d1.2
      have tb := ok1 _ d1.1
      obtain ⟨m2, hm2⟩ : ∃ y, y = bs_up m1 m 8 (.int (nI (a + 2))) := ⟨_, rfl⟩
      have o2 : ∀ k, k ≠ 8 → m2 m k = m1 m k := fun k hk => by rw [hm2, bs_up_j hk]
      have f2 : ∀ c, c ≠ m → m2 c = m1 c := fun c hc => by rw [hm2, bs_up_f hc]
      have e2 : bs_iv (m2 m 8) = nI (a + 2) := by rw [hm2, bs_up_eq]; rfl
      have T2 : mT m n T m2 := mT_of T1 (o2 7 (by decide)) (f2 _ (by omega))
      have M2' : rf_M m f s m2 := rf_M_of M1' (fun k k1 _ => o2 k k1) f2
      have m29 : bs_iv (m2 m 9) = -1 := by rw [o2 9 (by decide)]; exact m19
      have fr2 : mfr m f mu m2 := mfr_m fr1 (fun j j1 _ _ _ _ => o2 j j1) f2
      rw [(tf_isD (ok1 _)).1 d1, fg_bd_s, if_neg (by decide), fg_bd_s, e1, fn_add, fg_wr_s, ← hm2, ch1, fn_mul, fn_add, fn_sub (by omega), show 10 * (T a - 48) + T (a + 1) - 48 = 10 * (T a - 48) + (T (a + 1) - 48) by omega]
      by_cases r : 1 ≤ 10 * (T a - 48) + (T (a + 1) - 48) ∧ 10 * (T a - 48) + (T (a + 1) - 48) ≤ 30
      · by_cases d2 : tdg n T (a + 2)
        · refine ⟨bs_up m2 m 9 (.int (nI (a + 2))), ?_, mfr_m fr2 (fun j _ j2 _ _ _ => bs_up_j j2) (fun a ha => bs_up_f ha), Or.inr ⟨a + 2, Or.inr (Or.inr (Or.inr ⟨hn, d1, r, d2, rfl⟩)), by rw [bs_up_eq]; rfl⟩⟩
          unfold FX12_bubble_j70
          rw [tf_inY r.1 r.2 (by decide), fg_bd_s, if_neg (by decide), tf_here T2 e2 (by omega), fg_bd_s, (tf_isD (ok1 _)).1 d2, fg_bd_s, if_neg (by decide), tf_bad m29 e2, fg_bd_s]
        · obtain ⟨m3, k1, k2, k3, k4⟩ := rm_put hf hok M2' T2 hn r.1 r.2 e2 (by have := d1.1; omega) d2
          exact ⟨m3, k1, mfr_tr fr2 k4, Or.inl ⟨_, a + 2, ⟨hn, r.1, r.2, Or.inr ⟨rfl, rfl, d1, d2⟩⟩, by rw [k3 9 (by decide) (by decide)]; exact m29, by rw [k3 8 (by decide) (by decide)]; exact e2, k2⟩⟩
      · obtain ⟨m3, hm3⟩ : ∃ y, y = bs_up m2 m 8 (.int (nI (a + 1))) := ⟨_, rfl⟩
        have e38 : bs_iv (m3 m 8) = nI (a + 1) := by rw [hm3, bs_up_eq]; rfl
        have e39 : bs_iv (m3 m 9) = -1 := by rw [hm3, bs_up_j (by decide)]; exact m29
        refine ⟨bs_up m3 m 9 (.int (nI (a + 1))), ?_, mfr_m fr2 (fun j j1 j2 _ _ _ => by rw [bs_up_j j2, hm3, bs_up_j j1]) (fun a ha => by rw [bs_up_f ha, hm3, bs_up_f ha]), Or.inr ⟨a + 1, Or.inr (Or.inr (Or.inl ⟨hn, d1, r, rfl⟩)), by rw [bs_up_eq]; rfl⟩⟩
        unfold FX12_bubble_j70
        rw [tf_inO (by omega) r, fg_bd_s, if_pos rfl, e2, fn_sub (by omega), show a + 2 - 1 = a + 1 by omega, fg_wr_s, ← hm3, tf_bad e39 e38, fg_bd_s]
    · rw [(tf_isD (ok1 _)).2 d1, fg_bd_s, if_pos nI_0]
      by_cases r : 1 ≤ T a - 48 ∧ T a - 48 ≤ 30
      · obtain ⟨m3, k1, k2, k3, k4⟩ := rm_put hf hok M1' T1 hn r.1 r.2 e1 (by have := hd.1; omega) d1
        exact ⟨m3, k1, mfr_tr fr1 k4, Or.inl ⟨_, a + 1, ⟨hn, r.1, r.2, Or.inl ⟨rfl, rfl, d1⟩⟩, by rw [k3 9 (by decide) (by decide)]; exact m19, by rw [k3 8 (by decide) (by decide)]; exact e1, k2⟩⟩
      · obtain ⟨m3, hm3⟩ : ∃ y, y = bs_up m1 m 8 (.int (nI a)) := ⟨_, rfl⟩
        have e38 : bs_iv (m3 m 8) = nI a := by rw [hm3, bs_up_eq]; rfl
        have e39 : bs_iv (m3 m 9) = -1 := by rw [hm3, bs_up_j (by decide)]; exact m19
        refine ⟨bs_up m3 m 9 (.int (nI a)), ?_, mfr_m fr1 (fun j j1 j2 _ _ _ => by rw [bs_up_j j2, hm3, bs_up_j j1]) (fun a ha => by rw [bs_up_f ha, hm3, bs_up_f ha]), Or.inr ⟨a, Or.inr (Or.inl ⟨hn, d1, by omega, rfl⟩), by rw [bs_up_eq]; rfl⟩⟩
        unfold FX12_bubble_j70
        rw [tf_inO (by omega) r, fg_bd_s, if_pos rfl, e1, fn_sub (by omega), show a + 1 - 1 = a by omega, fg_wr_s, ← hm3, tf_bad e39 e38, fg_bd_s]
