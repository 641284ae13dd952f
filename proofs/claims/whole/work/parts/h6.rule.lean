/-! RULE, FAULT (own): the calls, both sides -/
theorem mUv_R {m q k : Nat} {U : bs_U} {mu mu' : bs_Mm} (h : mUv m k U mu) (r : mqR m q mu mu') (hk : k ≠ q) : mUv m k U mu' := by
  obtain ⟨h1, h2, h3, h4⟩ := h
  refine ⟨by rw [r.2.2.2.1 k hk]; exact h1, u_q_cg _ _ _ h2 (fun j hj => ?_) fun i hi => ⟨?_, ?_⟩, h3, h4⟩
  · show bs_iv (mu' (m + 18) (400 * k + j)) = _
    rw [r.2.2.1 _ (by omega)]
  · show bs_iv (mu' (m + 20) (64 * k + i)) = _
    rw [(r.2.2.2.2 _ (by omega)).1]
  · show bs_iv (mu' (m + 21) (64 * k + i)) = _
    rw [(r.2.2.2.2 _ (by omega)).2]
theorem mUR_R {m q rc : Nat} {UR : Nat → bs_U} {mu mu' : bs_Mm} (h : mUR m rc UR mu) (r : mqR m q mu mu') (hq : rc ≤ q) : mUR m rc UR mu' :=
  ⟨h.1, by rw [r.1 31 (by decide) (by decide) (by decide) (by decide) (by decide)]; exact h.2.1, fun k hk => ⟨(h.2.2 k hk).1, mUv_R (h.2.2 k hk).2 r (by omega)⟩⟩
theorem cUR_q {x rc : Nat} {UR : Nat → bs_U} {mu mu' : bs_Mm} (h : cUR x rc UR mu) (r : qfr x mu mu') : cUR x rc UR mu' :=
  ⟨h.1, by rw [r _ (by omega)]; exact h.2.1, fun k hk => ⟨(h.2.2 k hk).1, cUv_of (h.2.2 k hk).2 (r _ (by omega)) (r _ (by omega))⟩⟩
/-- one rule more -/
def u_pu (UR : Nat → bs_U) (rc : Nat) (U : bs_U) : Nat → bs_U := fun k => if k = rc then U else UR k
theorem u_pu_s {UR : Nat → bs_U} {rc : Nat} {U : bs_U} : u_pu UR rc U rc = U := if_pos rfl
theorem u_pu_o {UR : Nat → bs_U} {rc k : Nat} {U : bs_U} (h : k ≠ rc) : u_pu UR rc U k = UR k := if_neg h
theorem sf_copyU {x u : Nat} {U : bs_U} {mu : bs_Mm} (h : qs x U none [] mu) (hz : u_z U ≤ 201) (hu : x + 25 < u) : ∃ mu', FX6_copy x u mu (x + 21) = some mu' ∧ cUv u U mu' ∧ ∀ c, c ≠ u → c ≠ u + 1 → mu' c = mu c := by
  obtain ⟨h1, h2, h3, h4⟩ := h
  have h4 : bs_iv (mu (x + 21) 1) = nI (u_z U + 0 + 0) := h4
  obtain ⟨m1, hm1⟩ : ∃ y, y = bs_cp mu (x + 21 + 1) (u + 1) 0 0 201 := ⟨_, rfl⟩
  have f1 : ∀ c, c ≠ u + 1 → m1 c = mu c := fun c hc => by rw [hm1, bs_cp_o hc]
  have e1 : bs_iv (m1 (x + 21) 1) = nI (u_z U) := by rw [f1 _ (by omega)]; exact h4
  refine ⟨bs_up m1 u 1 (.int (nI (u_z U))), ?_, ⟨by rw [bs_up_eq]; rfl, u_r_cg _ _ h1 fun j _ hj => ?_, hz⟩, fun c c1 c2 => by rw [bs_up_f c1, f1 c c2]⟩
  · unfold FX6_copy
    rw [fg_wc_s, ← hm1, e1, fg_wr_s]
  · show bs_iv (bs_up m1 u 1 _ (u + 1) j) = bs_iv (mu (x + 22) j)
    rw [bs_up_f (by omega), hm1, bs_cp_i (by omega)]
set_option maxHeartbeats 1000000 in
theorem sim_rule {x m n rc : Nat} {T : Nat → Nat} {UR : Nat → bs_U} {mc mm : bs_Mm} (hU : cUR x rc UR mc) (hV : mUR m rc UR mm) (hC : cT x n T mc) (hT : mT m n T mm) : ∃ r mc' mm', FX11_rule x mc = some (r, mc') ∧ FX12_rule m mm = some (r, mm') ∧ ((r = -1 ∧ qfr x mc mc' ∧ mqR m rc mm mm') ∨ (r = nI rc ∧ rc < 6 ∧ (∃ U, u_K U ∧ cUR x (rc + 1) (u_pu UR rc U) mc' ∧ mUR m (rc + 1) (u_pu UR rc U) mm') ∧ bs_iv (mc' (x + 5) 1) = nI 0 ∧ bs_iv (mm' m 7) = nI 0 ∧ (∀ k, k ≠ 14 → mc' x k = mc x k) ∧ (∀ k, k ≠ 1 → mc' (x + 5) k = mc (x + 5) k) ∧ (∀ a, a ≠ x → a ≠ x + 5 → (a < x + 20 ∨ x + 25 < a) → a ≠ x + 147 + 2 * rc → a ≠ x + 147 + 2 * rc + 1 → mc' a = mc a) ∧ (∀ k, k ≠ 7 → k ≠ 8 → k ≠ 9 → k ≠ 10 → k ≠ 31 → k ≠ 32 → k ≠ 33 → mm' m k = mm m k) ∧ ∀ a, a ≠ m → (a < m + 18 ∨ m + 21 < a) → mm' a = mm a)) := by
  by_cases c6 : rc = 6
  · refine ⟨-1, mc, mm, ?_, ?_, Or.inl ⟨rfl, qfr_rfl x mc, mqR_rfl m rc mm⟩⟩
    · unfold FX11_rule
      rw [hU.2.1, c6, if_pos (by decide)]
    · unfold FX12_rule
      rw [hV.2.1, c6, if_pos rfl]
  · have hr6 := hU.1
    have r6 : rc < 6 := by omega
    obtain ⟨v, mc1, mm1, r1, r2, r3, r4, r5, r6'⟩ := sim_readRule (q := rc) (by omega) hC hT
    have cut : FX11_rule x mc = (if v = (-1) then (fg_gd (fg_in (bs_iv (mc1 x 14)) 6) (fg_let (x + 147 + 2 * (bs_iv (mc1 x 14)).toNatClampNeg) (fun b5 => fg_bd (FX6_copy x b5 mc1 (x + 21)) (fun mu7 => fg_wr mu7 (x + 5) 1 (.int (nI 0)) (fun mu8 => fg_wr mu8 x 14 (.int ((bs_iv (mu8 x 14)) + (nI 1))) (fun mu9 => some ((bs_iv (mu8 x 14)), mu9))))))) else some ((-1), mc1)) := by
      unfold FX11_rule
      rw [hU.2.1, if_neg (fun w => by have := (nI_leI (by decide) (by omega)).mp w; omega), r1, fg_b2_s]
    have dut : FX12_rule m mm = (if v = (-1) then (fg_wr mm1 m 7 (.int (nI 0)) (fun mu4 => fg_wr mu4 m 31 (.int ((bs_iv (mu4 m 31)) + (nI 1))) (fun mu5 => some (((bs_iv (mu5 m 31)) - (nI 1)), mu5)))) else (some ((-1), mm1))) := by
      unfold FX12_rule
      rw [hV.2.1, if_neg (nI_ne (by omega) (by decide) c6), r2, fg_b2_s]
    by_cases e : v = -1
    · obtain ⟨U, u1, u2, u3, u4⟩ := r5 e
      have e14 : bs_iv (mc1 x 14) = nI rc := by rw [r3 _ (by omega)]; exact hU.2.1
      obtain ⟨mc2, k1, k2, k3⟩ := sf_copyU (x := x) (u := x + 147 + 2 * rc) u2 u4 (by omega)
      have mcx : ∀ c, (c < x + 20 ∨ x + 25 < c) → c ≠ x + 147 + 2 * rc → c ≠ x + 147 + 2 * rc + 1 → mc2 c = mc c := fun c h1 h2 h3 => by rw [k3 c h2 h3, r3 c h1]
      obtain ⟨mc3, hm3⟩ : ∃ y, y = bs_up mc2 (x + 5) 1 (.int (nI 0)) := ⟨_, rfl⟩
      have e143 : bs_iv (mc3 x 14) = nI rc := by rw [hm3, bs_up_f (by omega), mcx _ (by omega) (by omega) (by omega)]; exact hU.2.1
      obtain ⟨mm2, hn2⟩ : ∃ y, y = bs_up mm1 m 7 (.int (nI 0)) := ⟨_, rfl⟩
      have e312 : bs_iv (mm2 m 31) = nI rc := by rw [hn2, bs_up_j (by decide), r4.1 31 (by decide) (by decide) (by decide) (by decide) (by decide)]; exact hV.2.1
      obtain ⟨mm3, hn3⟩ : ∃ y, y = bs_up mm2 m 31 (.int (nI (rc + 1))) := ⟨_, rfl⟩
      have e313 : bs_iv (mm3 m 31) = nI (rc + 1) := by rw [hn3, bs_up_eq]; rfl
      have fm3 : ∀ a, a ≠ m → mm3 a = mm1 a := fun a ha => by rw [hn3, bs_up_f ha, hn2, bs_up_f ha]
      have fin : ∀ c, c ≠ x → c ≠ x + 5 → bs_up mc3 x 14 (.int (nI (rc + 1))) c = mc2 c := fun c h1 h2 => by rw [bs_up_f h1, hm3, bs_up_f h2]
      refine ⟨nI rc, bs_up mc3 x 14 (.int (nI (rc + 1))), mm3, ?_, ?_, Or.inr ⟨rfl, r6, ⟨U, u1, ⟨by omega, by rw [bs_up_eq]; rfl, fun k hk => ?_⟩, ⟨by omega, e313, fun k hk => ?_⟩⟩, ?_, ?_, fun k hk => ?_, fun k hk => ?_, fun a a1 a2 a3 a4 a5 => ?_, fun k k7 k8 k9 k10 k31 k32 k33 => ?_, fun a a1 a2 => by rw [fm3 a a1]; exact r4.2.1 a a1 (by omega) (by omega) (by omega) (by omega)⟩⟩
      · rw [cut, if_pos e, e14, fn_in (show rc < 6 by omega) (by decide), fg_gd_t, fg_let_s, fn_cl (by omega), k1, fg_bd_s, fg_wr_s, ← hm3, e143, fn_add, fg_wr_s]
      · rw [dut, if_pos e, fg_wr_s, ← hn2, e312, fn_add, fg_wr_s, ← hn3, e313, fn_sub (by omega), Nat.add_sub_cancel]
      · by_cases d : k = rc
        · subst d
          rw [u_pu_s]
          exact ⟨u1, cUv_of k2 (fin _ (by omega) (by omega)) (fin _ (by omega) (by omega))⟩
        · rw [u_pu_o d]
          have o := hU.2.2 k (by omega)
          exact ⟨o.1, cUv_of o.2 (by rw [fin _ (by omega) (by omega), mcx _ (by omega) (by omega) (by omega)]) (by rw [fin _ (by omega) (by omega), mcx _ (by omega) (by omega) (by omega)])⟩
      · by_cases d : k = rc
        · subst d
          rw [u_pu_s]
          exact ⟨u1, mUv_of u3 fun c c1 c2 => fm3 c (by omega)⟩
        · rw [u_pu_o d]
          have o := hV.2.2 k (by omega)
          exact ⟨o.1, mUv_of (mUv_R o.2 r4 d) fun c c1 c2 => fm3 c (by omega)⟩
      · rw [bs_up_f (by omega), hm3, bs_up_eq]
        rfl
      · rw [hn3, bs_up_j (by decide), hn2, bs_up_eq]
        rfl
      · rw [bs_up_j hk, hm3, bs_up_f (by omega), mcx _ (by omega) (by omega) (by omega)]
      · rw [bs_up_f (by omega), hm3, bs_up_j hk, mcx _ (by omega) (by omega) (by omega)]
      · rw [fin a a1 a2, mcx a a3 a4 a5]
      · rw [hn3, bs_up_j k31, hn2, bs_up_j k7]
        exact r4.1 k k8 k9 k10 k32 k33
    · rw [if_neg e] at cut dut
      exact ⟨-1, mc1, mm1, cut, dut, Or.inl ⟨rfl, r3, r4⟩⟩
/-- fault -/
theorem sim_fault0 {x m n sc : Nat} {T : Nat → Nat} {mc mm : bs_Mm} (hsc : sc ≤ 6) (hC : cT x n T mc) (hT : mT m n T mm) (h5 : bs_iv (mm m 5) = nI sc) (h3 : bs_iv (mc (x + 1) 3) = nI sc) : ∃ r mc' mm', FX11_fault x mc 0 = some (r, mc') ∧ FX12_fault m mm 0 = some (r, mm') ∧ cfr x mc mc' ∧ mfr2 m 12 mm mm' := by
  obtain ⟨r, mc1, mm1, r1, r2, r3, r4, r5, r6⟩ := sim_read (f := 12) (by decide) hsc hC hT h5
  refine ⟨r, mc1, mm1, ?_, ?_, r3, r4⟩
  · unfold FX11_fault
    rw [if_pos rfl, h3, r1, fg_b2_s]
  · unfold FX12_fault
    rw [if_pos rfl, r2, fg_b2_s]
theorem sim_fault1 {x m n : Nat} {T : Nat → Nat} {mc mm : bs_Mm} (hC : cT x n T mc) (hT : mT m n T mm) : ∃ r mc' mm', FX11_fault x mc (nI 1) = some (r, mc') ∧ FX12_fault m mm (nI 1) = some (r, mm') ∧ qfr x mc mc' ∧ mqR m 6 mm mm' := by
  obtain ⟨r, mc1, mm1, r1, r2, r3, r4, r5, r6⟩ := sim_readRule (q := 6) (by decide) hC hT
  refine ⟨r, mc1, mm1, ?_, ?_, r3, r4⟩
  · unfold FX11_fault
    rw [if_neg (by decide), if_pos rfl, r1, fg_b2_s]
  · unfold FX12_fault
    rw [if_neg (by decide), if_pos rfl, r2, fg_b2_s]
theorem sim_faultN {x m : Nat} {k : Int32} {mc mm : bs_Mm} (h0 : k ≠ 0) (h1 : k ≠ nI 1) : FX11_fault x mc k = some (-2, mc) ∧ FX12_fault m mm k = some (-2, mm) := by
  unfold FX11_fault FX12_fault
  rw [if_neg h0, if_neg h1, if_neg h0, if_neg h1]
  exact ⟨rfl, rfl⟩
