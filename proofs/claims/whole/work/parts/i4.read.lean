/-! THE CALLS (own): figure, rule, fault -/
theorem mFG_Kp {m f fc : Nat} {FG : Nat → bs_G} {mu mu' : bs_Mm} (h : mFG m fc FG mu) (hf : fc ≤ f) (e : bs_iv (mu' m 20) = bs_iv (mu m 20)) (k : mKp m f mu mu') : mFG m fc FG mu' := by
  refine ⟨h.1, by rw [e]; exact h.2.1, fun i hi => ⟨(h.2.2 i hi).1, ?_⟩⟩
  have q0 := g_bn (h.2.2 i hi).1
  have q1 : g_nb (FG i) ≤ 6 := q0.1
  have q2 : g_nu (FG i) ≤ 24 := q0.2.1
  obtain ⟨v1, v2, v3, v4, w1, w2, w3, w4, w5⟩ := (h.2.2 i hi).2
  exact ⟨by rw [k.2.1 _ _ (by omega) (by omega)]; exact v1, by rw [k.2.1 _ _ (by omega) (by omega)]; exact v2, by rw [k.2.1 _ _ (by omega) (by omega)]; exact v3, by rw [k.2.1 _ _ (by omega) (by omega)]; exact v4, fun j hj => by rw [k.2.2.1 _ (by omega)]; exact w1 j hj, fun j hj => by rw [k.2.2.2 _ _ (by omega) (by omega) (by omega)]; exact w2 j hj, fun j hj => by rw [k.2.2.2 _ _ (by omega) (by omega) (by omega)]; exact w3 j hj, fun j hj => by rw [k.2.2.2 _ _ (by omega) (by omega) (by omega)]; exact w4 j hj, fun j hj => by rw [k.2.2.2 _ _ (by omega) (by omega) (by omega)]; exact w5 j hj⟩
theorem lM_fr2 {m f fc rc qn rn : Nat} {T : bs_Ta} {S : bs_So} {FG : Nat → bs_G} {UR : Nat → bs_U} {QT QJ QP ST : Nat → Nat} {pu pb : Int32} {V : Nat → Nat → Int32} {mu mu1 : bs_Mm} (h : lM m (T, S, (fc, FG), (rc, UR), (qn, QT, QJ, QP), (ST, pu, pb), (rn, V)) mu) (k : mfr2 m f mu mu1) (hf : fc ≤ f) : lM m (T, S, (fc, FG), (rc, UR), (qn, QT, QJ, QP), (ST, pu, pb), (rn, V)) mu1 := by
  obtain ⟨h1, h2, h3, h4, h5, h6, h7⟩ := h
  have e : ∀ j, (j = 5 ∨ j = 7 ∨ j = 20 ∨ j = 31 ∨ (45 ≤ j ∧ j ≤ 48)) → mu1 m j = mu m j := fun j hj => k.1 j (by omega) (by omega) (by omega) (by omega) (by omega) (by omega)
  have f0 : ∀ a, a ≠ m → (a < m + 6 ∨ m + 17 < a) → mu1 a = mu a := k.2.1
  exact ⟨mT_of h1 (e 7 (by decide)) (f0 _ (by omega) (by omega)), mSo_ofI h2 (e 5 (by decide)) (f0 _ (by omega) (by omega)) (f0 _ (by omega) (by omega)) (f0 _ (by omega) (by omega)), mFG_Kp h3 hf (by rw [e 20 (by decide)]) k.2, mUR_ofI h4 (e 31 (by decide)) fun a a1 a2 => f0 a (by omega) (by omega), mQU_ofI h5 (e 45 (by decide)) (f0 _ (by omega) (by omega)) (f0 _ (by omega) (by omega)) (f0 _ (by omega) (by omega)), mSK_ofI h6 (e 47 (by decide)) (e 48 (by decide)) (f0 _ (by omega) (by omega)), mGU_ofI h7 (e 46 (by decide)) (f0 _ (by omega) (by omega))⟩
theorem li_fault0 {x : Nat} {D : li_D} {mu : bs_Mm} (h : lS x D mu) : ∃ r mu1 mu2, FX11_fault x mu 0 = some (r, mu1) ∧ FX12_fault (x + 159) mu1 0 = some (r, mu2) ∧ lS x D mu2 := by
  obtain ⟨T, S, ⟨fc, FG⟩, ⟨rc, UR⟩, ⟨qn, QT, QJ, QP⟩, ⟨ST, pu, pb⟩, ⟨rn, V⟩⟩ := D
  obtain ⟨hc, hm, hd⟩ := h
  have s6 : S.1 ≤ 6 := hd.1.1
  obtain ⟨r, mu1, _, k1, _, k3, _⟩ := sim_fault0 (sc := S.1) s6 hc.1 hm.1 hm.2.1.1 hc.2.1.1
  have lc1 := lC_of hc fun b b1 b2 b3 _ _ _ => k3 b (by omega)
  have lm1 := lM_of (mu' := mu1) hm (fun k _ => by rw [k3 _ (by omega)]) fun b b1 b2 b3 b4 => k3 b (by omega)
  obtain ⟨r', mu1', mu2, q1, q2, q3, q4⟩ := sim_fault0 (x := x) (m := x + 159) (mc := mu) (mm := mu1) (sc := S.1) s6 hc.1 lm1.1 lm1.2.1.1 hc.2.1.1
  rw [k1] at q1
  have e : r' = r := (congrArg Prod.fst (Option.some.inj q1)).symm
  rw [e] at q2
  exact ⟨r, mu1, mu2, k1, q2, lC_of lc1 fun b b1 b2 _ _ _ _ => q4.2.1 b (by omega) (by omega), lM_fr2 lm1 q4 hc.2.2.1.1, hd⟩
theorem lM_R {m q fc rc qn rn : Nat} {T : bs_Ta} {S : bs_So} {FG : Nat → bs_G} {UR : Nat → bs_U} {QT QJ QP ST : Nat → Nat} {pu pb : Int32} {V : Nat → Nat → Int32} {mu mu1 : bs_Mm} (h : lM m (T, S, (fc, FG), (rc, UR), (qn, QT, QJ, QP), (ST, pu, pb), (rn, V)) mu) (k : mqR m q mu mu1) (hq : rc ≤ q) : lM m (T, S, (fc, FG), (rc, UR), (qn, QT, QJ, QP), (ST, pu, pb), (rn, V)) mu1 := by
  obtain ⟨h1, h2, h3, h4, h5, h6, h7⟩ := h
  have e : ∀ j, (j = 5 ∨ j = 7 ∨ j = 20 ∨ j = 31 ∨ (45 ≤ j ∧ j ≤ 48)) → mu1 m j = mu m j := fun j hj => k.1 j (by omega) (by omega) (by omega) (by omega) (by omega)
  have f0 : ∀ a, a ≠ m → (a < m + 18 ∨ m + 21 < a) → mu1 a = mu a := fun a a1 a2 => k.2.1 a a1 (by omega) (by omega) (by omega) (by omega)
  exact ⟨mT_of h1 (e 7 (by decide)) (f0 _ (by omega) (by omega)), mSo_ofI h2 (e 5 (by decide)) (f0 _ (by omega) (by omega)) (f0 _ (by omega) (by omega)) (f0 _ (by omega) (by omega)), mFG_ofI h3 (e 20 (by decide)) fun a a1 a2 => f0 a (by omega) (by omega), mUR_R h4 k hq, mQU_ofI h5 (e 45 (by decide)) (f0 _ (by omega) (by omega)) (f0 _ (by omega) (by omega)) (f0 _ (by omega) (by omega)), mSK_ofI h6 (e 47 (by decide)) (e 48 (by decide)) (f0 _ (by omega) (by omega)), mGU_ofI h7 (e 46 (by decide)) (f0 _ (by omega) (by omega))⟩
theorem li_fault1 {x : Nat} {D : li_D} {mu : bs_Mm} (h : lS x D mu) : ∃ r mu1 mu2, FX11_fault x mu (nI 1) = some (r, mu1) ∧ FX12_fault (x + 159) mu1 (nI 1) = some (r, mu2) ∧ lS x D mu2 := by
  obtain ⟨T, S, ⟨fc, FG⟩, ⟨rc, UR⟩, ⟨qn, QT, QJ, QP⟩, ⟨ST, pu, pb⟩, ⟨rn, V⟩⟩ := D
  obtain ⟨hc, hm, hd⟩ := h
  obtain ⟨r, mu1, _, k1, _, k3, _⟩ := sim_fault1 hc.1 hm.1
  have lc1 := lC_of hc fun b b1 b2 b3 _ _ _ => k3 b (by omega)
  have lm1 := lM_of (mu' := mu1) hm (fun k _ => by rw [k3 _ (by omega)]) fun b b1 b2 b3 b4 => k3 b (by omega)
  obtain ⟨r', mu1', mu2, q1, q2, q3, q4⟩ := sim_fault1 (x := x) (m := x + 159) (mc := mu) (mm := mu1) hc.1 lm1.1
  rw [k1] at q1
  have e : r' = r := (congrArg Prod.fst (Option.some.inj q1)).symm
  rw [e] at q2
  exact ⟨r, mu1, mu2, k1, q2, lC_of lc1 fun b b1 b2 _ _ _ _ => q4.2.1 b (by omega) (by omega) (by omega) (by omega) (by omega), lM_R lm1 q4 hc.2.2.2.1.1, hd⟩
theorem li_faultN {x : Nat} {D : li_D} {mu : bs_Mm} (h : lS x D mu) {a : Int32} (h0 : a ≠ 0) (h1 : a ≠ nI 1) : ∃ r mu1 mu2, FX11_fault x mu a = some (r, mu1) ∧ FX12_fault (x + 159) mu1 a = some (r, mu2) ∧ lS x D mu2 :=
  ⟨-2, mu, mu, (sim_faultN (x := x) (m := x + 159) (mc := mu) (mm := mu) h0 h1).1, (sim_faultN (x := x) (m := x + 159) (mc := mu) (mm := mu) h0 h1).2, h⟩
