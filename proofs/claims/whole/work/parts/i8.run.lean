/-! THE CALLS (own): run -/
theorem li_run {x : Nat} {D : li_D} {mu : bs_Mm} (h : lS x D mu) (sd : Int64) : ∃ r mu1 mu2 D', FX11_run x mu sd = some (r, mu1) ∧ FX12_run (x + 159) mu1 sd = some (r, mu2) ∧ lS x D' mu2 := by
  obtain ⟨T, S, ⟨fc, FG⟩, ⟨rc, UR⟩, ⟨qn, QT, QJ, QP⟩, ⟨ST, pu, pb⟩, ⟨rn, V⟩⟩ := D
  obtain ⟨⟨h1, h2, h3, h4, h5, h6, h7, h8, h9, h10⟩, hm, hd⟩ := h
  obtain ⟨Z, hZ⟩ : ∃ Z : rn_Z, Z = (FG, QT, QJ, QP, pu, pb, fun k => nI (S.2.2.2 k), ST, sd) := ⟨_, rfl⟩
  have z1 : Z.1 = FG := by rw [hZ]
  have z2 : Z.2.1 = QT := by rw [hZ]
  have z3 : Z.2.2.1 = QJ := by rw [hZ]
  have z4 : Z.2.2.2.1 = QP := by rw [hZ]
  have z5 : rz_u Z = pu := by rw [hZ]; rfl
  have z6 : rz_b Z = pb := by rw [hZ]; rfl
  have z7 : rz_c Z = fun k => nI (S.2.2.2 k) := by rw [hZ]; rfl
  have z8 : rz_s Z = ST := by rw [hZ]; rfl
  have z9 : rz_x Z = sd := by rw [hZ]; rfl
  have hJ : ∀ i, i < qn → Z.2.2.1 i < fc := fun i hi => by rw [z3]; exact (hd.2.2 i hi).2.1
  obtain ⟨mu1, k1, k2, k3, k4⟩ := sf_run (Z := Z) h3 z1 (by rw [z2, z3, z4]; exact h8) hJ (by rw [z5, z6, z8]; exact h9) fun j hj b hb => by rw [z7]; exact h2.2.2.2 _ ((hd.2.1 j hj).2 b hb)
  have lm1 := lM_of (mu' := mu1) hm (fun k _ => by rw [k4 _ (by omega) (by omega) (by omega) (by omega) (by omega) (by omega) (by omega)]) fun b b1 b2 b3 b4 => k4 b (by omega) (by omega) (by omega) (by omega) (by omega) (by omega) (by omega)
  obtain ⟨n1, n2, n3, n4, n5, n6, n7⟩ := id lm1
  obtain ⟨mu2, q1, q2, q3, q4⟩ := tf_run (Z := Z) n3 z1 (by rw [z2, z3, z4]; exact n5) hJ (by rw [z5, z6, z8]; exact n6) n2.1 hd.1.1 (fun j hj b hb => (hd.2.1 j hj).2 b hb) fun k hk => by rw [z7]; exact n2.2.2.2 k hk
  rw [z9] at k1 q1
  have f : ∀ a, (a < x + 50 ∨ a = x + 51 ∨ (x + 56 ≤ a ∧ a ≤ x + 58) ∨ x + 60 < a) → mu1 a = mu a := fun a ha => k4 a (by omega) (by omega) (by omega) (by omega) (by omega) (by omega) (by omega)
  have lc1 : lC x (T, S, (fc, FG), (rc, UR), (qn, QT, QJ, QP), (ST, pu, pb), (qn, rn_V Z)) mu1 := ⟨cT_of h1 (f _ (by omega)) (f _ (by omega)), cSo_of h2 (f _ (by omega)) (f _ (by omega)) (f _ (by omega)) (f _ (by omega)), cFG_ofI h3 (f _ (by omega)) fun a a1 a2 => f a (by omega), cUR_ofI h4 (f _ (by omega)) fun a a1 a2 => f a (by omega), cMK_ofI h5 (f _ (by omega)) (f _ (by omega)), cMT_of h6 (f _ (by omega)) (f _ (by omega)), cAG_of h7 (f _ (by omega)) (f _ (by omega)) (f _ (by omega)), ⟨h8.1, by rw [k3 3 (by decide) (by decide)]; exact h8.2.1, fun i hi => by rw [f _ (by omega)]; exact h8.2.2.1 i hi, fun i hi => by rw [f _ (by omega)]; exact h8.2.2.2.1 i hi, fun i hi => by rw [f _ (by omega)]; exact h8.2.2.2.2 i hi⟩, ⟨fun k hk => by rw [f _ (by omega)]; exact h9.1 k hk, by rw [k3 1 (by decide) (by decide)]; exact h9.2.1, by rw [k3 2 (by decide) (by decide)]; exact h9.2.2⟩, k2⟩
  exact ⟨_, mu1, mu2, (T, S, (fc, FG), (rc, UR), (qn, QT, QJ, QP), (ST, pu, pb), (qn, rn_V Z)), k1, q1, lC_of lc1 fun b b1 b2 _ _ _ _ => q4 b (by omega) (by omega) (by omega), ⟨mT_of n1 (q3 7 (by decide)) (q4 _ (by omega) (by omega) (by omega)), mSo_ofI n2 (q3 5 (by decide)) (q4 _ (by omega) (by omega) (by omega)) (q4 _ (by omega) (by omega) (by omega)) (q4 _ (by omega) (by omega) (by omega)), mFG_ofI n3 (q3 20 (by decide)) fun a a1 a2 => q4 a (by omega) (by omega) (by omega), mUR_ofI n4 (q3 31 (by decide)) fun a a1 a2 => q4 a (by omega) (by omega) (by omega), mQU_ofI n5 (q3 45 (by decide)) (q4 _ (by omega) (by omega) (by omega)) (q4 _ (by omega) (by omega) (by omega)) (q4 _ (by omega) (by omega) (by omega)), mSK_ofI n6 (q3 47 (by decide)) (q3 48 (by decide)) (q4 _ (by omega) (by omega) (by omega)), q2⟩, hd⟩
