/-! THE CALLS (own): comes -/
theorem co_f {r1 r2 r3 o k n t j p a : Nat} {mu : bs_Mm} (h1 : a ≠ r1) (h2 : a ≠ r2) (h3 : a ≠ r3) (h4 : a ≠ o) : co_mu r1 r2 r3 o k n t j p mu a = mu a := by
  unfold co_mu
  rw [bs_up_f h4, bs_up_f h3, bs_up_f h2, bs_up_f h1]
theorem co_o {r1 r2 r3 o k n t j p i : Nat} {mu : bs_Mm} (h1 : o ≠ r1) (h2 : o ≠ r2) (h3 : o ≠ r3) (h4 : i ≠ k) : co_mu r1 r2 r3 o k n t j p mu o i = mu o i := by
  unfold co_mu
  rw [bs_up_j h4, bs_up_f h3, bs_up_f h2, bs_up_f h1]
def q_pu (Q : Nat → Nat) (n v : Nat) : Nat → Nat := fun i => if i = n then v else Q i
theorem q_pu_s {Q : Nat → Nat} {n v : Nat} : q_pu Q n v n = v := if_pos rfl
theorem q_pu_n {Q : Nat → Nat} {n v i : Nat} (h : ¬ i = n) : q_pu Q n v i = Q i := if_neg h
theorem co_q {r1 r2 r3 o k n t j p : Nat} {QT QJ QP : Nat → Nat} {mu : bs_Mm} (h1 : r1 ≠ r2) (h2 : r1 ≠ r3) (h3 : r2 ≠ r3) (h4 : o ≠ r1) (h5 : o ≠ r2) (h6 : o ≠ r3) (q1 : bs_rw mu r1 n QT) (q2 : bs_rw mu r2 n QJ) (q3 : bs_rw mu r3 n QP) : bs_iv (co_mu r1 r2 r3 o k n t j p mu o k) = nI (n + 1) ∧ bs_rw (co_mu r1 r2 r3 o k n t j p mu) r1 (n + 1) (q_pu QT n t) ∧ bs_rw (co_mu r1 r2 r3 o k n t j p mu) r2 (n + 1) (q_pu QJ n j) ∧ bs_rw (co_mu r1 r2 r3 o k n t j p mu) r3 (n + 1) (q_pu QP n p) := by
  unfold co_mu
  refine ⟨by rw [bs_up_eq]; rfl, fun i hi => ?_, fun i hi => ?_, fun i hi => ?_⟩
  · rw [bs_up_f (Ne.symm h4), bs_up_f h2, bs_up_f h1]
    by_cases e : i = n
    · rw [e, bs_up_eq, q_pu_s]; rfl
    · rw [bs_up_j e, q_pu_n e]; exact q1 i (by omega)
  · rw [bs_up_f (Ne.symm h5), bs_up_f h3]
    by_cases e : i = n
    · rw [e, bs_up_eq, q_pu_s]; rfl
    · rw [bs_up_j e, bs_up_f (Ne.symm h1), q_pu_n e]; exact q2 i (by omega)
  · rw [bs_up_f (Ne.symm h6)]
    by_cases e : i = n
    · rw [e, bs_up_eq, q_pu_s]; rfl
    · rw [bs_up_j e, bs_up_f (Ne.symm h3), bs_up_f (Ne.symm h2), q_pu_n e]; exact q3 i (by omega)
theorem li_comes {x : Nat} {D : li_D} {mu : bs_Mm} (h : lS x D mu) (a b c : Int32) : ∃ r mu1 mu2 D', FX11_comes x mu a b c = some (r, mu1) ∧ FX12_comes (x + 159) mu1 a b c = some (r, mu2) ∧ lS x D' mu2 := by
  obtain ⟨T, S, ⟨fc, FG⟩, ⟨rc, UR⟩, ⟨qn, QT, QJ, QP⟩, ⟨ST, pu, pb⟩, ⟨rn, V⟩⟩ := D
  have h0 := h
  obtain ⟨⟨h1, h2, h3, h4, h5, h6, h7, h8, h9, h10⟩, hm, hd⟩ := h
  have hb : ∀ i, i < qn → QT i ≤ 9999 := fun i hi => (hd.2.2 i hi).1
  rcases sf_comes h3.2.1 h3.1 h8.2.1 h8.1 h8.2.2.1 hb a b c with ⟨no, k1⟩ | ⟨t, j, p, may, k1⟩
  · rcases tf_comes hm.2.2.1.2.1 h3.1 hm.2.2.2.2.1.2.1 h8.1 hm.2.2.2.2.1.2.2.1 hb a b c with ⟨_, k2⟩ | ⟨t, j, p, may, _⟩
    · exact ⟨-1, mu, mu, _, k1, k2, h0⟩
    · exact absurd may (no t j p)
  · obtain ⟨mu1, e1⟩ : ∃ y, y = co_mu (x + 56) (x + 57) (x + 58) (x + 50) 3 qn t j p mu := ⟨_, rfl⟩
    rw [← e1] at k1
    have f : ∀ a, a ≠ x + 56 → a ≠ x + 57 → a ≠ x + 58 → a ≠ x + 50 → mu1 a = mu a := fun a a1 a2 a3 a4 => by rw [e1, co_f a1 a2 a3 a4]
    have o : ∀ i, i ≠ 3 → mu1 (x + 50) i = mu (x + 50) i := fun i hi => by rw [e1, co_o (by omega) (by omega) (by omega) hi]
    have lm1 := lM_of (mu' := mu1) hm (fun k _ => by rw [f _ (by omega) (by omega) (by omega) (by omega)]) fun b b1 b2 b3 b4 => f b (by omega) (by omega) (by omega) (by omega)
    obtain ⟨n1, n2, n3, n4, n5, n6, n7⟩ := id lm1
    rcases tf_comes n3.2.1 h3.1 n5.2.1 h8.1 n5.2.2.1 hb a b c with ⟨no, _⟩ | ⟨t', j', p', may', k2⟩
    · exact absurd may (no t j p)
    · obtain ⟨m1, m2, m3, m4, m5, m6, m7, m8⟩ := may
      obtain ⟨w1, w2, w3, w4, w5, w6, w7, w8⟩ := may'
      have et : t' = t := co_inj (by omega) (by omega) (w1.symm.trans m1)
      have ej : j' = j := co_inj (by have := h3.1; omega) (by have := h3.1; omega) (w2.symm.trans m2)
      have ep : p' = p := co_inj (by omega) (by omega) (w3.symm.trans m3)
      rw [et, ej, ep] at k2
      obtain ⟨mu2, e2⟩ : ∃ y, y = co_mu (x + 159 + 28) (x + 159 + 29) (x + 159 + 30) (x + 159) 45 qn t j p mu1 := ⟨_, rfl⟩
      rw [← e2] at k2
      have f2 : ∀ a, a ≠ x + 159 + 28 → a ≠ x + 159 + 29 → a ≠ x + 159 + 30 → a ≠ x + 159 → mu2 a = mu1 a := fun a a1 a2 a3 a4 => by rw [e2, co_f a1 a2 a3 a4]
      have o2 : ∀ i, i ≠ 45 → mu2 (x + 159) i = mu1 (x + 159) i := fun i hi => by rw [e2, co_o (by omega) (by omega) (by omega) hi]
      have Q1 := co_q (o := x + 50) (k := 3) (n := qn) (t := t) (j := j) (p := p) (mu := mu) (show x + 56 ≠ x + 57 by omega) (show x + 56 ≠ x + 58 by omega) (show x + 57 ≠ x + 58 by omega) (by omega) (by omega) (by omega) h8.2.2.1 h8.2.2.2.1 h8.2.2.2.2
      rw [← e1] at Q1
      have Q2 := co_q (o := x + 159) (k := 45) (n := qn) (t := t) (j := j) (p := p) (mu := mu1) (show x + 159 + 28 ≠ x + 159 + 29 by omega) (show x + 159 + 28 ≠ x + 159 + 30 by omega) (show x + 159 + 29 ≠ x + 159 + 30 by omega) (by omega) (by omega) (by omega) n5.2.2.1 n5.2.2.2.1 n5.2.2.2.2
      rw [← e2] at Q2
      have g : ∀ a, (a < x + 50 ∨ (x + 51 ≤ a ∧ a ≤ x + 55) ∨ x + 58 < a) → mu1 a = mu a := fun a ha => f a (by omega) (by omega) (by omega) (by omega)
      have lc1 : lC x (T, S, (fc, FG), (rc, UR), (qn + 1, q_pu QT qn t, q_pu QJ qn j, q_pu QP qn p), (ST, pu, pb), (rn, V)) mu1 := ⟨cT_of h1 (g _ (by omega)) (g _ (by omega)), cSo_of h2 (g _ (by omega)) (g _ (by omega)) (g _ (by omega)) (g _ (by omega)), cFG_ofI h3 (g _ (by omega)) fun a a1 a2 => g a (by omega), cUR_ofI h4 (g _ (by omega)) fun a a1 a2 => g a (by omega), cMK_ofI h5 (g _ (by omega)) (g _ (by omega)), cMT_of h6 (g _ (by omega)) (g _ (by omega)), cAG_of h7 (g _ (by omega)) (g _ (by omega)) (g _ (by omega)), ⟨by omega, Q1⟩, ⟨fun k hk => by rw [g _ (by omega)]; exact h9.1 k hk, by rw [o 1 (by decide)]; exact h9.2.1, by rw [o 2 (by decide)]; exact h9.2.2⟩, ⟨h10.1, by rw [o 4 (by decide)]; exact h10.2.1, fun i hi k hk => by rw [g _ (by omega)]; exact h10.2.2 i hi k hk⟩⟩
      refine ⟨_, mu1, mu2, (T, S, (fc, FG), (rc, UR), (qn + 1, q_pu QT qn t, q_pu QJ qn j, q_pu QP qn p), (ST, pu, pb), (rn, V)), k1, k2, lC_of lc1 fun b b1 b2 _ _ _ _ => f2 b (by omega) (by omega) (by omega) (by omega), ⟨mT_of n1 (o2 7 (by decide)) (f2 _ (by omega) (by omega) (by omega) (by omega)), mSo_ofI n2 (o2 5 (by decide)) (f2 _ (by omega) (by omega) (by omega) (by omega)) (f2 _ (by omega) (by omega) (by omega) (by omega)) (f2 _ (by omega) (by omega) (by omega) (by omega)), mFG_ofI n3 (o2 20 (by decide)) fun a a1 a2 => f2 a (by omega) (by omega) (by omega) (by omega), mUR_ofI n4 (o2 31 (by decide)) fun a a1 a2 => f2 a (by omega) (by omega) (by omega) (by omega), ⟨by omega, Q2⟩, mSK_ofI n6 (o2 47 (by decide)) (o2 48 (by decide)) (f2 _ (by omega) (by omega) (by omega) (by omega)), mGU_ofI n7 (o2 46 (by decide)) (f2 _ (by omega) (by omega) (by omega) (by omega))⟩, hd.1, hd.2.1, fun i hi => ?_⟩
      unfold q_pu
      by_cases e : i = qn
      · rw [if_pos e, if_pos e, if_pos e]
        exact ⟨m4, m5, m6⟩
      · rw [if_neg e, if_neg e, if_neg e]
        exact hd.2.2 i (by omega)
