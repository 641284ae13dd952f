/-! THE CALLS (own): end, pace, close, stock, feed -/
theorem lw_e {Y : bs_M} {rm : Room} {av : List Value} {nx : Nat} {R : Nat → Nat → Option Nat} {sh : bs_Sh} {mu mu1 : bs_Mm} {v : Value} (k : bs_C Y rm av nx sh mu (bs_ex nx sh v mu1)) (hR : fg_R R mu1) : bs_C Y rm av nx sh mu (fg_po R nx sh (some v) mu1) := lw_ex hR k
theorem lC_T {x fc rc qn rn : Nat} {T T' : bs_Ta} {S : bs_So} {FG : Nat → bs_G} {UR : Nat → bs_U} {QT QJ QP ST : Nat → Nat} {pu pb : Int32} {V : Nat → Nat → Int32} {mu mu1 : bs_Mm} (h : lC x (T, S, (fc, FG), (rc, UR), (qn, QT, QJ, QP), (ST, pu, pb), (rn, V)) mu) (hT : cT x T'.1 T'.2 mu1) (f : ∀ a, x ≤ a → a ≤ x + 158 → a ≠ x + 5 → a ≠ x + 6 → mu1 a = mu a) : lC x (T', S, (fc, FG), (rc, UR), (qn, QT, QJ, QP), (ST, pu, pb), (rn, V)) mu1 := by
  obtain ⟨h1, h2, h3, h4, h5, h6, h7, h8, h9, h10⟩ := h
  have g : ∀ k, k ≤ 158 → k ≠ 5 → k ≠ 6 → mu1 (x + k) = mu (x + k) := fun k k1 k2 k3 => f _ (by omega) (by omega) (by omega) (by omega)
  have g0 : mu1 x = mu x := g 0 (by decide) (by decide) (by decide)
  exact ⟨hT, cSo_of h2 (g 1 (by decide) (by decide) (by decide)) (g 2 (by decide) (by decide) (by decide)) (g 3 (by decide) (by decide) (by decide)) (g 4 (by decide) (by decide) (by decide)), cFG_ofI h3 g0 fun a a1 a2 => f a (by omega) (by omega) (by omega) (by omega), cUR_ofI h4 g0 fun a a1 a2 => f a (by omega) (by omega) (by omega) (by omega), cMK_ofI h5 (g 43 (by decide) (by decide) (by decide)) (g 44 (by decide) (by decide) (by decide)), cMT_of h6 (g 30 (by decide) (by decide) (by decide)) (g 31 (by decide) (by decide) (by decide)), cAG_of h7 (g 45 (by decide) (by decide) (by decide)) (g 46 (by decide) (by decide) (by decide)) (g 47 (by decide) (by decide) (by decide)), cQU_ofI h8 (g 50 (by decide) (by decide) (by decide)) (g 56 (by decide) (by decide) (by decide)) (g 57 (by decide) (by decide) (by decide)) (g 58 (by decide) (by decide) (by decide)), cSK_ofI h9 (g 50 (by decide) (by decide) (by decide)) (g 51 (by decide) (by decide) (by decide)), cGU_ofI h10 (g 50 (by decide) (by decide) (by decide)) fun k hk => f _ (by omega) (by omega) (by omega) (by omega)⟩
theorem lM_T {m fc rc qn rn : Nat} {T T' : bs_Ta} {S : bs_So} {FG : Nat → bs_G} {UR : Nat → bs_U} {QT QJ QP ST : Nat → Nat} {pu pb : Int32} {V : Nat → Nat → Int32} {mu mu1 : bs_Mm} (h : lM m (T, S, (fc, FG), (rc, UR), (qn, QT, QJ, QP), (ST, pu, pb), (rn, V)) mu) (hT : mT m T'.1 T'.2 mu1) (f0 : ∀ k, k ≠ 7 → mu1 m k = mu m k) (f : ∀ a, m < a → a ≤ m + 31 → a ≠ m + 5 → mu1 a = mu a) : lM m (T', S, (fc, FG), (rc, UR), (qn, QT, QJ, QP), (ST, pu, pb), (rn, V)) mu1 := by
  obtain ⟨h1, h2, h3, h4, h5, h6, h7⟩ := h
  have g : ∀ k, 0 < k → k ≤ 31 → k ≠ 5 → mu1 (m + k) = mu (m + k) := fun k k1 k2 k3 => f _ (by omega) (by omega) (by omega)
  exact ⟨hT, mSo_ofI h2 (f0 5 (by decide)) (g 1 (by decide) (by decide) (by decide)) (g 2 (by decide) (by decide) (by decide)) (g 3 (by decide) (by decide) (by decide)), mFG_ofI h3 (f0 20 (by decide)) fun a a1 a2 => f a (by omega) (by omega) (by omega), mUR_ofI h4 (f0 31 (by decide)) fun a a1 a2 => f a (by omega) (by omega) (by omega), mQU_ofI h5 (f0 45 (by decide)) (g 28 (by decide) (by decide) (by decide)) (g 29 (by decide) (by decide) (by decide)) (g 30 (by decide) (by decide) (by decide)), mSK_ofI h6 (f0 47 (by decide)) (f0 48 (by decide)) (g 4 (by decide) (by decide) (by decide)), mGU_ofI h7 (f0 46 (by decide)) (g 31 (by decide) (by decide) (by decide))⟩
theorem lC_K {x fc rc qn rn qn' rn' : Nat} {T : bs_Ta} {S : bs_So} {FG : Nat → bs_G} {UR : Nat → bs_U} {QT QJ QP ST QT' QJ' QP' ST' : Nat → Nat} {pu pb pu' pb' : Int32} {V V' : Nat → Nat → Int32} {mu mu1 : bs_Mm} (h : lC x (T, S, (fc, FG), (rc, UR), (qn, QT, QJ, QP), (ST, pu, pb), (rn, V)) mu) (hQ : cQU x qn' QT' QJ' QP' mu1) (hS : cSK x ST' pu' pb' mu1) (hG : cGU x rn' V' mu1) (f : ∀ a, x ≤ a → a ≤ x + 158 → a ≠ x + 50 → a ≠ x + 51 → mu1 a = mu a) : lC x (T, S, (fc, FG), (rc, UR), (qn', QT', QJ', QP'), (ST', pu', pb'), (rn', V')) mu1 := by
  obtain ⟨h1, h2, h3, h4, h5, h6, h7, h8, h9, h10⟩ := h
  have g : ∀ k, k ≤ 158 → k ≠ 50 → k ≠ 51 → mu1 (x + k) = mu (x + k) := fun k k1 k2 k3 => f _ (by omega) (by omega) (by omega) (by omega)
  have g0 : mu1 x = mu x := g 0 (by decide) (by decide) (by decide)
  exact ⟨cT_of h1 (g 5 (by decide) (by decide) (by decide)) (g 6 (by decide) (by decide) (by decide)), cSo_of h2 (g 1 (by decide) (by decide) (by decide)) (g 2 (by decide) (by decide) (by decide)) (g 3 (by decide) (by decide) (by decide)) (g 4 (by decide) (by decide) (by decide)), cFG_ofI h3 g0 fun a a1 a2 => f a (by omega) (by omega) (by omega) (by omega), cUR_ofI h4 g0 fun a a1 a2 => f a (by omega) (by omega) (by omega) (by omega), cMK_ofI h5 (g 43 (by decide) (by decide) (by decide)) (g 44 (by decide) (by decide) (by decide)), cMT_of h6 (g 30 (by decide) (by decide) (by decide)) (g 31 (by decide) (by decide) (by decide)), cAG_of h7 (g 45 (by decide) (by decide) (by decide)) (g 46 (by decide) (by decide) (by decide)) (g 47 (by decide) (by decide) (by decide)), hQ, hS, hG⟩
theorem lM_K {m fc rc qn rn qn' rn' : Nat} {T : bs_Ta} {S : bs_So} {FG : Nat → bs_G} {UR : Nat → bs_U} {QT QJ QP ST QT' QJ' QP' ST' : Nat → Nat} {pu pb pu' pb' : Int32} {V V' : Nat → Nat → Int32} {mu mu1 : bs_Mm} (h : lM m (T, S, (fc, FG), (rc, UR), (qn, QT, QJ, QP), (ST, pu, pb), (rn, V)) mu) (hQ : mQU m qn' QT' QJ' QP' mu1) (hS : mSK m ST' pu' pb' mu1) (hG : mGU m rn' V' mu1) (f0 : ∀ k, k < 45 → mu1 m k = mu m k) (f : ∀ a, m < a → a ≤ m + 31 → a ≠ m + 4 → mu1 a = mu a) : lM m (T, S, (fc, FG), (rc, UR), (qn', QT', QJ', QP'), (ST', pu', pb'), (rn', V')) mu1 := by
  obtain ⟨h1, h2, h3, h4, h5, h6, h7⟩ := h
  have g : ∀ k, 0 < k → k ≤ 31 → k ≠ 4 → mu1 (m + k) = mu (m + k) := fun k k1 k2 k3 => f _ (by omega) (by omega) (by omega)
  exact ⟨mT_of h1 (f0 7 (by decide)) (g 5 (by decide) (by decide) (by decide)), mSo_ofI h2 (f0 5 (by decide)) (g 1 (by decide) (by decide) (by decide)) (g 2 (by decide) (by decide) (by decide)) (g 3 (by decide) (by decide) (by decide)), mFG_ofI h3 (f0 20 (by decide)) fun a a1 a2 => f a (by omega) (by omega) (by omega), mUR_ofI h4 (f0 31 (by decide)) fun a a1 a2 => f a (by omega) (by omega) (by omega), hQ, hS, hG⟩
theorem lb_end (x : Nat) (a : Int32) : lw_B mX11_end mX12_end x [.int a] := fun R nx sh mu I => by
  obtain ⟨HX, HM, -, -, hR, ⟨T, S, ⟨fc, FG⟩, ⟨rc, UR⟩, ⟨qn, QT, QJ, QP⟩, ⟨ST, pu, pb⟩, ⟨rn, V⟩⟩, h⟩ := id I
  have hT : cT x T.1 T.2 mu := h.1.1
  have hU : mT (x + 159) T.1 T.2 mu := h.2.1.1
  by_cases hm : en_may T.1 a
  · obtain ⟨k, hk, rfl⟩ : ∃ k, k ≤ T.1 ∧ a = nI k := by
      rcases g_at_c (T.1 + 1) (by have := hT.2.1; omega) a with ha | ⟨j, hj, ha⟩
      · exfalso
        rcases ha with ha | ha
        · exact hm.1 ha
        · have e1 := Int32.le_iff_toInt_le.mp ha
          have e2 := Int32.le_iff_toInt_le.mp hm.2
          have := hT.2.1
          rw [nI_toInt (by omega)] at e1 e2
          omega
      · exact ⟨j, by omega, ha⟩
    have r1 : fg_R R (bs_up mu (x + 5) 1 (.int (nI k))) := hR.up (HX.n 5 1 rfl rfl rfl)
    have m7 : bs_iv ((bs_up mu (x + 5) 1 (.int (nI k))) (x + 159) 7) = nI T.1 := by rw [bs_up_f (by omega)]; exact hU.1
    refine lw_fx (d1 := 10) (d2 := 10) (by decide) (by decide) (lw_e (c_endA (fg_stS HX hR) hT.1 hT.2.1 hk) r1) (fun h1 => lw_e (n_endA (fg_stS HM h1) m7 hU.2.1 hk) (h1.up (HM.n 0 7 rfl rfl rfl))) I ⟨((k, T.2), S, (fc, FG), (rc, UR), (qn, QT, QJ, QP), (ST, pu, pb), (rn, V)), ?_, ?_, h.2.2⟩
    · refine lC_T h.1 ⟨?_, by have := hT.2.1; show k ≤ 200; omega, fun i hi => ?_⟩ fun b b1 b2 b3 b4 => ?_
      · rw [bs_up_f (by omega), bs_up_eq]; rfl
      · rw [bs_up_f (by omega), bs_up_f (by omega)]
        exact hT.2.2 i (Nat.lt_of_lt_of_le hi hk)
      · rw [bs_up_f (by omega), bs_up_f (by omega)]
    · refine lM_T h.2.1 ⟨?_, by have := hT.2.1; show k ≤ 200; omega, fun i hi => ?_⟩ (fun j hj => ?_) fun b b1 b2 b3 => ?_
      · rw [bs_up_eq]; rfl
      · rw [bs_up_f (by omega), bs_up_f (by omega)]
        exact hU.2.2 i (Nat.lt_of_lt_of_le hi hk)
      · rw [bs_up_j hj, bs_up_f (by omega)]
      · rw [bs_up_f (by omega), bs_up_f (by omega)]
  · exact lw_fx (d1 := 10) (d2 := 10) (by decide) (by decide) (lw_no hR (c_endR (fg_stS HX hR) hT.1 hT.2.1 hm)) (fun h1 => lw_no h1 (n_endR (fg_stS HM h1) hU.1 hU.2.1 hm)) I ⟨_, h⟩
theorem lb_pace (x : Nat) (a b : Int32) : lw_B mX11_pace mX12_pace x [.int a, .int b] := fun R nx sh mu I => by
  obtain ⟨HX, HM, -, -, hR, ⟨T, S, ⟨fc, FG⟩, ⟨rc, UR⟩, ⟨qn, QT, QJ, QP⟩, ⟨ST, pu, pb⟩, ⟨rn, V⟩⟩, h⟩ := id I
  have hQ : cQU x qn QT QJ QP mu := h.1.2.2.2.2.2.2.2.1
  have hS : cSK x ST pu pb mu := h.1.2.2.2.2.2.2.2.2.1
  have hG : cGU x rn V mu := h.1.2.2.2.2.2.2.2.2.2
  have mQ : mQU (x + 159) qn QT QJ QP mu := h.2.1.2.2.2.2.1
  have mS : mSK (x + 159) ST pu pb mu := h.2.1.2.2.2.2.2.1
  have mG : mGU (x + 159) rn V mu := h.2.1.2.2.2.2.2.2
  by_cases hm : pa_may a b
  · obtain ⟨i, rfl, i1, i2⟩ := bs_in_nat hm.1 (by decide)
    obtain ⟨j, rfl, j1, j2⟩ := bs_in_nat hm.2 (by decide)
    have i1 : (1 : Int) ≤ i := i1
    have i2 : (i : Int) ≤ 9 := i2
    have j2 : (j : Int) ≤ 9 := j2
    have r1 : fg_R R (bs_up (bs_up mu (x + 50) 1 (.int (nI i))) (x + 50) 2 (.int (nI j))) := (hR.up (HX.n 50 1 rfl rfl rfl)).up (HX.n 50 2 rfl rfl rfl)
    refine lw_fx (d1 := 10) (d2 := 10) (by decide) (by decide) (lw_e (c_paceA (fg_stS HX hR) ⟨by omega, by omega⟩ (by omega)) r1) (fun h1 => lw_e (n_paceA (fg_stS HM h1) ⟨by omega, by omega⟩ (by omega)) ((h1.up (HM.n 0 47 rfl rfl rfl)).up (HM.n 0 48 rfl rfl rfl))) I ⟨(T, S, (fc, FG), (rc, UR), (qn, QT, QJ, QP), (ST, nI i, nI j), (rn, V)), ?_, ?_, h.2.2⟩
    · refine lC_K h.1 ⟨hQ.1, ?_, ?_, ?_, ?_⟩ ⟨fun k hk => ?_, ?_, ?_⟩ ⟨hG.1, ?_, fun k hk c hc => ?_⟩ fun c c1 c2 c3 c4 => ?_
      · rw [bs_up_f (by omega), bs_up_f (by omega), bs_up_j (by decide), bs_up_j (by decide)]; exact hQ.2.1
      · unfold bs_rw; rw [bs_up_f (by omega), bs_up_f (by omega), bs_up_f (by omega), bs_up_f (by omega)]; exact hQ.2.2.1
      · unfold bs_rw; rw [bs_up_f (by omega), bs_up_f (by omega), bs_up_f (by omega), bs_up_f (by omega)]; exact hQ.2.2.2.1
      · unfold bs_rw; rw [bs_up_f (by omega), bs_up_f (by omega), bs_up_f (by omega), bs_up_f (by omega)]; exact hQ.2.2.2.2
      · rw [bs_up_f (by omega), bs_up_f (by omega), bs_up_f (by omega), bs_up_f (by omega)]; exact hS.1 k hk
      · rw [bs_up_f (by omega), bs_up_f (by omega), bs_up_j (by decide), bs_up_eq]; rfl
      · rw [bs_up_f (by omega), bs_up_f (by omega), bs_up_eq]; rfl
      · rw [bs_up_f (by omega), bs_up_f (by omega), bs_up_j (by decide), bs_up_j (by decide)]; exact hG.2.1
      · rw [bs_up_f (by omega), bs_up_f (by omega), bs_up_f (by omega), bs_up_f (by omega)]; exact hG.2.2 k hk c hc
      · rw [bs_up_f (by omega), bs_up_f (by omega), bs_up_f (by omega), bs_up_f (by omega)]
    · refine lM_K h.2.1 ⟨mQ.1, ?_, ?_, ?_, ?_⟩ ⟨fun k hk => ?_, ?_, ?_⟩ ⟨mG.1, ?_, fun k hk c hc => ?_⟩ (fun k hk => ?_) fun c c1 c2 c3 => ?_
      · rw [bs_up_j (by decide), bs_up_j (by decide), bs_up_f (by omega), bs_up_f (by omega)]; exact mQ.2.1
      · unfold bs_rw; rw [bs_up_f (by omega), bs_up_f (by omega), bs_up_f (by omega), bs_up_f (by omega)]; exact mQ.2.2.1
      · unfold bs_rw; rw [bs_up_f (by omega), bs_up_f (by omega), bs_up_f (by omega), bs_up_f (by omega)]; exact mQ.2.2.2.1
      · unfold bs_rw; rw [bs_up_f (by omega), bs_up_f (by omega), bs_up_f (by omega), bs_up_f (by omega)]; exact mQ.2.2.2.2
      · rw [bs_up_f (by omega), bs_up_f (by omega), bs_up_f (by omega), bs_up_f (by omega)]; exact mS.1 k hk
      · rw [bs_up_j (by decide), bs_up_eq]; rfl
      · rw [bs_up_eq]; rfl
      · rw [bs_up_j (by decide), bs_up_j (by decide), bs_up_f (by omega), bs_up_f (by omega)]; exact mG.2.1
      · rw [bs_up_f (by omega), bs_up_f (by omega), bs_up_f (by omega), bs_up_f (by omega)]; exact mG.2.2 k hk c hc
      · rw [bs_up_j (by omega), bs_up_j (by omega), bs_up_f (by omega), bs_up_f (by omega)]
      · rw [bs_up_f (by omega), bs_up_f (by omega), bs_up_f (by omega), bs_up_f (by omega)]
  · exact lw_fx (d1 := 10) (d2 := 10) (by decide) (by decide) (lw_no hR (c_paceR (fg_stS HX hR) hm)) (fun h1 => lw_no h1 (n_paceR (fg_stS HM h1) hm)) I ⟨_, h⟩
theorem lb_close (x : Nat) : lw_B mX11_close mX12_close x [] := fun R nx sh mu I => by
  obtain ⟨HX, HM, -, -, hR, ⟨T, S, ⟨fc, FG⟩, ⟨rc, UR⟩, ⟨qn, QT, QJ, QP⟩, ⟨ST, pu, pb⟩, ⟨rn, V⟩⟩, h⟩ := id I
  have hQ : cQU x qn QT QJ QP mu := h.1.2.2.2.2.2.2.2.1
  have hS : cSK x ST pu pb mu := h.1.2.2.2.2.2.2.2.2.1
  have mQ : mQU (x + 159) qn QT QJ QP mu := h.2.1.2.2.2.2.1
  have mS : mSK (x + 159) ST pu pb mu := h.2.1.2.2.2.2.2.1
  have r1 : fg_R R (bs_up (bs_up mu (x + 50) 3 (.int (nI 0))) (x + 50) 4 (.int (nI 0))) := (hR.up (HX.n 50 3 rfl rfl rfl)).up (HX.n 50 4 rfl rfl rfl)
  have m45 : bs_iv ((bs_up (bs_up mu (x + 50) 3 (.int (nI 0))) (x + 50) 4 (.int (nI 0))) (x + 159) 45) = nI qn := by rw [bs_up_f (by omega), bs_up_f (by omega)]; exact mQ.2.1
  refine lw_fx (d1 := 10) (d2 := 10) (by decide) (by decide) (lw_e (c_close (fg_stS HX hR) hQ.2.1 hQ.1) r1) (fun h1 => lw_e (n_close (fg_stS HM h1) m45 hQ.1) ((h1.up (HM.n 0 45 rfl rfl rfl)).up (HM.n 0 46 rfl rfl rfl))) I ⟨(T, S, (fc, FG), (rc, UR), (0, QT, QJ, QP), (ST, pu, pb), (0, V)), ?_, ?_, h.2.2.1, h.2.2.2.1, fun i hi => absurd hi (Nat.not_lt_zero i)⟩
  · refine lC_K h.1 ⟨by decide, ?_, fun i hi => absurd hi (Nat.not_lt_zero i), fun i hi => absurd hi (Nat.not_lt_zero i), fun i hi => absurd hi (Nat.not_lt_zero i)⟩ ⟨fun k hk => ?_, ?_, ?_⟩ ⟨by decide, ?_, fun i hi => absurd hi (Nat.not_lt_zero i)⟩ fun c c1 c2 c3 c4 => ?_
    · rw [bs_up_f (by omega), bs_up_f (by omega), bs_up_j (by decide), bs_up_eq]; rfl
    · rw [bs_up_f (by omega), bs_up_f (by omega), bs_up_f (by omega), bs_up_f (by omega)]; exact hS.1 k hk
    · rw [bs_up_f (by omega), bs_up_f (by omega), bs_up_j (by decide), bs_up_j (by decide)]; exact hS.2.1
    · rw [bs_up_f (by omega), bs_up_f (by omega), bs_up_j (by decide), bs_up_j (by decide)]; exact hS.2.2
    · rw [bs_up_f (by omega), bs_up_f (by omega), bs_up_eq]; rfl
    · rw [bs_up_f (by omega), bs_up_f (by omega), bs_up_f (by omega), bs_up_f (by omega)]
  · refine lM_K h.2.1 ⟨by decide, ?_, fun i hi => absurd hi (Nat.not_lt_zero i), fun i hi => absurd hi (Nat.not_lt_zero i), fun i hi => absurd hi (Nat.not_lt_zero i)⟩ ⟨fun k hk => ?_, ?_, ?_⟩ ⟨by decide, ?_, fun i hi => absurd hi (Nat.not_lt_zero i)⟩ (fun k hk => ?_) fun c c1 c2 c3 => ?_
    · rw [bs_up_j (by decide), bs_up_eq]; rfl
    · rw [bs_up_f (by omega), bs_up_f (by omega), bs_up_f (by omega), bs_up_f (by omega)]; exact mS.1 k hk
    · rw [bs_up_j (by decide), bs_up_j (by decide), bs_up_f (by omega), bs_up_f (by omega)]; exact mS.2.1
    · rw [bs_up_j (by decide), bs_up_j (by decide), bs_up_f (by omega), bs_up_f (by omega)]; exact mS.2.2
    · rw [bs_up_eq]; rfl
    · rw [bs_up_j (by omega), bs_up_j (by omega), bs_up_f (by omega), bs_up_f (by omega)]
    · rw [bs_up_f (by omega), bs_up_f (by omega), bs_up_f (by omega), bs_up_f (by omega)]
theorem lb_stock (x : Nat) (a b : Int32) : lw_B mX11_stock mX12_stock x [.int a, .int b] := fun R nx sh mu I => by
  obtain ⟨HX, HM, -, -, hR, ⟨T, S, ⟨fc, FG⟩, ⟨rc, UR⟩, ⟨qn, QT, QJ, QP⟩, ⟨ST, pu, pb⟩, ⟨rn, V⟩⟩, h⟩ := id I
  have hO : cSo x S mu := h.1.2.1
  have hP : mSo (x + 159) S mu := h.2.1.2.1
  have hk : so_ok S := h.2.2.1
  have hQ : cQU x qn QT QJ QP mu := h.1.2.2.2.2.2.2.2.1
  have hS : cSK x ST pu pb mu := h.1.2.2.2.2.2.2.2.2.1
  have hG : cGU x rn V mu := h.1.2.2.2.2.2.2.2.2.2
  have mQ : mQU (x + 159) qn QT QJ QP mu := h.2.1.2.2.2.2.1
  have mS : mSK (x + 159) ST pu pb mu := h.2.1.2.2.2.2.2.1
  have mG : mGU (x + 159) rn V mu := h.2.1.2.2.2.2.2.2
  rcases g_at_c S.1 (by have := hk.1; omega) a with ha | ⟨s, hs, ha⟩
  · exact lw_fx (d1 := 10) (d2 := 10) (by decide) (by decide) (lw_no hR (c_stockN (fg_stS HX hR) hO hk ha b)) (fun h1 => lw_no h1 (n_stockN (fg_stS HM h1) hP hk ha b)) I ⟨_, h⟩
  · subst ha
    by_cases hm : bs_in b 0 99 = 1
    · obtain ⟨j, rfl, j1, j2⟩ := bs_in_nat hm (by decide)
      have j2 : (j : Int) ≤ 99 := j2
      have r1 : fg_R R (bs_up mu (x + 51) s (.int (nI j))) := hR.up (HX.n 51 s rfl rfl rfl)
      have mP : mSo (x + 159) S (bs_up mu (x + 51) s (.int (nI j))) := mSo_ofI hP (by rw [bs_up_f (by omega)]) (by rw [bs_up_f (by omega)]) (by rw [bs_up_f (by omega)]) (by rw [bs_up_f (by omega)])
      refine lw_fx (d1 := 10) (d2 := 10) (by decide) (by decide) (lw_e (c_stockA (fg_stS HX hR) hO hk hs (by omega)) r1) (fun h1 => lw_e (n_stockA (fg_stS HM h1) mP hk hs (by omega)) (h1.up (HM.n 4 s rfl rfl rfl))) I ⟨(T, S, (fc, FG), (rc, UR), (qn, QT, QJ, QP), (bs_fn ST s j, pu, pb), (rn, V)), ?_, ?_, h.2.2⟩
      · refine lC_K h.1 ⟨hQ.1, ?_, ?_, ?_, ?_⟩ ⟨fun k hk => ?_, ?_, ?_⟩ ⟨hG.1, ?_, fun k hk c hc => ?_⟩ fun c c1 c2 c3 c4 => ?_
        · rw [bs_up_f (by omega), bs_up_f (by omega)]; exact hQ.2.1
        · unfold bs_rw; rw [bs_up_f (by omega), bs_up_f (by omega)]; exact hQ.2.2.1
        · unfold bs_rw; rw [bs_up_f (by omega), bs_up_f (by omega)]; exact hQ.2.2.2.1
        · unfold bs_rw; rw [bs_up_f (by omega), bs_up_f (by omega)]; exact hQ.2.2.2.2
        · rw [bs_up_f (by omega)]
          by_cases e : k = s
          · rw [e, bs_up_eq, bs_fn_s]; exact ⟨rfl, by omega⟩
          · rw [bs_up_j e, bs_fn_n e]; exact hS.1 k hk
        · rw [bs_up_f (by omega), bs_up_f (by omega)]; exact hS.2.1
        · rw [bs_up_f (by omega), bs_up_f (by omega)]; exact hS.2.2
        · rw [bs_up_f (by omega), bs_up_f (by omega)]; exact hG.2.1
        · rw [bs_up_f (by omega), bs_up_f (by omega)]; exact hG.2.2 k hk c hc
        · rw [bs_up_f (by omega), bs_up_f (by omega)]
      · refine lM_K h.2.1 ⟨mQ.1, ?_, ?_, ?_, ?_⟩ ⟨fun k hk => ?_, ?_, ?_⟩ ⟨mG.1, ?_, fun k hk c hc => ?_⟩ (fun k hk => ?_) fun c c1 c2 c3 => ?_
        · rw [bs_up_f (by omega), bs_up_f (by omega)]; exact mQ.2.1
        · unfold bs_rw; rw [bs_up_f (by omega), bs_up_f (by omega)]; exact mQ.2.2.1
        · unfold bs_rw; rw [bs_up_f (by omega), bs_up_f (by omega)]; exact mQ.2.2.2.1
        · unfold bs_rw; rw [bs_up_f (by omega), bs_up_f (by omega)]; exact mQ.2.2.2.2
        · by_cases e : k = s
          · rw [e, bs_up_eq, bs_fn_s]; exact ⟨rfl, by omega⟩
          · rw [bs_up_j e, bs_fn_n e, bs_up_f (by omega)]; exact mS.1 k hk
        · rw [bs_up_f (by omega), bs_up_f (by omega)]; exact mS.2.1
        · rw [bs_up_f (by omega), bs_up_f (by omega)]; exact mS.2.2
        · rw [bs_up_f (by omega), bs_up_f (by omega)]; exact mG.2.1
        · rw [bs_up_f (by omega), bs_up_f (by omega)]; exact mG.2.2 k hk c hc
        · rw [bs_up_f (by omega), bs_up_f (by omega)]
        · rw [bs_up_f (by omega), bs_up_f (by omega)]
    · exact lw_fx (d1 := 10) (d2 := 10) (by decide) (by decide) (lw_no hR (c_stockB (fg_stS HX hR) hO hk hs hm)) (fun h1 => lw_no h1 (n_stockB (fg_stS HM h1) hP hk hs hm)) I ⟨_, h⟩
/-! feed -/
def ta_ok (T : bs_Ta) : Prop := ∀ i, i < T.1 → 1 ≤ T.2 i ∧ T.2 i ≤ 255
theorem ta_ok_p {T : bs_Ta} (h : ta_ok T) (v s : Int32) : ta_ok (ta_p T (bs_by v s)) := by
  by_cases e : bs_by v s = 0
  · rw [ta_p0 e]
    exact h
  · rw [ta_p1 e]
    intro i hi
    have hi : i < T.1 + 1 := hi
    show 1 ≤ bs_fn T.2 T.1 (bs_by v s).toNatClampNeg i ∧ bs_fn T.2 T.1 (bs_by v s).toNatClampNeg i ≤ 255
    by_cases e2 : i = T.1
    · obtain ⟨w, hw, ew⟩ := ta_by v s
      rw [e2, bs_fn_s, ew, nI_clamp (by omega)]
      have : w ≠ 0 := fun z => e (by rw [ew, z]; rfl)
      omega
    · rw [bs_fn_n e2]
      exact h i (by omega)
theorem ta_ok_w {T : bs_Ta} (h : ta_ok T) (v : Int32) : ta_ok (ta_w T v) := ta_ok_p (ta_ok_p (ta_ok_p (ta_ok_p h v 24) v 16) v 8) v 0
theorem ta_ok_f {T : bs_Ta} (h : ta_ok T) (a b c d e : Int32) : ta_ok (ta_f T a b c d e) := ta_ok_w (ta_ok_w (ta_ok_w (ta_ok_w (ta_ok_w h a) b) c) d) e
theorem lb_feed (x : Nat) (a b c d e : Int32) : lw_B mX11_feed mX12_feed x [.int a, .int b, .int c, .int d, .int e] := fun R nx sh mu I => by
  obtain ⟨HX, HM, -, -, hR, ⟨T, S, ⟨fc, FG⟩, ⟨rc, UR⟩, ⟨qn, QT, QJ, QP⟩, ⟨ST, pu, pb⟩, ⟨rn, V⟩⟩, h⟩ := id I
  have hT : cT x T.1 T.2 mu := h.1.1
  have hU : mT (x + 159) T.1 T.2 mu := h.2.1.1
  have ok : ta_ok T := fun i hi => (hT.2.2 i hi).2
  have rw1 : bs_rw mu (x + 6) T.1 T.2 := fun i hi => (hT.2.2 i hi).1
  by_cases hm : T.1 + ta_n a b c d e ≤ 200
  · have n200 : (ta_f T a b c d e).1 ≤ 200 := by rw [ta_f_n]; exact hm
    refine ⟨nI (ta_f T a b c d e).1, 10, 10, by decide, by decide, (c_feedA (fg_stS HX hR) hT.1 rw1 hT.2.1 a b c d e hm).post fun v n1 s1 mu1 q => ⟨q.1, q.2.1, q.2.2.1, ?_⟩⟩
    obtain ⟨-, -, -, f1, f2, f3, f4⟩ := q
    have h1 : fg_R R mu1 := fun p k y hy => by
      by_cases p5 : p = x + 5
      · subst p5
        match k, hy with
        | 0, hy =>
          rw [HX.r 5 0 rfl rfl rfl] at hy
          cases hy
          exact f3
        | 1, hy => rw [HX.n 5 1 rfl rfl rfl] at hy; cases hy
        | k + 2, hy => rw [HX.n 5 (k + 2) rfl rfl rfl] at hy; cases hy
      · by_cases p6 : p = x + 6
        · subst p6
          rw [HX.n 6 k rfl rfl rfl] at hy
          cases hy
        · rw [f1 p p5 p6]
          exact hR p k y hy
    have cT1 : cT x (ta_f T a b c d e).1 (ta_f T a b c d e).2 mu1 := ⟨f2, n200, fun i hi => ⟨f4 i hi, ta_ok_f ok a b c d e i hi⟩⟩
    have m7 : bs_iv (mu1 (x + 159) 7) = nI T.1 := by rw [f1 _ (by omega) (by omega)]; exact hU.1
    have mrw : bs_rw mu1 (x + 159 + 5) T.1 T.2 := fun i hi => by rw [f1 _ (by omega) (by omega)]; exact (hU.2.2 i hi).1
    have lm1 := lM_of (mu' := mu1) h.2.1 (fun k _ => by rw [f1 _ (by omega) (by omega)]) fun y b1 b2 b3 b4 => f1 y (by omega) (by omega)
    refine (n_feedA (fg_stS HM h1) m7 mrw hU.2.1 a b c d e hm).post fun w n2 s2 mu2 z => ⟨z.1, z.2.1, z.2.2.1, ?_⟩
    obtain ⟨-, -, -, g1, g2, g3, g4, g5⟩ := z
    have h2 : fg_R R mu2 := fun p k y hy => by
      by_cases p5 : p = x + 159
      · subst p5
        by_cases k7 : k = 7
        · subst k7
          rw [HM.n 0 7 rfl rfl rfl] at hy
          cases hy
        · rw [g5 k k7]
          exact h1 _ k y hy
      · by_cases p6 : p = x + 159 + 5
        · subst p6
          rw [HM.n 5 k rfl rfl rfl] at hy
          cases hy
        · rw [g1 p p5 p6]
          exact h1 p k y hy
    refine I.to h2 ⟨(ta_f T a b c d e, S, (fc, FG), (rc, UR), (qn, QT, QJ, QP), (ST, pu, pb), (rn, V)), ?_, ?_, h.2.2⟩
    · exact lC_of (lC_T (T' := ta_f T a b c d e) h.1 cT1 fun y y1 y2 y3 y4 => f1 y y3 y4) fun y y1 y2 _ _ _ _ => g1 y (by omega) (by omega)
    · exact lM_T (T' := ta_f T a b c d e) lm1 ⟨g2, n200, fun i hi => ⟨g4 i hi, ta_ok_f ok a b c d e i hi⟩⟩ g5 fun y y1 y2 y3 => g1 y (by omega) y3
  · have mT7 := hU.1
    exact lw_fx (d1 := 10) (d2 := 10) (by decide) (by decide) (lw_no hR (c_feedR (fg_stS HX hR) hT.1 rw1 hT.2.1 a b c d e (by omega))) (fun h1 => lw_no h1 (n_feedR (fg_stS HM h1) mT7 hU.2.1 a b c d e (by omega))) I ⟨_, h⟩
