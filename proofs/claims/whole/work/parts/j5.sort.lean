/-! THE CALLS (own): sort -/
theorem ag_so {G : bs_G} {U : bs_U} {S S' : bs_So} (hG : g_ok G) (hs : ∀ b, b < g_nb G → g_so G b < S.1) (e1 : ∀ k, k < S.1 → S'.2.1 k = S.2.1 k) (e2 : ∀ k, k < S.1 → S'.2.2.1 k = S.2.2.1 k) : ∀ h, (ag_n G U S' h).2 = (ag_n G U S h).2 ∧ ∀ i, i < g_nu G → (ag_n G U S' h).1 i = (ag_n G U S h).1 i := by
  intro h
  induction h with
  | zero => exact ⟨rfl, fun _ _ => rfl⟩
  | succ h ih =>
    obtain ⟨i1, i2⟩ := ih
    have hw : ∀ i, i < g_nu G → ag_w G U S' (h + 1) (ag_n G U S' h) i = ag_w G U S (h + 1) (ag_n G U S h) i := fun i hi => by
      have hb := hs _ (hG.2.2.2.1 i hi).2.2
      unfold ag_w
      rw [i2 i hi, i1, e1 _ hb, e2 _ hb]
    have hL : ∀ i, i < g_nu G → ag_L G U S' (h + 1) (ag_n G U S' h) i = ag_L G U S (h + 1) (ag_n G U S h) i := fun i hi => by
      unfold ag_L
      rw [hw i hi, i2 i hi]
    have hg : ∀ n, n ≤ g_nu G → ag_g G U S' (h + 1) (ag_n G U S' h) n = ag_g G U S (h + 1) (ag_n G U S h) n := by
      intro n
      induction n with
      | zero => intro _; exact i1
      | succ n ihn =>
        intro hn
        rw [ag_g, ag_g, i2 n (by omega), hL n (by omega), ihn (by omega)]
    have ho : ag_o G U S' (h + 1) (ag_n G U S' h) = ag_o G U S (h + 1) (ag_n G U S h) := by
      unfold ag_o
      rw [hg _ (Nat.le_refl _), i1]
    refine ⟨ho, fun i hi => ?_⟩
    show (if (ag_o G U S' (h + 1) (ag_n G U S' h)).testBit i = true then 0 else ag_L G U S' (h + 1) (ag_n G U S' h) i) = if (ag_o G U S (h + 1) (ag_n G U S h)).testBit i = true then 0 else ag_L G U S (h + 1) (ag_n G U S h) i
    rw [ho, hL i hi]
theorem cAG_so {x fc rc : Nat} {FG : Nat → bs_G} {UR : Nat → bs_U} {S S' : bs_So} {mu : bs_Mm} (h : cAG x fc rc FG UR S mu) (hD : ∀ k, k < fc → g_iv (FG k) ∧ ∀ b, b < g_nb (FG k) → g_so (FG k) b < S.1) (e1 : ∀ k, k < S.1 → S'.2.1 k = S.2.1 k) (e2 : ∀ k, k < S.1 → S'.2.2.1 k = S.2.2.1 k) : cAG x fc rc FG UR S' mu := ⟨h.1, h.2.1, fun j k a b => by
  obtain ⟨i, hi, ei⟩ := h.1 _ a
  have ej : j = i := by omega
  subst ej
  obtain ⟨kn, c1, c2, c3⟩ := h.2.2 j k a b
  have z := ag_so (U := UR k) (hD j hi).1.1 (hD j hi).2 e1 e2
  exact ⟨kn, c1, c2, fun t ht => ⟨by rw [(z t).1]; exact (c3 t ht).1, fun i hi => by rw [(z t).2 i hi]; exact (c3 t ht).2 i hi⟩⟩⟩
theorem cMK_so {x fc : Nat} {FG : Nat → bs_G} {S S' : bs_So} {mu : bs_Mm} (h : cMK x fc S.1 FG S.2.1 S.2.2.1 mu) (e0 : S.1 ≤ S'.1) (e1 : ∀ k, k < S.1 → S'.2.1 k = S.2.1 k) (e2 : ∀ k, k < S.1 → S'.2.2.1 k = S.2.2.1 k) : cMK x fc S'.1 FG S'.2.1 S'.2.2.1 mu := fun j hj k hk => by
  rcases h j hj k hk with e | ⟨c1, c2, c3, c4⟩
  · exact Or.inl e
  · refine Or.inr ⟨c1, by omega, c3, ?_⟩
    rw [e1 k c2, e2 k c2]
    exact c4
theorem lC_S {x fc rc qn rn : Nat} {T : bs_Ta} {S S' : bs_So} {FG : Nat → bs_G} {UR : Nat → bs_U} {QT QJ QP ST : Nat → Nat} {pu pb : Int32} {V : Nat → Nat → Int32} {mu mu1 : bs_Mm} (h : lC x (T, S, (fc, FG), (rc, UR), (qn, QT, QJ, QP), (ST, pu, pb), (rn, V)) mu) (hO : cSo x S' mu1) (e0 : S.1 ≤ S'.1) (e1 : ∀ k, k < S.1 → S'.2.1 k = S.2.1 k) (e2 : ∀ k, k < S.1 → S'.2.2.1 k = S.2.2.1 k) (hD : ∀ k, k < fc → g_iv (FG k) ∧ ∀ b, b < g_nb (FG k) → g_so (FG k) b < S.1) (f : ∀ a, x ≤ a → a ≤ x + 158 → (a = x ∨ x + 5 ≤ a) → mu1 a = mu a) : lC x (T, S', (fc, FG), (rc, UR), (qn, QT, QJ, QP), (ST, pu, pb), (rn, V)) mu1 := by
  obtain ⟨h1, h2, h3, h4, h5, h6, h7, h8, h9, h10⟩ := h
  have g : ∀ k, k ≤ 158 → 5 ≤ k → mu1 (x + k) = mu (x + k) := fun k k1 k2 => f _ (by omega) (by omega) (by omega)
  have g0 : mu1 x = mu x := f x (by omega) (by omega) (Or.inl rfl)
  exact ⟨cT_of h1 (g 5 (by decide) (by decide)) (g 6 (by decide) (by decide)), hO, cFG_ofI h3 g0 fun a a1 a2 => f a (by omega) (by omega) (by omega), cUR_ofI h4 g0 fun a a1 a2 => f a (by omega) (by omega) (by omega), cMK_so (cMK_ofI h5 (g 43 (by decide) (by decide)) (g 44 (by decide) (by decide))) e0 e1 e2, cMT_of h6 (g 30 (by decide) (by decide)) (g 31 (by decide) (by decide)), cAG_so (cAG_of h7 (g 45 (by decide) (by decide)) (g 46 (by decide) (by decide)) (g 47 (by decide) (by decide))) hD e1 e2, cQU_ofI h8 (g 50 (by decide) (by decide)) (g 56 (by decide) (by decide)) (g 57 (by decide) (by decide)) (g 58 (by decide) (by decide)), cSK_ofI h9 (g 50 (by decide) (by decide)) (g 51 (by decide) (by decide)), cGU_ofI h10 (g 50 (by decide) (by decide)) fun k hk => f _ (by omega) (by omega) (by omega)⟩
theorem lM_S {m fc rc qn rn : Nat} {T : bs_Ta} {S S' : bs_So} {FG : Nat → bs_G} {UR : Nat → bs_U} {QT QJ QP ST : Nat → Nat} {pu pb : Int32} {V : Nat → Nat → Int32} {mu mu1 : bs_Mm} (h : lM m (T, S, (fc, FG), (rc, UR), (qn, QT, QJ, QP), (ST, pu, pb), (rn, V)) mu) (hO : mSo m S' mu1) (f0 : ∀ k, k ≠ 5 → mu1 m k = mu m k) (f : ∀ a, m + 3 < a → a ≤ m + 31 → mu1 a = mu a) : lM m (T, S', (fc, FG), (rc, UR), (qn, QT, QJ, QP), (ST, pu, pb), (rn, V)) mu1 := by
  obtain ⟨h1, h2, h3, h4, h5, h6, h7⟩ := h
  have g : ∀ k, 3 < k → k ≤ 31 → mu1 (m + k) = mu (m + k) := fun k k1 k2 => f _ (by omega) (by omega)
  exact ⟨mT_of h1 (f0 7 (by decide)) (g 5 (by decide) (by decide)), hO, mFG_ofI h3 (f0 20 (by decide)) fun a a1 a2 => f a (by omega) (by omega), mUR_ofI h4 (f0 31 (by decide)) fun a a1 a2 => f a (by omega) (by omega), mQU_ofI h5 (f0 45 (by decide)) (g 28 (by decide) (by decide)) (g 29 (by decide) (by decide)) (g 30 (by decide) (by decide)), mSK_ofI h6 (f0 47 (by decide)) (f0 48 (by decide)) (g 4 (by decide) (by decide)), mGU_ofI h7 (f0 46 (by decide)) (g 31 (by decide) (by decide))⟩
theorem so_mu_f {r0 r1 r2 o k n c : Nat} {a b e : Int32} {mu : bs_Mm} (h0 : c ≠ r0) (h1 : c ≠ r1) (h2 : c ≠ r2) (h3 : c ≠ o) : so_mu r0 r1 r2 o k n a b e mu c = mu c := by
  unfold so_mu
  rw [bs_up_f h3, bs_up_f h2, bs_up_f h1, bs_up_f h0]
theorem so_mu_R {R : Nat → Nat → Option Nat} {r0 r1 r2 o k n : Nat} {a b e : Int32} {mu : bs_Mm} (h : fg_R R mu) (h0 : R r0 n = none) (h1 : R r1 n = none) (h2 : R r2 n = none) (h3 : R o k = none) : fg_R R (so_mu r0 r1 r2 o k n a b e mu) := by
  unfold so_mu
  exact (((h.up h0).up h1).up h2).up h3
theorem lb_sort (x : Nat) (a b c : Int32) : lw_B mX11_sort mX12_sort x [.int a, .int b, .int c] := fun R nx sh mu I => by
  obtain ⟨HX, HM, -, -, hR, ⟨T, S, ⟨fc, FG⟩, ⟨rc, UR⟩, ⟨qn, QT, QJ, QP⟩, ⟨ST, pu, pb⟩, ⟨rn, V⟩⟩, h⟩ := id I
  have hO : cSo x S mu := h.1.2.1
  have hP : mSo (x + 159) S mu := h.2.1.2.1
  have hk : so_ok S := h.2.2.1
  have hD : ∀ k, k < fc → g_iv (FG k) ∧ ∀ b, b < g_nb (FG k) → g_so (FG k) b < S.1 := h.2.2.2.1
  by_cases hm : so_may S a b c
  · obtain ⟨h1, h2, h3, h6⟩ := hm
    obtain ⟨i, rfl, i1, i2⟩ := bs_in_nat h1 (by decide)
    obtain ⟨j, rfl, j1, j2⟩ := bs_in_nat h2 (by decide)
    obtain ⟨k, rfl, k1, k2⟩ := bs_in_nat h3 (by decide)
    have i1 : (5 : Int) ≤ i := i1
    have i2 : (i : Int) ≤ 200 := i2
    have j2 : (j : Int) ≤ 9 := j2
    have k2 : (k : Int) ≤ 99 := k2
    have e1 : ∀ t, t < S.1 → (so_add S i j k).2.1 t = S.2.1 t := fun t ht => bs_fn_n (by omega)
    have e2 : ∀ t, t < S.1 → (so_add S i j k).2.2.1 t = S.2.2.1 t := fun t ht => bs_fn_n (by omega)
    obtain ⟨mu1, hm1⟩ : ∃ y, y = so_mu (x + 2) (x + 3) (x + 4) (x + 1) 3 S.1 (nI i) (nI j) (nI k) mu := ⟨_, rfl⟩
    have r1 : fg_R R mu1 := by rw [hm1]; exact so_mu_R hR (HX.n 2 S.1 rfl rfl rfl) (HX.n 3 S.1 rfl rfl rfl) (HX.n 4 S.1 rfl rfl rfl) (HX.n 1 3 rfl rfl rfl)
    have f1 : ∀ a, a ≠ x + 1 → a ≠ x + 2 → a ≠ x + 3 → a ≠ x + 4 → mu1 a = mu a := fun a a1 a2 a3 a4 => by rw [hm1]; exact so_mu_f a2 a3 a4 a1
    have hP1 : mSo (x + 159) S mu1 := mSo_ofI hP (by rw [f1 _ (by omega) (by omega) (by omega) (by omega)]) (f1 _ (by omega) (by omega) (by omega) (by omega)) (f1 _ (by omega) (by omega) (by omega) (by omega)) (f1 _ (by omega) (by omega) (by omega) (by omega))
    obtain ⟨mu2, hm2⟩ : ∃ y, y = so_mu (x + 159 + 1) (x + 159 + 2) (x + 159 + 3) (x + 159) 5 S.1 (nI i) (nI j) (nI k) mu1 := ⟨_, rfl⟩
    have r2 : fg_R R mu2 := by rw [hm2]; exact so_mu_R r1 (HM.n 1 S.1 rfl rfl rfl) (HM.n 2 S.1 rfl rfl rfl) (HM.n 3 S.1 rfl rfl rfl) (HM.n 0 5 rfl rfl rfl)
    have f2 : ∀ a, a ≠ x + 159 → a ≠ x + 159 + 1 → a ≠ x + 159 + 2 → a ≠ x + 159 + 3 → mu2 a = mu1 a := fun a a1 a2 a3 a4 => by rw [hm2]; exact so_mu_f a2 a3 a4 a1
    have f3 : ∀ t, t ≠ 5 → mu2 (x + 159) t = mu1 (x + 159) t := fun t ht => by
      rw [hm2]
      unfold so_mu
      rw [bs_up_j ht, bs_up_f (by omega), bs_up_f (by omega), bs_up_f (by omega)]
    have K1 := c_sortA (nx := nx) (fg_stS HX hR) hO hk (a := i) (b := j) (e := k) ⟨by omega, by omega⟩ (by omega) (by omega) h6
    have K2 := n_sortA (nx := nx) (fg_stS HM r1) hP1 hk (a := i) (b := j) (e := k) ⟨by omega, by omega⟩ (by omega) (by omega) h6
    rw [← hm1] at K1
    rw [← hm2] at K2
    have O1 : cSo x (so_add S i j k) mu1 := by rw [hm1]; exact cSo_add hO i j k
    have P2 : mSo (x + 159) (so_add S i j k) mu2 := by rw [hm2]; exact mSo_add hP1 i j k
    have O2 : cSo x (so_add S i j k) mu2 := cSo_of O1 (f2 _ (by omega) (by omega) (by omega) (by omega)) (f2 _ (by omega) (by omega) (by omega) (by omega)) (f2 _ (by omega) (by omega) (by omega) (by omega)) (f2 _ (by omega) (by omega) (by omega) (by omega))
    have f12 : ∀ a, a ≠ x + 1 → a ≠ x + 2 → a ≠ x + 3 → a ≠ x + 4 → a ≠ x + 159 → a ≠ x + 159 + 1 → a ≠ x + 159 + 2 → a ≠ x + 159 + 3 → mu2 a = mu a := fun a a1 a2 a3 a4 a5 a6 a7 a8 => by rw [f2 a a5 a6 a7 a8, f1 a a1 a2 a3 a4]
    refine lw_fx (d1 := 10) (d2 := 10) (by decide) (by decide) (lw_e K1 r1) (fun _ => lw_e K2 r2) I ⟨(T, so_add S i j k, (fc, FG), (rc, UR), (qn, QT, QJ, QP), (ST, pu, pb), (rn, V)), ?_, ?_, ?_, ?_, h.2.2.2.2⟩
    · exact lC_S h.1 O2 (Nat.le_succ _) e1 e2 hD fun a a1 a2 a3 => f12 a (by omega) (by omega) (by omega) (by omega) (by omega) (by omega) (by omega) (by omega)
    · exact lM_S h.2.1 P2 (fun t ht => by rw [f3 t ht, f1 _ (by omega) (by omega) (by omega) (by omega)]) fun a a1 a2 => f12 a (by omega) (by omega) (by omega) (by omega) (by omega) (by omega) (by omega) (by omega)
    · refine ⟨h6, fun t ht => ?_⟩
      show 5 ≤ bs_fn S.2.1 S.1 i t ∧ bs_fn S.2.1 S.1 i t ≤ 200 ∧ bs_fn S.2.2.1 S.1 j t ≤ 9 ∧ bs_fn S.2.2.2 S.1 k t ≤ 99
      by_cases e : t = S.1
      · rw [e, bs_fn_s, bs_fn_s, bs_fn_s]
        omega
      · have ht : t < S.1 + 1 := ht
        rw [bs_fn_n e, bs_fn_n e, bs_fn_n e]
        exact hk.2 t (by omega)
    · exact fun t ht => ⟨(hD t ht).1, fun b hb => Nat.lt_succ_of_lt ((hD t ht).2 b hb)⟩
  · exact lw_fx (d1 := 10) (d2 := 10) (by decide) (by decide) (lw_no hR (c_sortR (fg_stS HX hR) hO hk hm)) (fun h1 => lw_no h1 (n_sortR (fg_stS HM h1) hP hk hm)) I ⟨_, h⟩
