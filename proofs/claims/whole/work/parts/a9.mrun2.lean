/-! RUN: the model's turns and call -/
set_option maxHeartbeats 1000000 in
theorem tf_figL {m g sc : Nat} {G : bs_G} {pu pb t w l6 l7 : Int32} {X l1 : Int64} {CH : Nat → Int32} {SH : Nat → Nat} {mu mu1 : bs_Mm} (hg : g < 13) (hV : mFv m g G mu) (hG : g_ok G) (hsc : sc ≤ 6) (hso : ∀ b, b < g_nb G → g_so G b < sc) (hu : bs_iv (mu m 47) = pu) (hpb : bs_iv (mu m 48) = pb) (hch : ∀ k, k < sc → bs_iv (mu (m + 3) k) = CH k) (hM : rn_M m sc mu mu1 SH) : ∃ mu2, fg_lp (FX12_run_b130_L39 m l1 l6 l7 (nI g)) fg_fu (X, w, nI 0, t, nI 0, mu1) = some ((rn_f G pu pb CH (g_nb G) 0 (SH, t, w, X)).2.2.2.2, (rn_f G pu pb CH (g_nb G) 0 (SH, t, w, X)).2.2.2.1, (rn_f G pu pb CH (g_nb G) 0 (SH, t, w, X)).1, (rn_f G pu pb CH (g_nb G) 0 (SH, t, w, X)).2.2.1, mu2) ∧ rn_M m sc mu mu2 (rn_f G pu pb CH (g_nb G) 0 (SH, t, w, X)).2.1 := by
  have q0 := g_bn hG
  refine Exists.elim (fg_lp_i (body := FX12_run_b130_L39 m l1 l6 l7 (nI g)) (fun r st => (∃ r' b s1, r = r' + 1 ∧ b + r' = g_nb G ∧ st = (s1.2.2.2, s1.2.2.1, nI 0, s1.2.1, nI b, st.2.2.2.2.2) ∧ rn_M m sc mu st.2.2.2.2.2 s1.1 ∧ rn_f G pu pb CH r' b s1 = rn_f G pu pb CH (g_nb G) 0 (SH, t, w, X)) ∨ ∃ b, b ≤ 7 ∧ (rn_f G pu pb CH (g_nb G) 0 (SH, t, w, X)).1 = nI 3 ∧ st = ((rn_f G pu pb CH (g_nb G) 0 (SH, t, w, X)).2.2.2.2, (rn_f G pu pb CH (g_nb G) 0 (SH, t, w, X)).2.2.2.1, nI 3, (rn_f G pu pb CH (g_nb G) 0 (SH, t, w, X)).2.2.1, nI b, st.2.2.2.2.2) ∧ rn_M m sc mu st.2.2.2.2.2 (rn_f G pu pb CH (g_nb G) 0 (SH, t, w, X)).2.1) (fun q => ∃ mu2, q = ((rn_f G pu pb CH (g_nb G) 0 (SH, t, w, X)).2.2.2.2, (rn_f G pu pb CH (g_nb G) 0 (SH, t, w, X)).2.2.2.1, (rn_f G pu pb CH (g_nb G) 0 (SH, t, w, X)).1, (rn_f G pu pb CH (g_nb G) 0 (SH, t, w, X)).2.2.1, mu2) ∧ rn_M m sc mu mu2 (rn_f G pu pb CH (g_nb G) 0 (SH, t, w, X)).2.1) (fun r st hI => ?_) fg_fu (g_nb G + 1) (X, w, nI 0, t, nI 0, mu1) (Or.inl ⟨g_nb G, 0, (SH, t, w, X), rfl, by omega, rfl, hM, rfl⟩) (fg_fu_lt (by omega))) (fun q hq => ?_)
  · rcases hI with ⟨r', b, s1, hr, hb, e, hM1, he⟩ | ⟨b, hb, h3, e, hM1⟩
    · obtain ⟨a1, a2, a3, a4, a5, mu3⟩ := st
      have hM1 : rn_M m sc mu mu3 s1.1 := hM1
      have e : (a1, a2, a3, a4, a5, mu3) = (s1.2.2.2, s1.2.2.1, nI 0, s1.2.1, nI b, mu3) := e
      rw [e]
      have hV3 : mFv m g G mu3 := mFv_of3 hV (fun c _ _ => hM1.2 c (by omega))
      cases r' with
      | zero =>
        have eb : b = g_nb G := by omega
        subst eb
        refine Or.inr ⟨_, ?_, mu3, rfl, by rw [← he]; exact hM1⟩
        unfold FX12_run_b130_L39
        simp only []
        rw [fn_in hg (by decide), fg_gd_t, fn_cl (by omega), hV3.1, if_pos (Int32.le_refl _), ← he]
        rfl
      | succ r' =>
        have hb2 : b < g_nb G := by omega
        have so := hso b hb2
        have rs := hV3.2.2.2.2.1 b hb2
        obtain ⟨mu4, n1, n2⟩ := tf_mkB (b := b) (ch := CH (g_so G b)) (t := s1.2.1) (w := s1.2.2.1) (l6 := l6) (l7 := l7) (X := s1.2.2.2) (l1 := l1) hg hV hG (by omega) so hsc hu hpb (hch _ so) hM1
        have ev : FX12_run_b130_L39 m l1 l6 l7 (nI g) (s1.2.2.2, s1.2.2.1, nI 0, s1.2.1, nI b, mu3) = some (.inl ((rn_mk (pb + pu * nI (g_cb G b (g_nu G))) (CH (g_so G b)) (s1.1 (g_so G b)) s1.2).2.2.2.2, (rn_mk (pb + pu * nI (g_cb G b (g_nu G))) (CH (g_so G b)) (s1.1 (g_so G b)) s1.2).2.2.2.1, (if (rn_mk (pb + pu * nI (g_cb G b (g_nu G))) (CH (g_so G b)) (s1.1 (g_so G b)) s1.2).1 = true then nI 0 else nI 3), (rn_mk (pb + pu * nI (g_cb G b (g_nu G))) (CH (g_so G b)) (s1.1 (g_so G b)) s1.2).2.2.1, nI (b + 1), mu4)) := by
          unfold FX12_run_b130_L39
          simp only []
          rw [fn_in hg (by decide), fg_gd_t, fn_cl (show g < 2 ^ 31 by omega), hV3.1, if_neg (fun h => by have := (nI_leI (by omega) (by omega)).mp h; omega), if_pos (show nI 0 = 0 from rfl), fn_mul, fn_add, fn_in (show 6 * g + b < 78 by omega) (by decide), fg_gd_t, fn_cl (show 6 * g + b < 2 ^ 31 by omega), rs, n1, fg_bd_s, fn_add]
        rw [rn_f] at he
        by_cases y : (rn_mk (pb + pu * nI (g_cb G b (g_nu G))) (CH (g_so G b)) (s1.1 (g_so G b)) s1.2).1 = true
        · rw [if_pos y] at he ev
          refine Or.inl ⟨_, r' + 1, ev, by omega, Or.inl ⟨r', b + 1, _, rfl, by omega, rfl, n2, he⟩⟩
        · rw [if_neg y] at he ev
          refine Or.inl ⟨_, 1 + r', ev, by omega, Or.inr ⟨b + 1, by omega, by rw [← he], by rw [← he], by rw [← he]; exact n2⟩⟩
    · obtain ⟨a1, a2, a3, a4, a5, mu3⟩ := st
      have hM1 : rn_M m sc mu mu3 (rn_f G pu pb CH (g_nb G) 0 (SH, t, w, X)).2.1 := hM1
      have hV3 : mFv m g G mu3 := mFv_of3 hV (fun c _ _ => hM1.2 c (by omega))
      rw [e]
      refine Or.inr ⟨_, ?_, mu3, by rw [h3], hM1⟩
      unfold FX12_run_b130_L39
      simp only []
      rw [fn_in hg (by decide), fg_gd_t, fn_cl (show g < 2 ^ 31 by omega), hV3.1]
      by_cases z : nI (g_nb G) ≤ nI b
      · rw [if_pos z]
      · rw [if_neg z, if_neg (show ¬ nI 3 = 0 by decide)]
  · obtain ⟨q1, mu2, q2, q3⟩ := hq
    rw [q1, q2]
    exact ⟨mu2, rfl, q3⟩
/-- a turn that is over before it begins -/
theorem tf_figS {m g : Nat} {how t w l6 l7 : Int32} {X l1 : Int64} {G : bs_G} {mu : bs_Mm} (hg : g < 13) (hV : mFv m g G mu) (h : ¬ how = 0) : fg_lp (FX12_run_b130_L39 m l1 l6 l7 (nI g)) fg_fu (X, w, how, t, nI 0, mu) = some (X, w, how, t, mu) := by
  refine fg_lp_n (fun _ => (X, w, how, t, nI 0, mu)) _ 0 rfl (fun i hi => absurd hi (Nat.not_lt_zero i)) ?_ (fg_fu_lt (by decide))
  unfold FX12_run_b130_L39
  simp only []
  rw [fn_in hg (by decide), fg_gd_t, fn_cl (show g < 2 ^ 31 by omega), hV.1]
  by_cases z : nI (g_nb G) ≤ nI 0
  · rw [if_pos z]
  · rw [if_neg z, if_neg h]
def mQU (m n : Nat) (T J P : Nat → Nat) (mu : bs_Mm) : Prop := n ≤ 30 ∧ bs_iv (mu m 45) = nI n ∧ bs_rw mu (m + 28) n T ∧ bs_rw mu (m + 29) n J ∧ bs_rw mu (m + 30) n P
def mSK (m : Nat) (ST : Nat → Nat) (pu pb : Int32) (mu : bs_Mm) : Prop := (∀ k, k < 6 → bs_iv (mu (m + 4) k) = nI (ST k) ∧ ST k ≤ 99) ∧ bs_iv (mu m 47) = pu ∧ bs_iv (mu m 48) = pb
def rn_K (m g sc : Nat) (Z : rn_Z) (mu mu1 : bs_Mm) : Prop := (∀ k, k < sc → bs_iv (mu1 (m + 32) k) = nI ((rn_n Z g).2.2.1 k) ∧ (rn_n Z g).2.2.1 k ≤ 99) ∧ (∀ i, i < g → ∀ k, k < 4 → bs_iv (mu1 (m + 31) (4 * i + k)) = rn_V Z i k) ∧ ∀ a, a ≠ m + 31 → a ≠ m + 32 → mu1 a = mu a
theorem tf_j274 {m g : Nat} {how t w sv : Int32} {X l1 : Int64} {mu : bs_Mm} (hg : g < 30) : FX12_run_j274_L39 m mu l1 X sv (nI g) w how t = some (.inl (X, w, sv + (if how = 0 then nI 1 else nI 0), nI (g + 1), bs_up (bs_up (bs_up mu (m + 31) (4 * g) (.int how)) (m + 31) (4 * g + 2) (.int w)) (m + 31) (4 * g + 3) (.int t))) := by
  unfold FX12_run_j274_L39
  rw [fn_mul, fn_add, fn_add, fn_in (show 4 * g < 120 by omega) (by decide), fg_gd_t, fn_cl (show 4 * g < 2 ^ 31 by omega), fg_wr_s, fn_in (show 4 * g + 2 < 120 by omega) (by decide), fg_gd_t, fn_cl (show 4 * g + 2 < 2 ^ 31 by omega), fg_wr_s, fn_in (show 4 * g + 3 < 120 by omega) (by decide), fg_gd_t, fn_cl (show 4 * g + 3 < 2 ^ 31 by omega), fg_wr_s, fn_add]
  by_cases z : how = 0
  · rw [if_pos z, if_pos z]
  · rw [if_neg z, if_neg z]
set_option maxHeartbeats 2000000 in
theorem tf_turn {m fc sc n g : Nat} {FG : Nat → bs_G} {Z : rn_Z} {mu mu1 : bs_Mm} {l1 : Int64} (hF : mFG m fc FG mu) (hZ : Z.1 = FG) (hQ : mQU m n Z.2.1 Z.2.2.1 Z.2.2.2.1 mu) (hJ : ∀ i, i < n → Z.2.2.1 i < fc) (hu : bs_iv (mu m 47) = rz_u Z) (hb : bs_iv (mu m 48) = rz_b Z) (h5 : bs_iv (mu m 5) = nI sc) (hsc : sc ≤ 6) (hso : ∀ j, j < fc → ∀ b, b < g_nb (FG j) → g_so (FG j) b < sc) (hCH : ∀ k, k < sc → bs_iv (mu (m + 3) k) = rz_c Z k) (hg : g < n) (hK : rn_K m g sc Z mu mu1) : ∃ mu2, FX12_run_b39 m l1 ((rn_n Z g).2.2.2, (rn_n Z g).1, (rn_n Z g).2.1, nI g, mu1) = some (.inl ((rn_n Z (g + 1)).2.2.2, (rn_n Z (g + 1)).1, (rn_n Z (g + 1)).2.1, nI (g + 1), mu2)) ∧ rn_K m (g + 1) sc Z mu mu2 := by
  have hf := hF.1
  obtain ⟨n30, q1, q2, q3, q4⟩ := hQ
  obtain ⟨h1, h2, h3⟩ := hK
  have hj := hJ g hg
  have hG : g_ok (rz_G Z g) := by unfold rz_G; rw [hZ]; exact (hF.2.2 _ hj).1
  have hV : mFv m (Z.2.2.1 g) (rz_G Z g) mu := by unfold rz_G; rw [hZ]; exact (hF.2.2 _ hj).2
  have hsoG : ∀ b, b < g_nb (rz_G Z g) → g_so (rz_G Z g) b < sc := by unfold rz_G; rw [hZ]; exact hso _ hj
  have e28 : bs_iv (mu1 (m + 28) g) = rz_t Z g := by rw [h3 _ (by omega) (by omega)]; exact q2 g hg
  have e29 : bs_iv (mu1 (m + 29) g) = nI (Z.2.2.1 g) := by rw [h3 _ (by omega) (by omega)]; exact q3 g hg
  have e30 : bs_iv (mu1 (m + 30) g) = rz_p Z g := by rw [h3 _ (by omega) (by omega)]; exact q4 g hg
  have e45 : bs_iv (mu1 m 45) = nI n := by rw [h3 _ (by omega) (by omega)]; exact q1
  have fr : ∀ a, a ≠ m + 31 → a ≠ m + 32 → bs_up mu1 (m + 31) (4 * g + 1) (.int (rn_bg Z g (rn_n Z g))) a = mu a := fun a a1 a2 => (bs_up_f a1).trans (h3 a a1 a2)
  have hM : rn_M m sc (bs_up mu1 (m + 31) (4 * g + 1) (.int (rn_bg Z g (rn_n Z g)))) (bs_up mu1 (m + 31) (4 * g + 1) (.int (rn_bg Z g (rn_n Z g)))) (rn_n Z g).2.2.1 := ⟨fun k hk => by rw [bs_up_f (by omega)]; exact h1 k hk, fun _ _ => rfl⟩
  have hV2 : mFv m (Z.2.2.1 g) (rz_G Z g) (bs_up mu1 (m + 31) (4 * g + 1) (.int (rn_bg Z g (rn_n Z g)))) := mFv_of3 hV (fun c _ _ => fr c (by omega) (by omega))
  have j13 : Z.2.2.1 g < 13 := by omega
  -- the turn, up to its rows
  have key : ∃ mu2, FX12_run_b39 m l1 ((rn_n Z g).2.2.2, (rn_n Z g).1, (rn_n Z g).2.1, nI g, mu1) = FX12_run_j274_L39 m mu2 l1 (rn_ou Z g (rn_n Z g)).2.2.2.2 (rn_n Z g).2.1 (nI g) (rn_ou Z g (rn_n Z g)).2.2.2.1 (rn_ou Z g (rn_n Z g)).1 (rn_ou Z g (rn_n Z g)).2.2.1 ∧ rn_M m sc (bs_up mu1 (m + 31) (4 * g + 1) (.int (rn_bg Z g (rn_n Z g)))) mu2 (rn_ou Z g (rn_n Z g)).2.1 := by
    have ev : FX12_run_b39 m l1 ((rn_n Z g).2.2.2, (rn_n Z g).1, (rn_n Z g).2.1, nI g, mu1) = if rn_bg Z g (rn_n Z g) - rz_t Z g ≤ rz_p Z g then fg_bd (FX12_isThere m (bs_up mu1 (m + 31) (4 * g + 1) (.int (rn_bg Z g (rn_n Z g)))) (nI (Z.2.2.1 g))) (fun v13 => if v13 = 0 then FX12_run_j122_L39 m (bs_up mu1 (m + 31) (4 * g + 1) (.int (rn_bg Z g (rn_n Z g)))) l1 (rn_n Z g).2.2.2 (rn_n Z g).2.1 (nI g) (nI (Z.2.2.1 g)) (rn_bg Z g (rn_n Z g)) (nI 2) else FX12_run_j122_L39 m (bs_up mu1 (m + 31) (4 * g + 1) (.int (rn_bg Z g (rn_n Z g)))) l1 (rn_n Z g).2.2.2 (rn_n Z g).2.1 (nI g) (nI (Z.2.2.1 g)) (rn_bg Z g (rn_n Z g)) (nI 0)) else FX12_run_j122_L39 m (bs_up mu1 (m + 31) (4 * g + 1) (.int (rn_bg Z g (rn_n Z g)))) l1 (rn_n Z g).2.2.2 (rn_n Z g).2.1 (nI g) (nI (Z.2.2.1 g)) (rn_bg Z g (rn_n Z g)) (nI 1) := by
      have i28 : ∀ v, bs_up mu1 (m + 31) (4 * g + 1) v (m + 28) = mu1 (m + 28) := fun v => bs_up_f (by omega)
      have i30 : ∀ v, bs_up mu1 (m + 31) (4 * g + 1) v (m + 30) = mu1 (m + 30) := fun v => bs_up_f (by omega)
      unfold FX12_run_b39
      simp only []
      rw [e45, if_neg (fun h => by have := (nI_leI (by omega) (by omega)).mp h; omega), fn_in (show g < 30 by omega) (by decide), fg_gd_t, fg_gd_t, fn_mul, fn_add, fn_in (show 4 * g + 1 < 120 by omega) (by decide), fg_gd_t, fn_cl (show g < 2 ^ 31 by omega), fn_cl (show 4 * g + 1 < 2 ^ 31 by omega), e28, e29, fg_wr_s, fg_gd_t, fg_gd_t, i28, i30, e28, e30]
      rfl
    have J : ∀ how, FX12_run_j122_L39 m (bs_up mu1 (m + 31) (4 * g + 1) (.int (rn_bg Z g (rn_n Z g)))) l1 (rn_n Z g).2.2.2 (rn_n Z g).2.1 (nI g) (nI (Z.2.2.1 g)) (rn_bg Z g (rn_n Z g)) how = fg_bd (fg_lp (FX12_run_b130_L39 m l1 (rn_n Z g).2.1 (nI g) (nI (Z.2.2.1 g))) fg_fu ((rn_n Z g).2.2.2, rn_bg Z g (rn_n Z g), how, nI 0, nI 0, bs_up mu1 (m + 31) (4 * g + 1) (.int (rn_bg Z g (rn_n Z g))))) (fun t26 => FX12_run_j274_L39 m t26.2.2.2.2 l1 t26.1 (rn_n Z g).2.1 (nI g) t26.2.1 t26.2.2.1 t26.2.2.2.1) := fun how => rfl
    rw [ev]
    unfold rn_ou rn_o
    simp only []
    by_cases cl : rn_bg Z g (rn_n Z g) - rz_t Z g ≤ rz_p Z g
    · rw [if_pos cl, if_pos cl, tf_isTh (SH := (rn_n Z g).2.2.1) hV2 j13 hG (by rw [fr _ (by omega) (by omega)]; exact h5) hsc hsoG hM.1, fg_bd_s]
      by_cases ct : rn_th (rz_G Z g) (rn_n Z g).2.2.1
      · obtain ⟨mu2, n1, n2⟩ := tf_figL (CH := rz_c Z) (t := nI 0) (w := rn_bg Z g (rn_n Z g)) (l6 := (rn_n Z g).2.1) (l7 := nI g) (X := (rn_n Z g).2.2.2) (l1 := l1) j13 hV2 hG hsc hsoG (show bs_iv (bs_up mu1 (m + 31) (4 * g + 1) (.int (rn_bg Z g (rn_n Z g))) m 47) = rz_u Z by rw [fr _ (by omega) (by omega)]; exact hu) (show bs_iv (bs_up mu1 (m + 31) (4 * g + 1) (.int (rn_bg Z g (rn_n Z g))) m 48) = rz_b Z by rw [fr _ (by omega) (by omega)]; exact hb) (fun k hk => by rw [fr _ (by omega) (by omega)]; exact hCH k hk) hM
        rw [if_pos ct, if_pos ct, if_neg (show ¬ nI 1 = 0 by decide), J, n1, fg_bd_s]
        exact ⟨mu2, rfl, n2⟩
      · rw [if_neg ct, if_neg ct, if_pos (show nI 0 = 0 from rfl), J, tf_figS j13 hV2 (by decide), fg_bd_s]
        exact ⟨_, rfl, hM⟩
    · rw [if_neg cl, if_neg cl, J, tf_figS j13 hV2 (by decide), fg_bd_s]
      exact ⟨_, rfl, hM⟩
  obtain ⟨mu2, m1, m2, m3⟩ := key
  refine ⟨_, by rw [m1, tf_j274 (by omega)]; rfl, fun k hk => ?_, fun i hi k hk => ?_, fun a a1 a2 => ?_⟩
  · rw [bs_up_f (by omega), bs_up_f (by omega), bs_up_f (by omega)]
    exact m2 k hk
  · have k4 : k = 0 ∨ k = 1 ∨ k = 2 ∨ k = 3 := by omega
    by_cases e : i = g
    · subst e
      rcases k4 with rfl | rfl | rfl | rfl
      · rw [bs_up_j (by omega), bs_up_j (by omega)]
        show bs_iv (bs_up mu2 (m + 31) (4 * i) _ (m + 31) (4 * i)) = _
        rw [bs_up_eq]
        rfl
      · rw [bs_up_j (by omega), bs_up_j (by omega), bs_up_j (by omega), m3 _ (by omega), bs_up_eq]
        rfl
      · rw [bs_up_j (by omega), bs_up_eq]
        rfl
      · rw [bs_up_eq]
        rfl
    · rw [bs_up_j (by omega), bs_up_j (by omega), bs_up_j (by omega), m3 _ (by omega), bs_up_j (by omega)]
      exact h2 i (by omega) k hk
  · rw [bs_up_f a1, bs_up_f a1, bs_up_f a1, m3 a a2]
    exact fr a a1 a2
set_option maxHeartbeats 1000000 in
theorem tf_run {m fc sc n : Nat} {FG : Nat → bs_G} {Z : rn_Z} {mu : bs_Mm} (hF : mFG m fc FG mu) (hZ : Z.1 = FG) (hQ : mQU m n Z.2.1 Z.2.2.1 Z.2.2.2.1 mu) (hJ : ∀ i, i < n → Z.2.2.1 i < fc) (hS : mSK m (rz_s Z) (rz_u Z) (rz_b Z) mu) (h5 : bs_iv (mu m 5) = nI sc) (hsc : sc ≤ 6) (hso : ∀ j, j < fc → ∀ b, b < g_nb (FG j) → g_so (FG j) b < sc) (hCH : ∀ k, k < sc → bs_iv (mu (m + 3) k) = rz_c Z k) : ∃ mu', FX12_run m mu (rz_x Z) = some ((rn_n Z n).2.1, mu') ∧ mGU m n (rn_V Z) mu' ∧ (∀ j, j ≠ 46 → mu' m j = mu m j) ∧ ∀ a, a ≠ m → a ≠ m + 31 → a ≠ m + 32 → mu' a = mu a := by
  obtain ⟨n30, q1, q2, q3, q4⟩ := id hQ
  obtain ⟨s1, s2, s3⟩ := hS
  have key : ∃ mu1, fg_lp (FX12_run_b2 m (rz_x Z)) fg_fu (nI 0, mu) = some mu1 ∧ rn_K m 0 sc Z mu mu1 := by
    refine Exists.elim (fg_lp_i (body := FX12_run_b2 m (rz_x Z)) (fun r st => ∃ k, st.1 = nI k ∧ k + r = sc ∧ (∀ j, j < k → bs_iv (st.2 (m + 32) j) = nI (rz_s Z j)) ∧ ∀ a, a ≠ m + 32 → st.2 a = mu a) (fun t => (∀ j, j < sc → bs_iv (t (m + 32) j) = nI (rz_s Z j)) ∧ ∀ a, a ≠ m + 32 → t a = mu a) (fun r st hI => ?_) fg_fu sc (nI 0, mu) ⟨0, rfl, by omega, fun j hj => by omega, fun _ _ => rfl⟩ (fg_fu_lt (by omega))) (fun t ht => ?_)
    · obtain ⟨kv, mu1⟩ := st
      obtain ⟨k, e, hr, hh, hf⟩ := hI
      have e : kv = nI k := e
      subst e
      have hh : ∀ j, j < k → bs_iv (mu1 (m + 32) j) = nI (rz_s Z j) := hh
      have hf : ∀ a, a ≠ m + 32 → mu1 a = mu a := hf
      have e5 : bs_iv (mu1 m 5) = nI sc := by rw [hf _ (by omega)]; exact h5
      by_cases z : sc ≤ k
      · refine Or.inr ⟨mu1, ?_, fun j hj => hh j (by omega), hf⟩
        unfold FX12_run_b2
        simp (disch := omega) only [fg_gd_t, fg_bd_s, fg_b2_s, fg_wr_s, fg_let_s, fn_add, fn_sub, fn_mul, fn_cl, fn_lt, fn_le, fn_eq, fn_eq0, fn_lt0, fn_0le, fn_0lt, fn_le0, fn_in, fn_shl, fn_shr, fa_and, fa_or, bs_xorI, if_true, if_false, e5, if_pos z]
      · have r1 : bs_iv (mu1 (m + 4) k) = nI (rz_s Z k) := by rw [hf _ (by omega)]; exact (s1 k (by omega)).1
        refine Or.inl ⟨(nI (k + 1), bs_up mu1 (m + 32) k (.int (nI (rz_s Z k)))), r - 1, ?_, by omega, k + 1, rfl, by omega, fun j hj => ?_, fun a ha => (bs_up_f ha).trans (hf a ha)⟩
        · unfold FX12_run_b2
          simp (disch := omega) only [fg_gd_t, fg_bd_s, fg_b2_s, fg_wr_s, fg_let_s, fn_add, fn_sub, fn_mul, fn_cl, fn_lt, fn_le, fn_eq, fn_eq0, fn_lt0, fn_0le, fn_0lt, fn_le0, fn_in, fn_shl, fn_shr, fa_and, fa_or, bs_xorI, if_true, if_false, e5, if_neg z, r1]
        · show bs_iv (bs_up mu1 (m + 32) k (.int (nI (rz_s Z k))) (m + 32) j) = _
          by_cases e : j = k
          · subst e
            rw [bs_up_eq]
            rfl
          · rw [bs_up_j e]
            exact hh j (by omega)
    · exact ⟨t, ht.1, fun k hk => ⟨ht.2.1 k hk, (s1 k (by omega)).2⟩, fun i hi => by omega, fun a _ a2 => ht.2.2 a a2⟩
  obtain ⟨mu1, m1, m2⟩ := key
  unfold FX12_run
  rw [m1, fg_bd_s]
  refine Exists.elim (fg_lp_i (body := FX12_run_b39 m (rz_x Z)) (fun r st => ∃ g, st.1 = (rn_n Z g).2.2.2 ∧ st.2.1 = (rn_n Z g).1 ∧ st.2.2.1 = (rn_n Z g).2.1 ∧ st.2.2.2.1 = nI g ∧ g + r = n ∧ rn_K m g sc Z mu st.2.2.2.2) (fun t => t.1 = (rn_n Z n).2.1 ∧ rn_K m n sc Z mu t.2) (fun r st hI => ?_) fg_fu n (rz_x Z, nI 0, nI 0, nI 0, mu1) ⟨0, rfl, rfl, rfl, rfl, by omega, m2⟩ (fg_fu_lt (by omega))) (fun t ht => ?_)
  · obtain ⟨xv, fv, sv, gv, mu2⟩ := st
    obtain ⟨g, e0, e1, e2, e3, hr, hH⟩ := hI
    have e0 : xv = (rn_n Z g).2.2.2 := e0
    have e1 : fv = (rn_n Z g).1 := e1
    have e2 : sv = (rn_n Z g).2.1 := e2
    have e3 : gv = nI g := e3
    subst e0
    subst e1
    subst e2
    subst e3
    have hH : rn_K m g sc Z mu mu2 := hH
    by_cases z : n ≤ g
    · have e : g = n := by omega
      subst e
      have e45 : bs_iv (mu2 m 45) = nI g := by rw [hH.2.2 _ (by omega) (by omega)]; exact q1
      refine Or.inr ⟨((rn_n Z g).2.1, mu2), ?_, rfl, hH⟩
      unfold FX12_run_b39
      simp only []
      rw [e45, if_pos (Int32.le_refl _)]
    · obtain ⟨mu3, n1, n2⟩ := tf_turn (l1 := rz_x Z) hF hZ hQ hJ s2 s3 h5 hsc hso hCH (show g < n by omega) hH
      exact Or.inl ⟨_, r - 1, n1, by omega, g + 1, rfl, rfl, rfl, rfl, by omega, n2⟩
  · obtain ⟨sv, mu2⟩ := t
    obtain ⟨t1, t2, hK⟩ := ht
    have hK : rn_K m n sc Z mu mu2 := hK
    obtain ⟨h1, h2, h3⟩ := hK
    have t2 : sv = (rn_n Z n).2.1 := t2
    subst t2
    refine ⟨bs_up mu2 m 46 (.int (nI n)), ?_, ⟨n30, by rw [bs_up_eq]; rfl, fun i hi k hk => by rw [bs_up_f (by omega)]; exact h2 i hi k hk⟩, fun j a => by rw [bs_up_j a, h3 _ (by omega) (by omega)], fun a a0 a1 a2 => by rw [bs_up_f a0]; exact h3 a a1 a2⟩
    rw [t1, fg_bd_s]
    simp only []
    have e45 : bs_iv (mu2 m 45) = nI n := by rw [h3 _ (by omega) (by omega)]; exact q1
    rw [fg_wr_s, e45]
