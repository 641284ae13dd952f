/-! RUN: the class's call -/
/-- what g turns leave in the class -/
def rn_H (x g : Nat) (Z : rn_Z) (mu mu1 : bs_Mm) : Prop := (∀ k, k < 6 → bs_iv (mu1 (x + 59) k) = nI ((rn_n Z g).2.2.1 k) ∧ (rn_n Z g).2.2.1 k ≤ 99) ∧ bs_lv (mu1 (x + 50) 14) = (rn_n Z g).2.2.2 ∧ (∀ i, i < g → ∀ k, k < 4 → bs_iv (mu1 (x + 52 + k) i) = rn_V Z i k) ∧ (∀ j, j ≠ 14 → mu1 (x + 50) j = mu (x + 50) j) ∧ ∀ a, a ≠ x + 50 → a ≠ x + 52 → a ≠ x + 53 → a ≠ x + 54 → a ≠ x + 55 → a ≠ x + 59 → a ≠ x + 60 → mu1 a = mu a
set_option maxHeartbeats 2000000 in
theorem sf_turn {x fc n g : Nat} {FG : Nat → bs_G} {Z : rn_Z} {mu mu1 : bs_Mm} {l3 : Int64} (hF : cFG x fc FG mu) (hZ : Z.1 = FG) (hQ : cQU x n Z.2.1 Z.2.2.1 Z.2.2.2.1 mu) (hJ : ∀ i, i < n → Z.2.2.1 i < fc) (hu : bs_iv (mu (x + 50) 1) = rz_u Z) (hb : bs_iv (mu (x + 50) 2) = rz_b Z) (hCH : ∀ j, j < fc → ∀ b, b < g_nb (FG j) → bs_iv (mu (x + 4) (g_so (FG j) b)) = rz_c Z (g_so (FG j) b)) (hg : g < n) (hH : rn_H x g Z mu mu1) : ∃ mu2, FX9_serveAll_b29 x l3 ((rn_n Z g).1, (rn_n Z g).2.1, nI g, mu1) = some (.inl ((rn_n Z (g + 1)).1, (rn_n Z (g + 1)).2.1, nI (g + 1), mu2)) ∧ rn_H x (g + 1) Z mu mu2 := by
  have hf := hF.1
  obtain ⟨n30, q1, q2, q3, q4⟩ := hQ
  obtain ⟨h1, h2, h3, h4, h5⟩ := hH
  have hj := hJ g hg
  have hG : g_ok (rz_G Z g) := by unfold rz_G; rw [hZ]; exact (hF.2.2 _ hj).1
  have hV : cFv (x + 63 + 7 * Z.2.2.1 g) (rz_G Z g) mu := by unfold rz_G; rw [hZ]; exact (hF.2.2 _ hj).2
  have e56 : bs_iv (mu1 (x + 56) g) = rz_t Z g := by rw [h5 _ (by omega) (by omega) (by omega) (by omega) (by omega) (by omega) (by omega)]; exact q2 g hg
  have e57 : bs_iv (mu1 (x + 57) g) = nI (Z.2.2.1 g) := by rw [h5 _ (by omega) (by omega) (by omega) (by omega) (by omega) (by omega) (by omega)]; exact q3 g hg
  have e58 : bs_iv (mu1 (x + 58) g) = rz_p Z g := by rw [h5 _ (by omega) (by omega) (by omega) (by omega) (by omega) (by omega) (by omega)]; exact q4 g hg
  have e50 : bs_iv (mu1 (x + 50) 3) = nI n := by rw [h4 3 (by decide)]; exact q1
  have fr : ∀ a, a ≠ x + 50 → a ≠ x + 52 → a ≠ x + 53 → a ≠ x + 54 → a ≠ x + 55 → a ≠ x + 59 → a ≠ x + 60 → bs_up (bs_up (bs_up mu1 (x + 53) g (.int (rn_bg Z g (rn_n Z g)))) (x + 54) g (.int (rn_bg Z g (rn_n Z g)))) (x + 55) g (.int (nI 0)) a = mu a := fun a a1 a2 a3 a4 a5 a6 a7 => by rw [bs_up_f a5, bs_up_f a4, bs_up_f a3]; exact h5 a a1 a2 a3 a4 a5 a6 a7
  have f50 : bs_up (bs_up (bs_up mu1 (x + 53) g (.int (rn_bg Z g (rn_n Z g)))) (x + 54) g (.int (rn_bg Z g (rn_n Z g)))) (x + 55) g (.int (nI 0)) (x + 50) = mu1 (x + 50) := by rw [bs_up_f (by omega), bs_up_f (by omega), bs_up_f (by omega)]
  have f59 : bs_up (bs_up (bs_up mu1 (x + 53) g (.int (rn_bg Z g (rn_n Z g)))) (x + 54) g (.int (rn_bg Z g (rn_n Z g)))) (x + 55) g (.int (nI 0)) (x + 59) = mu1 (x + 59) := by rw [bs_up_f (by omega), bs_up_f (by omega), bs_up_f (by omega)]
  have f52 : bs_up (bs_up (bs_up mu1 (x + 53) g (.int (rn_bg Z g (rn_n Z g)))) (x + 54) g (.int (rn_bg Z g (rn_n Z g)))) (x + 55) g (.int (nI 0)) (x + 52) = mu1 (x + 52) := by rw [bs_up_f (by omega), bs_up_f (by omega), bs_up_f (by omega)]
  have v53 : bs_up (bs_up (bs_up mu1 (x + 53) g (.int (rn_bg Z g (rn_n Z g)))) (x + 54) g (.int (rn_bg Z g (rn_n Z g)))) (x + 55) g (.int (nI 0)) (x + 53) = bs_up mu1 (x + 53) g (.int (rn_bg Z g (rn_n Z g))) (x + 53) := by rw [bs_up_f (by omega), bs_up_f (by omega)]
  have v54 : bs_up (bs_up (bs_up mu1 (x + 53) g (.int (rn_bg Z g (rn_n Z g)))) (x + 54) g (.int (rn_bg Z g (rn_n Z g)))) (x + 55) g (.int (nI 0)) (x + 54) = bs_up (bs_up mu1 (x + 53) g (.int (rn_bg Z g (rn_n Z g)))) (x + 54) g (.int (rn_bg Z g (rn_n Z g))) (x + 54) := by rw [bs_up_f (by omega)]
  have w53 : ∀ j, j ≠ g → bs_up (bs_up (bs_up mu1 (x + 53) g (.int (rn_bg Z g (rn_n Z g)))) (x + 54) g (.int (rn_bg Z g (rn_n Z g)))) (x + 55) g (.int (nI 0)) (x + 53) j = mu1 (x + 53) j := fun j hj => by rw [v53, bs_up_j hj]
  have w54 : ∀ j, j ≠ g → bs_up (bs_up (bs_up mu1 (x + 53) g (.int (rn_bg Z g (rn_n Z g)))) (x + 54) g (.int (rn_bg Z g (rn_n Z g)))) (x + 55) g (.int (nI 0)) (x + 54) j = mu1 (x + 54) j := fun j hj => by rw [v54, bs_up_j hj, bs_up_f (by omega)]
  have w55 : ∀ j, j ≠ g → bs_up (bs_up (bs_up mu1 (x + 53) g (.int (rn_bg Z g (rn_n Z g)))) (x + 54) g (.int (rn_bg Z g (rn_n Z g)))) (x + 55) g (.int (nI 0)) (x + 55) j = mu1 (x + 55) j := fun j hj => by rw [bs_up_j hj, bs_up_f (by omega), bs_up_f (by omega)]
  have ev : FX9_serveAll_b29 x l3 ((rn_n Z g).1, (rn_n Z g).2.1, nI g, mu1) = fg_b2 (FX9_outcomeFor x (bs_up (bs_up (bs_up mu1 (x + 53) g (.int (rn_bg Z g (rn_n Z g)))) (x + 54) g (.int (rn_bg Z g (rn_n Z g)))) (x + 55) g (.int (nI 0))) (nI g) (x + 63 + 7 * Z.2.2.1 g)) (fun v mu15 => if v = 0 then some (.inl (bs_iv (bs_up mu15 (x + 52) g (.int v) (x + 54) g), (rn_n Z g).2.1 + nI 1, nI (g + 1), bs_up mu15 (x + 52) g (.int v))) else some (.inl (bs_iv (bs_up mu15 (x + 52) g (.int v) (x + 54) g), (rn_n Z g).2.1 + nI 0, nI (g + 1), bs_up mu15 (x + 52) g (.int v)))) := by
    have i57 : bs_up (bs_up (bs_up mu1 (x + 53) g (.int (rn_bg Z g (rn_n Z g)))) (x + 54) g (.int (rn_bg Z g (rn_n Z g)))) (x + 55) g (.int (nI 0)) (x + 57) = mu1 (x + 57) := by rw [bs_up_f (by omega), bs_up_f (by omega), bs_up_f (by omega)]
    unfold FX9_serveAll_b29
    simp only []
    rw [e50, if_neg (fun h => by have := (nI_leI (by omega) (by omega)).mp h; omega), fn_in (show g < 30 by omega) (by decide), fg_gd_t, fg_gd_t, fg_wr_s, fg_gd_t, fg_gd_t, fg_wr_s, fg_gd_t, fg_wr_s, fg_gd_t, fn_cl (show g < 2 ^ 31 by omega), e56, bs_up_eq, bs_iv_i]
    have eb : (if (rn_n Z g).1 < rz_t Z g then rz_t Z g else (rn_n Z g).1) = rn_bg Z g (rn_n Z g) := rfl
    rw [eb, i57, e57, fn_in (show Z.2.2.1 g < 12 by omega) (by decide), fg_gd_t, fg_let_s, fn_cl (show Z.2.2.1 g < 2 ^ 31 by omega)]
    have ee : ∀ v mu15, (fg_gd true (fg_wr mu15 (x + 52) g (.int v) fun mu18 => fg_gd true (fg_gd true (if bs_iv (mu18 (x + 52) g) = 0 then some (Sum.inl (bs_iv (mu18 (x + 54) g), (rn_n Z g).2.1 + nI 1, nI g + nI 1, mu18)) else some (Sum.inl (bs_iv (mu18 (x + 54) g), (rn_n Z g).2.1 + nI 0, nI g + nI 1, mu18)))) : Option ((Int32 × Int32 × Int32 × bs_Mm) ⊕ (Int32 × bs_Mm)))) = if v = 0 then some (.inl (bs_iv (bs_up mu15 (x + 52) g (.int v) (x + 54) g), (rn_n Z g).2.1 + nI 1, nI (g + 1), bs_up mu15 (x + 52) g (.int v))) else some (.inl (bs_iv (bs_up mu15 (x + 52) g (.int v) (x + 54) g), (rn_n Z g).2.1 + nI 0, nI (g + 1), bs_up mu15 (x + 52) g (.int v))) := by
      intro v mu15
      rw [fg_gd_t, fg_wr_s, fg_gd_t, fg_gd_t, bs_up_eq, bs_iv_i, fn_add]
    congr 1
    funext v mu15
    exact ee v mu15
  have hC : rn_C x g (bs_up (bs_up (bs_up mu1 (x + 53) g (.int (rn_bg Z g (rn_n Z g)))) (x + 54) g (.int (rn_bg Z g (rn_n Z g)))) (x + 55) g (.int (nI 0))) (bs_up (bs_up (bs_up mu1 (x + 53) g (.int (rn_bg Z g (rn_n Z g)))) (x + 54) g (.int (rn_bg Z g (rn_n Z g)))) (x + 55) g (.int (nI 0))) ((rn_n Z g).2.2.1, nI 0, rn_bg Z g (rn_n Z g), (rn_n Z g).2.2.2) := by
    refine ⟨fun k hk => by rw [f59]; exact h1 k hk, by rw [bs_up_eq]; rfl, by rw [v54, bs_up_eq]; rfl, by rw [f50]; exact h2, fun _ _ => rfl, fun _ _ => rfl, fun _ _ => rfl, fun _ _ _ _ _ _ => rfl⟩
  obtain ⟨mu2, m1, m2⟩ := sf_outc (x := x) (f := x + 63 + 7 * Z.2.2.1 g) (g := g) (G := rz_G Z g) (pu := rz_u Z) (pb := rz_b Z) (c := rz_t Z g) (p := rz_p Z g) (CH := rz_c Z) (s := ((rn_n Z g).2.2.1, nI 0, rn_bg Z g (rn_n Z g), (rn_n Z g).2.2.2)) (mu0 := mu) (by omega) (by omega) (cFv_of hV (fun k _ => fr _ (by omega) (by omega) (by omega) (by omega) (by omega) (by omega) (by omega))) hG (by rw [v53, bs_up_eq]; rfl) (by rw [bs_up_f (by omega), bs_up_f (by omega), bs_up_f (by omega)]; exact e56) (by rw [bs_up_f (by omega), bs_up_f (by omega), bs_up_f (by omega)]; exact e58) (by rw [f50, h4 1 (by decide)]; exact hu) (by rw [f50, h4 2 (by decide)]; exact hb) (fun b hb => by
      rw [fr _ (by omega) (by omega) (by omega) (by omega) (by omega) (by omega) (by omega)]
      revert hb
      unfold rz_G
      rw [hZ]
      exact hCH _ hj b) hC
  obtain ⟨c1, c2, c3, c4, c5, c6, c7, c8⟩ := m2
  have ou : rn_o (rz_G Z g) (rz_u Z) (rz_b Z) (rz_c Z) (rz_t Z g) (rz_p Z g) ((rn_n Z g).2.2.1, nI 0, rn_bg Z g (rn_n Z g), (rn_n Z g).2.2.2) = rn_ou Z g (rn_n Z g) := rfl
  rw [ou] at m1 c1 c2 c3 c4
  have i54 : ∀ v, bs_up mu2 (x + 52) g v (x + 54) = mu2 (x + 54) := fun v => bs_up_f (by omega)
  refine ⟨bs_up mu2 (x + 52) g (.int (rn_ou Z g (rn_n Z g)).1), ?_, fun k hk => by rw [bs_up_f (by omega)]; exact c1 k hk, by rw [bs_up_f (by omega)]; exact c4, fun i hi k hk => ?_, fun j hj => by rw [bs_up_f (by omega), c7 j hj, f50]; exact h4 j hj, fun a a1 a2 a3 a4 a5 a6 a7 => by rw [bs_up_f a2, c8 a a1 a4 a5 a6 a7]; exact fr a a1 a2 a3 a4 a5 a6 a7⟩
  · rw [ev, m1, fg_b2_s, i54, c3]
    show _ = some (Sum.inl ((rn_ou Z g (rn_n Z g)).2.2.2.1, (rn_n Z g).2.1 + (if (rn_ou Z g (rn_n Z g)).1 = 0 then nI 1 else nI 0), nI (g + 1), _))
    by_cases y : (rn_ou Z g (rn_n Z g)).1 = 0
    · rw [if_pos y, if_pos y]
    · rw [if_neg y, if_neg y]
  · have k4 : k = 0 ∨ k = 1 ∨ k = 2 ∨ k = 3 := by omega
    by_cases e : i = g
    · subst e
      rcases k4 with rfl | rfl | rfl | rfl
      · show bs_iv (bs_up mu2 (x + 52) i _ (x + 52) i) = _
        rw [bs_up_eq]
        rfl
      · show bs_iv (bs_up mu2 (x + 52) i _ (x + 53) i) = _
        rw [bs_up_f (by omega), c8 _ (by omega) (by omega) (by omega) (by omega) (by omega), v53, bs_up_eq]
        rfl
      · show bs_iv (bs_up mu2 (x + 52) i _ (x + 54) i) = _
        rw [i54, c3]
        rfl
      · show bs_iv (bs_up mu2 (x + 52) i _ (x + 55) i) = _
        rw [bs_up_f (by omega), c2]
        rfl
    · have hh := h3 i (by omega) k hk
      rcases k4 with rfl | rfl | rfl | rfl
      · show bs_iv (bs_up mu2 (x + 52) g _ (x + 52) i) = _
        rw [bs_up_j e, c8 _ (by omega) (by omega) (by omega) (by omega) (by omega), f52]
        exact hh
      · show bs_iv (bs_up mu2 (x + 52) g _ (x + 53) i) = _
        rw [bs_up_f (by omega), c8 _ (by omega) (by omega) (by omega) (by omega) (by omega), w53 i e]
        exact hh
      · show bs_iv (bs_up mu2 (x + 52) g _ (x + 54) i) = _
        rw [i54, c6 i e, w54 i e]
        exact hh
      · show bs_iv (bs_up mu2 (x + 52) g _ (x + 55) i) = _
        rw [bs_up_f (by omega), c5 i e, w55 i e]
        exact hh
set_option maxHeartbeats 1000000 in
theorem sf_run {x fc n : Nat} {FG : Nat → bs_G} {Z : rn_Z} {mu : bs_Mm} (hF : cFG x fc FG mu) (hZ : Z.1 = FG) (hQ : cQU x n Z.2.1 Z.2.2.1 Z.2.2.2.1 mu) (hJ : ∀ i, i < n → Z.2.2.1 i < fc) (hS : cSK x (rz_s Z) (rz_u Z) (rz_b Z) mu) (hCH : ∀ j, j < fc → ∀ b, b < g_nb (FG j) → bs_iv (mu (x + 4) (g_so (FG j) b)) = rz_c Z (g_so (FG j) b)) : ∃ mu', FX11_run x mu (rz_x Z) = some ((rn_n Z n).2.1, mu') ∧ cGU x n (rn_V Z) mu' ∧ (∀ j, j ≠ 4 → j ≠ 14 → mu' (x + 50) j = mu (x + 50) j) ∧ ∀ a, a ≠ x + 50 → a ≠ x + 52 → a ≠ x + 53 → a ≠ x + 54 → a ≠ x + 55 → a ≠ x + 59 → a ≠ x + 60 → mu' a = mu a := by
  obtain ⟨n30, q1, q2, q3, q4⟩ := id hQ
  obtain ⟨s1, s2, s3⟩ := hS
  have H0 : rn_H x 0 Z mu (bs_up (bs_cp mu (x + 51) (x + 59) 0 0 6) (x + 50) 14 (.long (rz_x Z))) := by
    have cp : ∀ a, a ≠ x + 59 → bs_cp mu (x + 51) (x + 59) 0 0 6 a = mu a := fun a ha => by funext j; simp [bs_cp, ha]
    refine ⟨fun k hk => ?_, by rw [bs_up_eq]; rfl, fun i hi => by omega, fun j hj => by rw [bs_up_j hj, cp _ (by omega)], fun a a1 a2 a3 a4 a5 a6 a7 => by rw [bs_up_f a1, cp a a6]⟩
    rw [bs_up_f (by omega)]
    have : bs_iv (bs_cp mu (x + 51) (x + 59) 0 0 6 (x + 59) k) = bs_iv (mu (x + 51) k) := by simp [bs_cp, hk, bs_iv]
    rw [this]
    exact s1 k hk
  unfold FX11_run FX9_serveAll
  rw [fg_wc_s, fg_wr_s]
  refine Exists.elim (fg_lp_i (body := FX9_serveAll_b29 x (rz_x Z)) (fun r st => ∃ g, st.1 = (rn_n Z g).1 ∧ st.2.1 = (rn_n Z g).2.1 ∧ st.2.2.1 = nI g ∧ g + r = n ∧ rn_H x g Z mu st.2.2.2) (fun t => t.1 = (rn_n Z n).2.1 ∧ rn_H x n Z mu t.2) (fun r st hI => ?_) fg_fu n (nI 0, nI 0, nI 0, bs_up (bs_cp mu (x + 51) (x + 59) 0 0 6) (x + 50) 14 (.long (rz_x Z))) ⟨0, rfl, rfl, rfl, by omega, H0⟩ (fg_fu_lt (by omega))) (fun t ht => ?_)
  · obtain ⟨fv, sv, gv, mu1⟩ := st
    obtain ⟨g, e1, e2, e3, hr, hH⟩ := hI
    have e1 : fv = (rn_n Z g).1 := e1
    have e2 : sv = (rn_n Z g).2.1 := e2
    have e3 : gv = nI g := e3
    subst e1
    subst e2
    subst e3
    have hH : rn_H x g Z mu mu1 := hH
    by_cases z : n ≤ g
    · have e : g = n := by omega
      subst e
      have e50 : bs_iv (mu1 (x + 50) 3) = nI g := by rw [hH.2.2.2.1 3 (by decide)]; exact q1
      refine Or.inr ⟨((rn_n Z g).2.1, mu1), ?_, rfl, hH⟩
      unfold FX9_serveAll_b29
      simp only []
      rw [e50, if_pos (Int32.le_refl _)]
    · obtain ⟨mu2, m1, m2⟩ := sf_turn (l3 := rz_x Z) hF hZ hQ hJ s2 s3 hCH (show g < n by omega) hH
      exact Or.inl ⟨_, r - 1, m1, by omega, g + 1, rfl, rfl, rfl, by omega, m2⟩
  · obtain ⟨sv, mu1⟩ := t
    obtain ⟨t1, t2, hH⟩ := ht
    have hH : rn_H x n Z mu mu1 := hH
    obtain ⟨h1, h2, h3, h4, h5⟩ := hH
    have t2 : sv = (rn_n Z n).2.1 := t2
    subst t2
    refine ⟨bs_up mu1 (x + 50) 4 (.int (nI n)), ?_, ⟨n30, by rw [bs_up_eq]; rfl, fun i hi k hk => by rw [bs_up_f (by omega)]; exact h3 i hi k hk⟩, fun j a b => by rw [bs_up_j a]; exact h4 j b, fun a a1 a2 a3 a4 a5 a6 a7 => by rw [bs_up_f a1]; exact h5 a a1 a2 a3 a4 a5 a6 a7⟩
    rw [t1, fg_bd_s]
    simp only []
    have e50 : bs_iv (mu1 (x + 50) 3) = nI n := by rw [h4 3 (by decide)]; exact q1
    rw [fg_wr_s, e50]
    rfl
