/-! SET: one after another -/
def g_sq (W : Nat → Prop) (L : Nat) : Nat → Nat → Prop
  | 0, R => R = L
  | i + 1, R => ∃ Q b v T, g_sq W L i Q ∧ g_lw Q b ∧ g_e2 W Q (v + 1) ∧ g_pick W b Q v T ∧ R = Q ^^^ T
/-- the i-th of the sets -/
def g_set (W : Nat → Prop) (L i T : Nat) : Prop := ∃ Q b v, g_sq W L i Q ∧ g_lw Q b ∧ g_e2 W Q (v + 1) ∧ g_pick W b Q v T
theorem g_sq_u {W : Nat → Prop} {L : Nat} : ∀ i R Q, g_sq W L i R → g_sq W L i Q → R = Q := by
  intro i
  induction i with
  | zero => intro R Q h1 h2; exact Eq.trans h1 (Eq.symm h2)
  | succ i ih =>
    rintro R Q ⟨A, b, v, T, a1, a2, a3, a4, a5⟩ ⟨A', b', v', T', c1, c2, c3, c4, c5⟩
    have e := ih _ _ a1 c1
    subst e
    have e := g_low_u a2.1 a2.2 c2.1 c2.2
    subst e
    have e := g_e2_u a3 c3
    have e : v = v' := by omega
    subst e
    have e := g_pick_u a4 c4
    subst e
    rw [a5, c5]
theorem g_set_u {W : Nat → Prop} {L i T U : Nat} (h : g_set W L i T) (h2 : g_set W L i U) : T = U := by
  obtain ⟨A, b, v, a1, a2, a3, a4⟩ := h
  obtain ⟨A', b', v', c1, c2, c3, c4⟩ := h2
  have e := g_sq_u i _ _ a1 c1
  subst e
  have e := g_low_u a2.1 a2.2 c2.1 c2.2
  subst e
  have e := g_e2_u a3 c3
  have e : v = v' := by omega
  subst e
  exact g_pick_u a4 c4
theorem g_lw_ex {R : Nat} (h : R ≠ 0) : ∃ b, g_lw R b := by
  obtain ⟨k, hk⟩ := g_nz h
  obtain ⟨m, m1, m2⟩ := g_least (P := fun i => R.testBit i = true) k hk
  refine ⟨m, m1, fun j hj => ?_⟩
  cases e : R.testBit j with
  | false => rfl
  | true => exact absurd e (m2 j hj)
theorem g_e2_0 {W : Nat → Prop} {R : Nat} (h : g_e2 W R 0) : R = 0 := h.1
theorem g_e2_z {W : Nat → Prop} {v : Nat} (h : g_e2 W 0 v) : v = 0 := g_e2_u h ⟨rfl, fun j hj => by omega⟩
/-- from L, fewest n: after i of them, n - i are needed -/
theorem g_sq_ex {W : Nat → Prop} {L n : Nat} (h : g_e2 W L n) : ∀ i, i ≤ n → ∃ R, g_sq W L i R ∧ g_e2 W R (n - i) ∧ g_sub R L := by
  intro i
  induction i with
  | zero => intro _; exact ⟨L, rfl, h, g_sub_rfl L⟩
  | succ i ih =>
    intro hi
    obtain ⟨R, r1, r2, r3⟩ := ih (by omega)
    have nz : R ≠ 0 := by
      intro e
      subst e
      have := g_e2_z r2
      omega
    obtain ⟨b, hb⟩ := g_lw_ex nz
    have e2 : g_e2 W R ((n - (i + 1)) + 1) := by rw [show n - (i + 1) + 1 = n - i by omega]; exact r2
    obtain ⟨T, hT⟩ := g_pick_ex hb e2
    exact ⟨R ^^^ T, ⟨R, b, _, T, r1, hb, e2, hT, rfl⟩, hT.1.2.2.2, g_sub_tr (g_dif_s hT.1.2.1) r3⟩
theorem g_set_ex {W : Nat → Prop} {L n i : Nat} (h : g_e2 W L n) (hi : i < n) : ∃ T R, g_set W L i T ∧ g_sq W L i R ∧ g_sub R L ∧ g_sq W L (i + 1) (R ^^^ T) ∧ g_sub T R := by
  obtain ⟨R, r1, r2, r3⟩ := g_sq_ex h i (by omega)
  have nz : R ≠ 0 := by
    intro e
    subst e
    have := g_e2_z r2
    omega
  obtain ⟨b, hb⟩ := g_lw_ex nz
  have e2 : g_e2 W R ((n - (i + 1)) + 1) := by rw [show n - (i + 1) + 1 = n - i by omega]; exact r2
  obtain ⟨T, hT⟩ := g_pick_ex hb e2
  exact ⟨T, R, ⟨R, b, _, r1, hb, e2, hT⟩, r1, r3, ⟨R, b, _, T, r1, hb, e2, hT, rfl⟩, hT.1.2.1⟩
/-- the class keeps them -/
theorem sf_keep {x L n p : Nat} {W : Nat → Prop} {mu : bs_Mm} (hL : L < 1024) (hp : p < 72) (hn : g_e2 W L n) (hn2 : n ≤ 10) (hA : ∀ R, R ≤ L → ∃ w, bs_iv (mu (x + 40) R) = nI w ∧ g_fw W 99 R w) (hB : ∀ T, T ≤ L → T ≠ 0 → (bs_iv (mu (x + 42) T) = nI 1 ∧ W T) ∨ (bs_iv (mu (x + 42) T) = nI 0 ∧ ¬ W T)) : ∃ mu', FX3_keepSets x mu (nI L) (nI p) = some (nI n, mu') ∧ (∀ a, a ≠ x + 44 → mu' a = mu a) ∧ (∀ j, (j < 10 * p ∨ 10 * p + 10 ≤ j) → mu' (x + 44) j = mu (x + 44) j) ∧ ∀ i, i < n → ∃ T, bs_iv (mu' (x + 44) (10 * p + i)) = nI T ∧ g_set W L i T := by
  unfold FX3_keepSets
  refine Exists.elim (fg_lp_i (body := FX3_keepSets_b5 x (nI L) (nI p)) (fun r s => ∃ i R, s.1 = nI R ∧ s.2.1 = nI i ∧ i + r = n ∧ g_sq W L i R ∧ g_e2 W R (n - i) ∧ g_sub R L ∧ (∀ a, a ≠ x + 44 → s.2.2 a = mu a) ∧ (∀ j, (j < 10 * p ∨ 10 * p + 10 ≤ j) → s.2.2 (x + 44) j = mu (x + 44) j) ∧ ∀ k, k < i → ∃ T, bs_iv (s.2.2 (x + 44) (10 * p + k)) = nI T ∧ g_set W L k T) (fun t => t.1 = nI n ∧ (∀ a, a ≠ x + 44 → t.2 a = mu a) ∧ (∀ j, (j < 10 * p ∨ 10 * p + 10 ≤ j) → t.2 (x + 44) j = mu (x + 44) j) ∧ ∀ i, i < n → ∃ T, bs_iv (t.2 (x + 44) (10 * p + i)) = nI T ∧ g_set W L i T) (fun r s hI => ?_) fg_fu n (nI L, nI 0, mu) ⟨0, L, rfl, rfl, by omega, rfl, hn, g_sub_rfl L, fun _ _ => rfl, fun _ _ => rfl, fun k hk => by omega⟩ (fg_fu_lt (by omega))) (fun t ht => ?_)
  · obtain ⟨rv, iv, mu1⟩ := s
    obtain ⟨i, R, e1, e2, hr, s1, s2, s3, f1, f2, f3⟩ := hI
    have e1 : rv = nI R := e1
    have e2 : iv = nI i := e2
    subst e1
    subst e2
    have f1 : ∀ a, a ≠ x + 44 → mu1 a = mu a := f1
    have f2 : ∀ j, (j < 10 * p ∨ 10 * p + 10 ≤ j) → mu1 (x + 44) j = mu (x + 44) j := f2
    have f3 : ∀ k, k < i → ∃ T, bs_iv (mu1 (x + 44) (10 * p + k)) = nI T ∧ g_set W L k T := f3
    have rl : R ≤ L := Nat.le_of_testBit s3
    by_cases z : R = 0
    · subst z
      have := g_e2_z s2
      have e : i = n := by omega
      subst e
      refine Or.inr ⟨(nI i, mu1), ?_, rfl, f1, f2, f3⟩
      unfold FX3_keepSets_b5
      rw [if_pos (show nI 0 = (0 : Int32) from rfl)]
    · have ni : i < n := by
        refine Classical.byContradiction fun c => z ?_
        rw [show n - i = 0 by omega] at s2
        exact g_e2_0 s2
      obtain ⟨b, hb⟩ := g_lw_ex z
      have e2 : g_e2 W R ((n - (i + 1)) + 1) := by rw [show n - (i + 1) + 1 = n - i by omega]; exact s2
      obtain ⟨T, hT⟩ := g_pick_ex hb e2
      have tl : T ≤ R := Nat.le_of_testBit hT.1.2.1
      have low := sf_lowT (x := x) (mu := mu1) (show R < 1024 by omega) hb e2 (by omega) hT (fun R' hR => by rw [f1 _ (by omega)]; exact hA R' (by omega)) (fun T' h1 h2 => by rw [f1 _ (by omega)]; exact hB T' (by omega) h2)
      refine Or.inl ⟨(nI (R ^^^ T), nI (i + 1), bs_up mu1 (x + 44) (10 * p + i) (.int (nI T))), r - 1, ?_, by omega, i + 1, R ^^^ T, rfl, rfl, by omega, ⟨R, b, _, T, s1, hb, e2, hT, rfl⟩, hT.1.2.2.2, g_sub_tr (g_dif_s hT.1.2.1) s3, fun a ha => (bs_up_f ha).trans (f1 a ha), fun j hj => ?_, fun k hk => ?_⟩
      · unfold FX3_keepSets_b5
        have nz : ¬ nI R = (0 : Int32) := by rw [fn_eq0 (by omega)]; exact z
        simp only []
        rw [if_neg nz, if_neg (fun h => by have := (nI_leI (by omega) (by omega)).mp h; omega), low, fg_bd_s, fn_mul, fn_add, show p * 10 + i = 10 * p + i by omega, fn_in (show 10 * p + i < 720 by omega) (by decide), fg_gd_t, fg_wr_s, fn_cl (show 10 * p + i < 2 ^ 31 by omega), fn_not, fa_and, g_mi_x (by omega) hT.1.2.1, fn_add]
      · exact (bs_up_ne _ _ (by rintro ⟨-, q⟩; omega)).trans (f2 j hj)
      · show ∃ T', bs_iv (bs_up mu1 (x + 44) (10 * p + i) (.int (nI T)) (x + 44) (10 * p + k)) = nI T' ∧ _
        by_cases e : k = i
        · subst e
          exact ⟨T, by rw [bs_up_eq, bs_iv_i], R, b, _, s1, hb, e2, hT⟩
        · rw [bs_up_ne _ _ (by rintro ⟨-, q⟩; omega)]
          exact f3 k (by omega)
  · obtain ⟨tv, mu1⟩ := t
    have h1 : tv = nI n := ht.2.1
    subst h1
    exact ⟨mu1, by rw [ht.1]; rfl, ht.2.2⟩
