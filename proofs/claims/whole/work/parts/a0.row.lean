/-! ALIKE: the class's row -/
def al_I (V : (Nat → Nat) → Prop) (d : Nat) (R : Nat → Nat) : Prop := ∀ s, V s → ∃ i, i ≤ d ∧ (∀ j, j < i → s j + 1 = R j) ∧ R i ≤ s i
/-- the search as it stands at depth d -/
def al_S (G H : bs_G) (d U : Nat) (R : Nat → Nat) : Prop := d < g_np G ∧ (∀ j, j ≤ d → R j ≤ g_np G) ∧ (∀ j, j < d → 1 ≤ R j ∧ (al_u R j).testBit (R j - 1) = false ∧ al_Tc G H j (R j - 1) (fun i => R i - 1)) ∧ (R d = 0 ∧ U = al_u R d ∨ 1 ≤ R d ∧ (al_u R d).testBit (R d - 1) = false ∧ U = al_u R d ||| 2 ^ (R d - 1)) ∧ al_I (al_V G H) d R
theorem al_vu {G H : bs_G} {s R : Nat → Nat} {d : Nat} (h : al_V G H s) (hd : d < g_np G) (e : ∀ j, j < d → s j + 1 = R j) : (al_u R d).testBit (s d) = false := by
  refine al_mx fun c => ?_
  obtain ⟨j, j1, j2⟩ := al_u_m d c
  have := e j j1
  have := h.2.1 j d (by omega) hd (by omega)
  omega
theorem al_vt {G H : bs_G} (hG : g_ok G) (hH : g_ok H) (hn : g_np G = g_np H) {s R : Nat → Nat} {d : Nat} (h : al_V G H s) (hd : d < g_np G) (e : ∀ j, j < d → s j + 1 = R j) : al_Tc G H d (s d) (fun i => R i - 1) := ⟨al_T_cg (al_VT h hd) (fun p hp => by have := e p hp; show s p = R p - 1; omega), al_V_en hG hH hn h hd⟩
/-- no further candidate: one back -/
theorem al_S_bk {G H : bs_G} (hG : g_ok G) (hH : g_ok H) (hn : g_np G = g_np H) {d U : Nat} {R : Nat → Nat} (h : al_S G H (d + 1) U R) (no : ∀ o, R (d + 1) ≤ o → o < g_np G → (al_u R (d + 1)).testBit o = false → ¬ al_Tc G H (d + 1) o (fun i => R i - 1)) : al_S G H d (al_u R (d + 1)) R := by
  obtain ⟨h1, h2, h3, h4, h5⟩ := h
  obtain ⟨a, b, c⟩ := h3 d (by omega)
  refine ⟨by omega, fun j hj => h2 j (by omega), fun j hj => h3 j (by omega), Or.inr ⟨a, b, rfl⟩, fun s hs => ?_⟩
  obtain ⟨i, i1, i2, i3⟩ := h5 s hs
  by_cases e : i = d + 1
  · subst e
    exact absurd (al_vt hG hH hn hs h1 i2) (no _ i3 (hs.1 _ h1) (al_vu hs h1 i2))
  · exact ⟨i, by omega, i2, i3⟩
theorem al_S_no {G H : bs_G} (hG : g_ok G) (hH : g_ok H) (hn : g_np G = g_np H) {U : Nat} {R : Nat → Nat} (h : al_S G H 0 U R) (no : ∀ o, R 0 ≤ o → o < g_np G → (al_u R 0).testBit o = false → ¬ al_Tc G H 0 o (fun i => R i - 1)) : ∀ s, ¬ al_V G H s := by
  obtain ⟨h1, h2, h3, h4, h5⟩ := h
  intro s hs
  obtain ⟨i, i1, i2, i3⟩ := h5 s hs
  have e : i = 0 := by omega
  subst e
  exact absurd (al_vt hG hH hn hs h1 i2) (no _ i3 (hs.1 _ h1) (al_vu hs h1 i2))
/-- a candidate: one deeper -/
theorem al_S_fw {G H : bs_G} {d U q : Nat} {R R' : Nat → Nat} (h : al_S G H d U R) (hd : d + 1 < g_np G) (q1 : R d ≤ q) (q2 : q < g_np G) (q3 : (al_u R d).testBit q = false) (q4 : al_Tc G H d q (fun i => R i - 1)) (q5 : ∀ o, R d ≤ o → o < q → (al_u R d).testBit o = false → ¬ al_Tc G H d o (fun i => R i - 1)) (hG : g_ok G) (hH : g_ok H) (hn : g_np G = g_np H) (e1 : ∀ j, j < d → R' j = R j) (e2 : R' d = q + 1) (e3 : R' (d + 1) = 0) : al_S G H (d + 1) (al_u R' (d + 1)) R' := by
  obtain ⟨h1, h2, h3, h4, h5⟩ := h
  have uu : ∀ j, j ≤ d → al_u R' j = al_u R j := fun j hj => al_u_cg j (fun i hi => e1 i (by omega))
  refine ⟨hd, fun j hj => ?_, fun j hj => ?_, Or.inl ⟨e3, rfl⟩, fun s hs => ?_⟩
  · by_cases a : j < d
    · rw [e1 j a]
      exact h2 j (by omega)
    · by_cases b : j = d
      · rw [b, e2]
        omega
      · rw [show j = d + 1 by omega, e3]
        exact Nat.zero_le _
  · by_cases a : j < d
    · obtain ⟨a1, a2, a3⟩ := h3 j a
      rw [uu j (by omega), e1 j a]
      refine ⟨a1, a2, al_T_cg a3.1 (fun p hp => ?_), a3.2⟩
      show R p - 1 = R' p - 1
      rw [e1 p (by omega)]
    · have b : j = d := by omega
      subst b
      rw [uu j (Nat.le_refl _), e2]
      refine ⟨by omega, q3, al_T_cg q4.1 (fun p hp => ?_), q4.2⟩
      show R p - 1 = R' p - 1
      rw [e1 p hp]
  · obtain ⟨i, i1, i2, i3⟩ := h5 s hs
    by_cases a : i = d
    · subst a
      have t := al_vt hG hH hn hs h1 i2
      have u := al_vu hs h1 i2
      have l : q ≤ s i := by
        by_cases c : s i < q
        · exact absurd t (q5 _ i3 c u)
        · omega
      by_cases c : q = s i
      · refine ⟨i + 1, Nat.le_refl _, fun j hj => ?_, by rw [e3]; exact Nat.zero_le _⟩
        by_cases b : j = i
        · rw [b, e2, c]
        · rw [e1 j (by omega)]
          exact i2 j (by omega)
      · exact ⟨i, by omega, fun j hj => by rw [e1 j hj]; exact i2 j hj, by rw [e2]; omega⟩
    · exact ⟨i, by omega, fun j hj => by rw [e1 j (by omega)]; exact i2 j hj, by rw [e1 i (by omega)]; exact i3⟩
/-- the last candidate: the row -/
theorem al_S_fi {G H : bs_G} {d U q : Nat} {R R' : Nat → Nat} (h : al_S G H d U R) (hd : d + 1 = g_np G) (q1 : R d ≤ q) (q2 : q < g_np G) (q3 : (al_u R d).testBit q = false) (q4 : al_Tc G H d q (fun i => R i - 1)) (q5 : ∀ o, R d ≤ o → o < q → (al_u R d).testBit o = false → ¬ al_Tc G H d o (fun i => R i - 1)) (hG : g_ok G) (hH : g_ok H) (hn : g_np G = g_np H) (e1 : ∀ j, j < d → R' j = R j) (e2 : R' d = q + 1) : al_F (al_V G H) (g_np G) (fun i => R' i - 1) := by
  obtain ⟨h1, h2, h3, h4, h5⟩ := h
  have uu : ∀ j, j ≤ d → al_u R' j = al_u R j := fun j hj => al_u_cg j (fun i hi => e1 i (by omega))
  have pr : ∀ j, j < g_np G → 1 ≤ R' j ∧ R' j ≤ g_np G ∧ (al_u R' j).testBit (R' j - 1) = false ∧ al_T G H j (R' j - 1) (fun i => R' i - 1) := by
    intro j hj
    by_cases a : j < d
    · obtain ⟨a1, a2, a3⟩ := h3 j a
      rw [uu j (by omega), e1 j a]
      refine ⟨a1, h2 j (by omega), a2, al_T_cg a3.1 (fun p hp => ?_)⟩
      show R p - 1 = R' p - 1
      rw [e1 p (by omega)]
    · have b : j = d := by omega
      subst b
      rw [uu j (Nat.le_refl _), e2]
      refine ⟨by omega, by omega, q3, al_T_cg q4.1 (fun p hp => ?_)⟩
      show R p - 1 = R' p - 1
      rw [e1 p hp]
  refine ⟨al_TV (fun j hj => ?_) (fun j i hi hj e => ?_) (fun j hj => (pr j hj).2.2.2), fun t ht => ?_⟩
  · have := pr j hj
    show R' j - 1 < g_np G
    omega
  · have a := (pr j hj).2.2.1
    have b := al_u_y (R := R') j i hi
    have e : R' i - 1 = R' j - 1 := e
    rw [e, a] at b
    cases b
  · obtain ⟨i, i1, i2, i3⟩ := h5 t ht
    by_cases a : i = d
    · subst a
      have tt := al_vt hG hH hn ht h1 i2
      have u := al_vu ht h1 i2
      have l : q ≤ t i := by
        by_cases c : t i < q
        · exact absurd tt (q5 _ i3 c u)
        · omega
      by_cases c : q = t i
      · refine Or.inl fun j hj => ?_
        show R' j - 1 = t j
        by_cases b : j = i
        · rw [b, e2, c, Nat.add_sub_cancel]
        · rw [e1 j (by omega), ← i2 j (by omega), Nat.add_sub_cancel]
      · refine Or.inr ⟨i, h1, fun j hj => ?_, ?_⟩
        · show R' j - 1 = t j
          rw [e1 j hj, ← i2 j hj, Nat.add_sub_cancel]
        · show R' i - 1 < t i
          rw [e2]
          omega
    · have p := (h3 i (by omega)).1
      refine Or.inr ⟨i, by omega, fun j hj => ?_, ?_⟩
      · show R' j - 1 = t j
        rw [e1 j (by omega), ← i2 j hj, Nat.add_sub_cancel]
      · show R' i - 1 < t i
        rw [e1 i (by omega)]
        omega
/-- the trials that a step takes -/
theorem al_w_bk {n d : Nat} {R : Nat → Nat} : al_w n R (d + 1) + 1 ≤ al_w n R (d + 2) := by
  show al_w n R (d + 1) + 1 ≤ al_w n R (d + 1) + (1 + al_c n R (d + 1) * (1 + al_N (n - (d + 1) - 1)))
  omega
theorem al_w_fw {n d q : Nat} {R R' : Nat → Nat} (hd : d + 1 < n) (e1 : ∀ j, j < d → R' j = R j) (e2 : R' d = q + 1) (e3 : R' (d + 1) = 0) (q1 : R d ≤ q) (q2 : q < n) (q3 : (al_u R d).testBit q = false) (pr : ∀ j, j < d + 1 → 1 ≤ R' j ∧ R' j ≤ n ∧ (al_u R' j).testBit (R' j - 1) = false) : al_w n R' (d + 2) + 1 ≤ al_w n R (d + 1) := by
  have c := al_cs e1 e2 q1 q2 q3
  have z := al_c0 e3 pr
  have w := al_w_cg (n := n) d e1
  show al_w n R' d + (1 + al_c n R' d * (1 + al_N (n - d - 1))) + (1 + al_c n R' (d + 1) * (1 + al_N (n - (d + 1) - 1))) + 1 ≤ al_w n R d + (1 + al_c n R d * (1 + al_N (n - d - 1)))
  have N : al_N (n - d - 1) = 1 + al_c n R' (d + 1) * (1 + al_N (n - (d + 1) - 1)) := by
    rw [show n - d - 1 = (n - (d + 1) - 1) + 1 by omega, show al_c n R' (d + 1) = (n - (d + 1) - 1) + 1 by omega]
    rfl
  rw [w, ← N]
  have m := Nat.mul_le_mul_right (1 + al_N (n - d - 1)) c
  rw [Nat.add_mul, Nat.one_mul] at m
  omega
theorem al_N8 : ∀ n, n ≤ 8 → al_N n ≤ 178881 := by decide
