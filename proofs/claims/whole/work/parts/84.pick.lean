/-! SET: the lowest set that is one of the fewest -/
def g_e2 (W : Nat → Prop) (L v : Nat) : Prop := g_cut W v L ∧ ∀ j, j < v → ¬ g_cut W j L
theorem g_e2_u {W : Nat → Prop} {L v w : Nat} (h : g_e2 W L v) (h2 : g_e2 W L w) : v = w := by
  by_cases a : v < w
  · exact absurd h.1 (h2.2 v a)
  · by_cases b : w < v
    · exact absurd h2.1 (h.2 w b)
    · omega
theorem g_fw_e {W : Nat → Prop} {c L v w : Nat} (h : g_fw W c L v) (hw : w < c) : v = w ↔ g_e2 W L w := by
  rcases h with h | h
  · constructor
    · intro e; subst e; exact ⟨h.1, h.2.2⟩
    · intro e; exact g_e2_u ⟨h.1, h.2.2⟩ e
  · constructor
    · intro e; have := h.1; omega
    · intro e; exact absurd e.1 (h.2 w)
def g_lw (L b : Nat) : Prop := L.testBit b = true ∧ ∀ j, j < b → L.testBit j = false
def g_q (W : Nat → Prop) (b L v T : Nat) : Prop := T.testBit b = true ∧ g_sub T L ∧ W T ∧ g_e2 W (L ^^^ T) v
def g_pick (W : Nat → Prop) (b L v T : Nat) : Prop := g_q W b L v T ∧ ∀ j, j < T → ¬ g_q W b L v j
theorem g_pick_u {W : Nat → Prop} {b L v T U : Nat} (h : g_pick W b L v T) (h2 : g_pick W b L v U) : T = U := by
  by_cases a : T < U
  · exact absurd h.1 (h2.2 T a)
  · by_cases c : U < T
    · exact absurd h2.1 (h.2 U c)
    · omega
theorem g_least {P : Nat → Prop} : ∀ n, P n → ∃ m, P m ∧ ∀ j, j < m → ¬ P j := by
  intro n
  induction n using Nat.strongRecOn with
  | ind n ih =>
    intro h
    by_cases c : ∃ j, j < n ∧ P j
    · obtain ⟨j, j1, j2⟩ := c
      exact ih j j1 j2
    · exact ⟨n, h, fun j hj hp => c ⟨j, hj, hp⟩⟩
theorem g_pick_ex {W : Nat → Prop} {b L v : Nat} (hb : g_lw L b) (h : g_e2 W L (v + 1)) : ∃ T, g_pick W b L v T := by
  obtain ⟨⟨b', T, b1, b2, t1, t2, t3, t4⟩, hm⟩ := h
  have e := g_low_u hb.1 hb.2 b1 b2
  subst e
  exact g_least T ⟨t1, t2, t3, t4, fun j hj hc => hm (j + 1) (by omega) ⟨b, T, b1, b2, t1, t2, t3, hc⟩⟩
theorem fn_sub0 {T L : Nat} (hT : T < 2 ^ 24) : (nI T &&& (nI L ^^^ (-1)) = 0) = g_sub T L := by
  have le : T &&& (L ^^^ 4294967295) ≤ T := Nat.and_le_left
  rw [fn_not, fa_and, fn_eq0 (by omega)]
  have tb : ∀ i, (T &&& (L ^^^ 4294967295)).testBit i = (T.testBit i && !L.testBit i) := g_mi_tb hT
  refine propext ⟨fun h i hi => ?_, fun h => ?_⟩
  · have := tb i
    rw [h, Nat.zero_testBit, hi] at this
    revert this
    cases L.testBit i <;> simp
  · apply Nat.eq_of_testBit_eq
    intro i
    rw [tb, Nat.zero_testBit]
    cases e : T.testBit i with
    | false => rfl
    | true => rw [h i e]; rfl
/-- the class finds it -/
theorem sf_lowT {x L b v T : Nat} {W : Nat → Prop} {mu : bs_Mm} (hL : L < 1024) (hb : g_lw L b) (hv : g_e2 W L (v + 1)) (hv2 : v + 1 < 99) (hp : g_pick W b L v T) (hA : ∀ R, R ≤ L → ∃ w, bs_iv (mu (x + 40) R) = nI w ∧ g_fw W 99 R w) (hB : ∀ T, T ≤ L → T ≠ 0 → (bs_iv (mu (x + 42) T) = nI 1 ∧ W T) ∨ (bs_iv (mu (x + 42) T) = nI 0 ∧ ¬ W T)) : FX3_lowestSet x mu (nI L) = some (nI T) := by
  obtain ⟨b', b1, b2, b3⟩ := g_low (R := L) (g_nz0 hb.1) (by omega)
  have e := g_low_u hb.1 hb.2 b1 b2
  subst e
  have tl : T ≤ L := Nat.le_of_testBit hp.1.2.1
  have t0 : 2 ^ b ≤ T := Nat.ge_two_pow_of_testBit hp.1.1
  obtain ⟨wL, wL1, wL2⟩ := hA L (Nat.le_refl _)
  have wLe := (g_fw_e wL2 hv2).mpr hv
  subst wLe
  have test : ∀ U, U < L → 2 ^ b ≤ U → FX3_lowestSet_b7 x mu (nI L) (nI (2 ^ b)) (nI U) = some (.inl (nI (U + 1))) ∧ ¬ g_q W b L v U ∨ FX3_lowestSet_b7 x mu (nI L) (nI (2 ^ b)) (nI U) = some (.inr (.inr (nI U))) ∧ g_q W b L v U := by
    intro U hU h2
    have le1 : ¬ nI L ≤ nI U := fun h => by have := (nI_leI (by omega) (by omega)).mp h; omega
    have uz : U ≠ 0 := by have := Nat.two_pow_pos b; omega
    unfold FX3_lowestSet_b7
    rw [if_neg le1, fa_and]
    by_cases c1 : U.testBit b = true
    · have n1 : ¬ nI (U &&& 2 ^ b) = (0 : Int32) := by rw [fn_bit0 (by omega), c1]; decide
      rw [if_neg n1]
      by_cases c2 : g_sub U L
      · have n2 : nI U &&& (nI L ^^^ (-1)) = 0 := by rw [fn_sub0 (by omega)]; exact c2
        have dl := g_dif_lt c2 c1
        obtain ⟨w, w1, w2⟩ := hA (L ^^^ U) (by omega)
        have wl := g_fw_le w2
        rw [if_pos n2]
        unfold FX3_lowestSet_j31_L7
        rw [if_neg (by decide), fn_in (show U < 1024 by omega) (by decide), fg_gd_t, fn_cl (show U < 2 ^ 31 by omega)]
        rcases hB U (by omega) uz with ⟨r1, r2⟩ | ⟨r1, r2⟩
        · rw [r1, if_neg (by decide), bs_xorI, fn_in (show L ^^^ U < 1024 by omega) (by decide), fg_gd_t, fn_in hL (by decide), fg_gd_t, fn_cl (show L ^^^ U < 2 ^ 31 by omega), fn_cl (show L < 2 ^ 31 by omega), w1, wL1, fn_add]
          by_cases q : w = v
          · subst q
            rw [if_pos rfl]
            exact Or.inr ⟨rfl, c1, c2, r2, (g_fw_e w2 (by omega)).mp rfl⟩
          · rw [if_neg (fun h => q (by have := (nI_eq (by omega) (by omega)).mp h; omega)), fn_add]
            exact Or.inl ⟨rfl, fun h => q ((g_fw_e w2 (by omega)).mpr h.2.2.2)⟩
        · rw [r1, if_pos (by decide), fn_add]
          exact Or.inl ⟨rfl, fun h => r2 h.2.2.1⟩
      · have n2 : ¬ nI U &&& (nI L ^^^ (-1)) = 0 := by rw [fn_sub0 (by omega)]; exact c2
        rw [if_neg n2]
        unfold FX3_lowestSet_j30_L7 FX3_lowestSet_j31_L7
        rw [if_pos (show nI 0 = (0 : Int32) from rfl), fn_add]
        exact Or.inl ⟨rfl, fun h => c2 h.2.1⟩
    · have c1' : U.testBit b = false := by
        cases d : U.testBit b with
        | true => exact absurd d c1
        | false => rfl
      have n1 : nI (U &&& 2 ^ b) = (0 : Int32) := by rw [fn_bit0 (by omega)]; exact c1'
      rw [if_pos n1]
      unfold FX3_lowestSet_j30_L7 FX3_lowestSet_j31_L7
      rw [if_pos (show nI 0 = (0 : Int32) from rfl), fn_add]
      exact Or.inl ⟨rfl, fun h => c1 h.1⟩
  have p0 := Nat.two_pow_pos b
  have p1 := Nat.sub_le T (2 ^ b)
  unfold FX3_lowestSet
  rw [b3]
  have st : ∀ i, i < T - 2 ^ b → FX3_lowestSet_b7 x mu (nI L) (nI (2 ^ b)) (nI (2 ^ b + i)) = some (.inl (nI (2 ^ b + (i + 1)))) := by
    intro i hi
    rcases test (2 ^ b + i) (by omega) (by omega) with h | h
    · exact h.1
    · exact absurd h.2 (hp.2 _ (by omega))
  by_cases z : T < L
  · rw [fg_lp_n (fun i => nI (2 ^ b + i)) (.inr (nI T)) (T - 2 ^ b) (by rfl) st ?_ (fg_fu_lt (by omega))]
    · rfl
    · show FX3_lowestSet_b7 x mu (nI L) (nI (2 ^ b)) (nI (2 ^ b + (T - 2 ^ b))) = _
      rw [show 2 ^ b + (T - 2 ^ b) = T by omega]
      rcases test T z t0 with h | h
      · exact absurd hp.1 h.2
      · exact h.1
  · have e : T = L := by omega
    rw [fg_lp_n (fun i => nI (2 ^ b + i)) (.inl ()) (T - 2 ^ b) (by rfl) st ?_ (fg_fu_lt (by omega))]
    · rw [e]
      rfl
    · show FX3_lowestSet_b7 x mu (nI L) (nI (2 ^ b)) (nI (2 ^ b + (T - 2 ^ b))) = _
      rw [show 2 ^ b + (T - 2 ^ b) = L by omega]
      unfold FX3_lowestSet_b7
      rw [if_pos ((nI_leI (by omega) (by omega)).mpr (Nat.le_refl _))]
