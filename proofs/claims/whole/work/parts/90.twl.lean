def kT1 (G : bs_G) (i l : Nat) : Prop := l ≤ 1000000 ∧ (l = 1000000 ∨ ∃ T, T < 2 ^ g_nu G ∧ T ≠ 0 ∧ g_tk G T ∧ l = g_wt G T (g_nu G)) ∧ ∀ k, k < i → g_gr k ≠ 0 → g_tk G (g_gr k) → l ≤ g_wt G (g_gr k) (g_nu G)
theorem g_gr_nz {i : Nat} (h : i ≠ 0) : g_gr i ≠ 0 := by
  intro e
  have : i = i / 2 := by
    have h2 : g_gr i ^^^ (i / 2) = i := g_xx i (i / 2)
    rw [e, Nat.zero_xor] at h2
    exact h2.symm
  omega
theorem sf_twL {x f : Nat} {G : bs_G} {mu : bs_Mm} (hV : cFv f G mu) (hG : g_ok G) (hnu : g_nu G ≤ 12) : ∃ l, fg_lp (FX5_leastTwice_b48 x f mu) fg_fu (nI (g_od G (g_nu G)), nI 0, nI 0, (1000000 : Int32), nI 1) = some (nI l) ∧ kT G l := by
  have q0 := g_bn hG
  have q1 : 2 ^ g_nu G ≤ 2 ^ 12 := Nat.pow_le_pow_right (by decide) hnu
  have q2 := Nat.one_le_two_pow (n := g_nu G)
  have od := g_od_lt hG (g_nu G) (Nat.le_refl _)
  have wb : ∀ T, g_wt G T (g_nu G) ≤ 720 * 12 := fun T => by
    have := g_wt_le hG T (g_nu G) (Nat.le_refl _)
    omega
  have ob : ∀ T, g_od G (g_nu G) ^^^ g_om G T (g_nu G) < 2 ^ 30 := fun T => g_xor_lt od (g_om_lt hG T _ (Nat.le_refl _))
  refine Exists.elim (fg_lp_i (body := FX5_leastTwice_b48 x f mu) (fun r s => ∃ i l, s = (nI (g_od G (g_nu G) ^^^ g_om G (g_gr (i - 1)) (g_nu G)), nI (g_gr (i - 1)), nI (g_wt G (g_gr (i - 1)) (g_nu G)), nI l, nI i) ∧ 1 ≤ i ∧ i + r = 2 ^ g_nu G ∧ kT1 G i l) (fun t => ∃ l, t = nI l ∧ kT G l) (fun r s hI => ?_) fg_fu (2 ^ g_nu G - 1) (nI (g_od G (g_nu G)), nI 0, nI 0, (1000000 : Int32), nI 1) ⟨1, 1000000, ?_, Nat.le_refl _, by omega, Nat.le_refl _, Or.inl rfl, fun k hk hz => ?_⟩ (fg_fu_lt (by omega))) (fun t ht => ?_)
  · obtain ⟨i, l, e1, i1, hr, hk⟩ := hI
    subst e1
    have ll := hk.1
    have s1 : nI 1 <<< (nI (g_nu G) &&& 31) = nI (2 ^ g_nu G) := fn_shl (by omega)
    by_cases z : 2 ^ g_nu G ≤ i
    · refine Or.inr ⟨nI l, ?_, l, rfl, hk.2.1, fun T h1 h2 h3 => ?_⟩
      · unfold FX5_leastTwice_b48
        simp only []
        rw [hV.2.1, s1, if_pos ((nI_leI (by omega) (by omega)).mpr z)]
      · obtain ⟨k, k1, k2⟩ := g_gr_on _ T h1
        rw [← k2]
        exact hk.2.2 k (by omega) (by rw [k2]; exact h2) (by rw [k2]; exact h3)
    · obtain ⟨b, hb⟩ := g_lw_ex (show i ≠ 0 by omega)
      have bn : b < g_nu G := g_tb_lt (show i < 2 ^ g_nu G by omega) hb.1
      have st := g_gr_st b i hb.1 hb.2
      have gl : g_gr i < 2 ^ g_nu G := g_gr_lt (by omega)
      have gl2 : g_gr (i - 1) < 2 ^ g_nu G := g_gr_lt (by omega)
      have om := g_om_tg (G := G) bn (g_gr (i - 1))
      rw [← st] at om
      have w1 := wb (g_gr i)
      have w2 := wb (g_gr (i - 1))
      have o1 := ob (g_gr i)
      have iv : g_od G (g_nu G) ^^^ g_om G (g_gr (i - 1)) (g_nu G) ^^^ g_eb G b = g_od G (g_nu G) ^^^ g_om G (g_gr i) (g_nu G) := by rw [om, Nat.xor_assoc]
      have key : ∀ (e : FX5_leastTwice_b48 x f mu (nI (g_od G (g_nu G) ^^^ g_om G (g_gr (i - 1)) (g_nu G)), nI (g_gr (i - 1)), nI (g_wt G (g_gr (i - 1)) (g_nu G)), nI l, nI i) = (if nI l ≤ nI (g_wt G (g_gr i) (g_nu G)) then some (.inl (nI (g_od G (g_nu G) ^^^ g_om G (g_gr i) (g_nu G)), nI (g_gr i), nI (g_wt G (g_gr i) (g_nu G)), nI l, nI (i + 1))) else fg_bd (FJ6_bitCount_0f7a4 mu (nI (g_od G (g_nu G) ^^^ g_om G (g_gr i) (g_nu G)))) (fun v => if nI 2 < v then some (.inl (nI (g_od G (g_nu G) ^^^ g_om G (g_gr i) (g_nu G)), nI (g_gr i), nI (g_wt G (g_gr i) (g_nu G)), nI l, nI (i + 1))) else some (.inl (nI (g_od G (g_nu G) ^^^ g_om G (g_gr i) (g_nu G)), nI (g_gr i), nI (g_wt G (g_gr i) (g_nu G)), nI (g_wt G (g_gr i) (g_nu G)), nI (i + 1)))))), ∃ s' r', FX5_leastTwice_b48 x f mu (nI (g_od G (g_nu G) ^^^ g_om G (g_gr (i - 1)) (g_nu G)), nI (g_gr (i - 1)), nI (g_wt G (g_gr (i - 1)) (g_nu G)), nI l, nI i) = some (.inl s') ∧ r' < r ∧ ∃ i l, s' = (nI (g_od G (g_nu G) ^^^ g_om G (g_gr (i - 1)) (g_nu G)), nI (g_gr (i - 1)), nI (g_wt G (g_gr (i - 1)) (g_nu G)), nI l, nI i) ∧ 1 ≤ i ∧ i + r' = 2 ^ g_nu G ∧ kT1 G i l := by
        intro e
        have nx : ∀ l', l' ≤ l → (l' = l ∨ (g_tk G (g_gr i) ∧ l' = g_wt G (g_gr i) (g_nu G))) → (g_tk G (g_gr i) → l' ≤ g_wt G (g_gr i) (g_nu G)) → kT1 G (i + 1) l' := by
          intro l' h1 h2 h3
          refine ⟨by omega, ?_, fun k hk1 hk2 hk3 => ?_⟩
          · rcases h2 with h2 | h2
            · rw [h2]; exact hk.2.1
            · exact Or.inr ⟨g_gr i, gl, g_gr_nz (by omega), h2.1, h2.2⟩
          · by_cases q : k = i
            · subst q; exact h3 hk3
            · have := hk.2.2 k (by omega) hk2 hk3
              omega
        by_cases c : l ≤ g_wt G (g_gr i) (g_nu G)
        · rw [e, if_pos ((nI_leI (by omega) (by omega)).mpr c)]
          exact ⟨_, r - 1, rfl, by omega, i + 1, l, by rw [show i + 1 - 1 = i by omega], by omega, by omega, nx l (Nat.le_refl _) (Or.inl rfl) (fun _ => c)⟩
        · rw [e, if_neg (fun h => c ((nI_leI (by omega) (by omega)).mp h)), pc_bits mu (by omega), fg_bd_s]
          have pl := pc_le (g_od G (g_nu G) ^^^ g_om G (g_gr i) (g_nu G))
          by_cases d : 2 < pc_n (g_od G (g_nu G) ^^^ g_om G (g_gr i) (g_nu G)) 32
          · rw [if_pos ((nI_ltI (by omega) (by omega)).mpr d)]
            exact ⟨_, r - 1, rfl, by omega, i + 1, l, by rw [show i + 1 - 1 = i by omega], by omega, by omega, nx l (Nat.le_refl _) (Or.inl rfl) (fun h => by unfold g_tk at h; omega)⟩
          · rw [if_neg (fun h => d ((nI_ltI (by omega) (by omega)).mp h))]
            exact ⟨_, r - 1, rfl, by omega, i + 1, _, by rw [show i + 1 - 1 = i by omega], by omega, by omega, nx _ (by omega) (Or.inr ⟨by unfold g_tk; omega, rfl⟩) (fun _ => Nat.le_refl _)⟩
      refine Or.inl (key ?_)
      have b1 := g_bd hG bn
      have pb : 2 ^ b < 2 ^ g_nu G := Nat.pow_lt_pow_right (by decide) bn
      unfold FX5_leastTwice_b48
      simp only []
      rw [hV.2.1, s1, if_neg (fun h => z ((nI_leI (by omega) (by omega)).mp h)), sf_tz mu (show i < 65536 by omega) hb.1 hb.2, fg_bd_s, sf_eb hV hG bn, fg_bd_s, fn_shl (show b < 31 by omega), bs_xorI, bs_xorI, ← st, iv, fa_and, fn_in (show b < 24 by omega) (by decide), fg_gd_t, fg_gd_t, fn_cl (show b < 2 ^ 31 by omega), hV.2.2.2.2.2.1 b bn]
      cases c : (g_gr i).testBit b with
      | true =>
        have w := g_wt_rm (G := G) c bn
        rw [show g_gr i ^^^ 2 ^ b = g_gr (i - 1) by rw [st, g_xx]] at w
        have n1 : ¬ nI (g_gr i &&& 2 ^ b) = (0 : Int32) := by rw [fn_bit0 (by omega), c]; decide
        rw [if_neg n1]
        unfold FX5_leastTwice_j111_L48
        rw [fn_add, ← w, fn_add]
      | false =>
        have c2 : (g_gr (i - 1)).testBit b = true := by
          have : (g_gr i).testBit b = ((g_gr (i - 1)).testBit b ^^ true) := by rw [st, Nat.testBit_xor, Nat.testBit_two_pow_self]
          rw [c] at this
          revert this
          cases (g_gr (i - 1)).testBit b <;> simp
        have w := g_wt_rm (G := G) c2 bn
        rw [← st] at w
        have n1 : nI (g_gr i &&& 2 ^ b) = (0 : Int32) := by rw [fn_bit0 (by omega)]; exact c
        have ng : nI (g_wt G (g_gr (i - 1)) (g_nu G)) + -(nI (g_le G b)) = nI (g_wt G (g_gr i) (g_nu G)) := by
          rw [← Int32.sub_eq_add_neg, w, fn_sub (by omega), Nat.add_sub_cancel]
        rw [if_pos n1]
        unfold FX5_leastTwice_j111_L48
        rw [ng, fn_add]
  · rw [show g_gr (1 - 1) = 0 from rfl, g_om_0, Nat.xor_zero]
    have w0 : ∀ n, g_wt G 0 n = 0 := by
      intro n
      induction n with
      | zero => rfl
      | succ n ih =>
        show g_wt G 0 n + (if g_bt 0 n = 1 then g_le G n else 0) = 0
        rw [ih, if_neg (by rw [g_bt_tb, Nat.zero_testBit]; decide)]
    rw [w0]
    rfl
  · have : k = 0 := by omega
    subst this
    exact absurd rfl hz
  · obtain ⟨l, h1, h2⟩ := ht.2
    exact ⟨l, by rw [ht.1, h1], h2⟩
