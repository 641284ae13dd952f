/-! WHAT IS LEFT (own), the model's -/
theorem fn_shl3 {k : Nat} (h : k < 24) : nI 3 <<< (nI k &&& 31) = nI (3 * 2 ^ k) := by
  have h2 : 2 ^ k < 2 ^ 24 := Nat.pow_lt_pow_right (by decide) h
  rw [bs_s31 (by omega), pk_shlN _ k (bs_smod (by omega)) (by omega)]
theorem g_btd (V k : Nat) : V / 2 ^ k &&& 1 = g_bt V k := rfl
theorem g_bt_tb (V k : Nat) : (g_bt V k = 1) = (V.testBit k = true) := by
  have e2 : g_bt V k = (V.testBit k).toNat := by
    rw [← g_b_t]
    unfold g_bt g_b
    rw [Nat.and_one_is_mod]
  rw [e2]
  cases V.testBit k <;> simp
def g_mp (G : bs_G) (W : Nat) : Nat → Nat × Nat
  | 0 => (W, 0)
  | n + 1 => if g_tw G n = 1 ∧ (g_mp G W n).1.testBit n ≠ (g_mp G W n).1.testBit (n + 1) ∧ g_es G (g_to G n) (g_mp G W n).1 (g_nu G) < 3 then (g_m3 (g_mp G W n).1 n, 1) else g_mp G W n
theorem g_mp_y {G : bs_G} {W n : Nat} (h : g_mx G (g_mp G W n).1 n) : g_mp G W (n + 1) = (g_m3 (g_mp G W n).1 n, 1) := by
  unfold g_mx at h
  rw [g_mp, if_pos h]
theorem g_mp_n {G : bs_G} {W n : Nat} (h : ¬ g_mx G (g_mp G W n).1 n) : g_mp G W (n + 1) = g_mp G W n := by
  unfold g_mx at h
  rw [g_mp, if_neg h]
theorem g_mp_lt {G : bs_G} {W : Nat} (h : W < 2 ^ g_nu G) : ∀ n, (g_mp G W n).1 < 2 ^ g_nu G := by
  intro n
  induction n with
  | zero => exact h
  | succ n ih =>
    by_cases c : g_mx G (g_mp G W n).1 n
    · rw [g_mp_y c]
      exact Nat.lt_of_le_of_lt Nat.and_le_left ih
    · rw [g_mp_n c]; exact ih
theorem g_mp_01 (G : bs_G) (W n : Nat) : (g_mp G W n).2 = 0 ∨ (g_mp G W n).2 = 1 := by
  induction n with
  | zero => exact Or.inl rfl
  | succ n ih =>
    by_cases c : g_mx G (g_mp G W n).1 n
    · rw [g_mp_y c]; exact Or.inr rfl
    · rw [g_mp_n c]; exact ih
theorem g_mp_z {G : bs_G} {W : Nat} : ∀ n, (g_mp G W n).2 = 0 → (g_mp G W n).1 = W ∧ ∀ i, i < n → ¬ g_mx G W i := by
  intro n
  induction n with
  | zero => intro _; exact ⟨rfl, fun i h => by omega⟩
  | succ n ih =>
    intro h
    by_cases c : g_mx G (g_mp G W n).1 n
    · rw [g_mp_y c] at h; cases h
    · rw [g_mp_n c] at h ⊢
      obtain ⟨h1, h2⟩ := ih h
      refine ⟨h1, fun i hi => ?_⟩
      by_cases e : i = n
      · subst e; rw [h1] at c; exact c
      · exact h2 i (by omega)
theorem g_m3_ct {V n k : Nat} (hV : V < 2 ^ 24) (hn : n < 24) (hk : n + 1 < k) (h : V.testBit n ≠ V.testBit (n + 1)) : g_ct (g_m3 V n) k < g_ct V k := by
  have s : g_sub (g_m3 V n) V := fun i hi => by rw [g_m3_tb hV hn] at hi; exact (Bool.and_eq_true _ _ ▸ hi).1
  cases a : V.testBit n with
  | true => exact g_ct_lt s (k := n) (by rw [g_m3_tb hV hn]; simp) a _ (by omega)
  | false =>
    have b : V.testBit (n + 1) = true := by
      cases b : V.testBit (n + 1) with
      | true => rfl
      | false => rw [a, b] at h; exact absurd rfl h
    exact g_ct_lt s (k := n + 1) (by rw [g_m3_tb hV hn]; simp) b _ (by omega)
theorem g_mp_ct {G : bs_G} {W : Nat} (hG : g_nu G ≤ 24) (h : W < 2 ^ g_nu G) : ∀ n, n ≤ g_nu G → g_ct (g_mp G W n).1 (g_nu G) + (g_mp G W n).2 ≤ g_ct W (g_nu G) := by
  have q1 : 2 ^ g_nu G ≤ 2 ^ 24 := Nat.pow_le_pow_right (by decide) hG
  intro n
  induction n with
  | zero => intro _; exact Nat.le_refl _
  | succ n ih =>
    intro hn
    have := ih (by omega)
    by_cases c : g_mx G (g_mp G W n).1 n
    · rw [g_mp_y c]
      have p := g_mp_lt h n
      have t := (g_tw_in (G := G) (i := n) (by have := c.1; omega)).2.1
      have := g_m3_ct (show (g_mp G W n).1 < 2 ^ 24 by omega) (show n < 24 by omega) t c.2.1
      show g_ct (g_m3 (g_mp G W n).1 n) (g_nu G) + 1 ≤ _
      omega
    · rw [g_mp_n c]; exact this
/-- what holds of all that is left on the way -/
def g_wy (G : bs_G) (F W : Nat) : Prop := W < 2 ^ g_nu G ∧ (∀ i, i < g_nu G → F.testBit i = true → W.testBit i = false) ∧ ∀ C, g_cl G C → g_sub F C → ∀ i, i < g_nu G → W.testBit i = false → C.testBit i = true
theorem g_wy_m3 {G : bs_G} (hG : g_nu G ≤ 24) (hc : g_ch G) {F W n : Nat} (h : g_wy G F W) (hx : g_mx G W n) : g_wy G F (g_m3 W n) := by
  have q1 : 2 ^ g_nu G ≤ 2 ^ 24 := Nat.pow_le_pow_right (by decide) hG
  have t := (g_tw_in (G := G) (i := n) (by have := hx.1; omega)).2.1
  have tb := fun i => g_m3_tb (i := i) (show W < 2 ^ 24 by have := h.1; omega) (show n < 24 by omega)
  refine ⟨Nat.lt_of_le_of_lt Nat.and_le_left h.1, fun i hi hf => by rw [tb, h.2.1 i hi hf]; rfl, fun C hC hs i hi hw => ?_⟩
  rw [tb] at hw
  obtain ⟨b1, b2⟩ := g_mx_b hc hC (h.2.2 C hC hs) hx
  cases w : W.testBit i with
  | false => exact h.2.2 C hC hs i hi w
  | true =>
    rw [w, Bool.true_and] at hw
    by_cases e : i = n ∨ i = n + 1
    · rcases e with rfl | rfl
      · exact b1
      · exact b2
    · rw [decide_eq_false e] at hw
      cases hw
theorem g_wy_mp {G : bs_G} (hG : g_nu G ≤ 24) (hc : g_ch G) {F W : Nat} (h : g_wy G F W) : ∀ n, g_wy G F (g_mp G W n).1 := by
  intro n
  induction n with
  | zero => exact h
  | succ n ih =>
    by_cases c : g_mx G (g_mp G W n).1 n
    · rw [g_mp_y c]; exact g_wy_m3 hG hc ih c
    · rw [g_mp_n c]; exact ih
theorem tf_lpass {m g W : Nat} {l2 : Int32} {mu : bs_Mm} {G : bs_G} (hV : mFv m g G mu) (hg : g < 13) (hG : g_ok G) (hW : W < 2 ^ g_nu G) : fg_lp (FX12_leftOf_b16_L5 m mu (nI g) l2) fg_fu (nI W, nI 0, nI 0) = some (nI (g_mp G W (g_nu G)).1, nI (g_mp G W (g_nu G)).2) := by
  have q0 := g_bn hG
  have q1 : 2 ^ g_nu G ≤ 2 ^ 24 := Nat.pow_le_pow_right (by decide) q0.2.1
  rw [fg_lp_n (fun i => (nI (g_mp G W i).1, nI (g_mp G W i).2, nI i)) (nI (g_mp G W (g_nu G)).1, nI (g_mp G W (g_nu G)).2) (g_nu G) (by rfl) (fun i hi => ?_) ?_ (fg_fu_lt (by omega))]
  · unfold FX12_leftOf_b16_L5
    simp (disch := omega) only [fg_gd_t, fg_bd_s, fg_b2_s, fg_wr_s, fg_let_s, fn_add, fn_sub, fn_mul, fn_cl, fn_lt, fn_le, fn_eq, fn_eq0, fn_lt0, fn_0le, fn_0lt, fn_le0, fn_in, fn_shl, fn_shr, fa_and, fa_or, bs_xorI, if_true, if_false, hV.2.1, Nat.le_refl]
  · unfold FX12_leftOf_b16_L5
    have b1 := g_tw_le G i
    have p := g_mp_lt hW i
    have d := g_bd hG hi
    by_cases c : g_tw G i = 0
    · have n : ¬ g_mx G (g_mp G W i).1 i := fun z => by have := z.1; omega
      rw [g_mp_n n]
      simp (disch := omega) only [fg_gd_t, fg_bd_s, fg_b2_s, fg_wr_s, fg_let_s, fn_add, fn_sub, fn_mul, fn_cl, fn_lt, fn_le, fn_eq, fn_eq0, fn_lt0, fn_0le, fn_0lt, fn_le0, fn_in, fn_shl, fn_shr, fa_and, fa_or, bs_xorI, if_true, if_false, hV.2.1, if_neg (show ¬ g_nu G ≤ i by omega), tf_isTw hV hg hG (show i < 2 ^ 29 by omega), if_pos c]
    · have t := g_tw_in c
      have v1 := g_bt_c (g_mp G W i).1 i
      have v2 := g_bt_c (g_mp G W i).1 (i + 1)
      have es := g_es_le G (g_to G i) (g_mp G W i).1 (g_nu G)
      have ge : ∀ (o : Prop) [Decidable o], True := fun _ _ => trivial
      simp (disch := omega) only [fg_gd_t, fg_bd_s, fg_b2_s, fg_wr_s, fg_let_s, fn_add, fn_sub, fn_mul, fn_cl, fn_lt, fn_le, fn_eq, fn_eq0, fn_lt0, fn_0le, fn_0lt, fn_le0, fn_in, fn_shl, fn_shr, fa_and, fa_or, bs_xorI, if_true, if_false, hV.2.1, if_neg (show ¬ g_nu G ≤ i by omega), tf_isTw hV hg hG (show i < 2 ^ 29 by omega), if_neg c, g_btd, g_bt_tb, FX12_leftOf_j55_L16_L5, FX12_leftOf_j74_L16_L5, hV.2.2.2.2.2.2.2.1 i hi, tf_endsIn hV hg hG (show g_to G i < 2 ^ 30 by omega) (show (g_mp G W i).1 < 2 ^ 30 by omega), fn_shl3, fn_not]
      by_cases x : g_mx G (g_mp G W i).1 i
      · rw [g_mp_y x]
        have x2 := x.2.1
        have x3 := x.2.2
        cases a : (g_mp G W i).1.testBit i <;> cases b : (g_mp G W i).1.testBit (i + 1)
        · rw [a, b] at x2; exact absurd rfl x2
        · simp only [Bool.false_eq_true, if_false, if_true, if_neg (show ¬ 0 = 1 by decide), if_neg (show ¬ 3 ≤ g_es G (g_to G i) (g_mp G W i).1 (g_nu G) by omega)]
          rfl
        · simp only [Bool.false_eq_true, if_false, if_true, if_neg (show ¬ 1 = 0 by decide), if_neg (show ¬ 3 ≤ g_es G (g_to G i) (g_mp G W i).1 (g_nu G) by omega)]
          rfl
        · rw [a, b] at x2; exact absurd rfl x2
      · rw [g_mp_n x]
        cases a : (g_mp G W i).1.testBit i <;> cases b : (g_mp G W i).1.testBit (i + 1)
        · simp only [Bool.false_eq_true, if_false, if_true]
        · have h3 : 3 ≤ g_es G (g_to G i) (g_mp G W i).1 (g_nu G) := Nat.le_of_not_lt fun z => x ⟨t.1, by rw [a, b]; decide, z⟩
          simp only [Bool.false_eq_true, if_false, if_true, if_neg (show ¬ 0 = 1 by decide), if_pos h3]
        · have h3 : 3 ≤ g_es G (g_to G i) (g_mp G W i).1 (g_nu G) := Nat.le_of_not_lt fun z => x ⟨t.1, by rw [a, b]; decide, z⟩
          simp only [Bool.false_eq_true, if_false, if_true, if_neg (show ¬ 1 = 0 by decide), if_pos h3]
        · simp only [if_true]
theorem tf_left {m g F W : Nat} {mu : bs_Mm} {G : bs_G} (hV : mFv m g G mu) (hg : g < 13) (hG : g_ok G) (hc : g_ch G) (hF : F < 2 ^ g_nu G) (hW : g_wy G F W) : ∃ V, FX12_leftOf m mu (nI g) (nI W) = some (nI V) ∧ g_co G V (g_lc G F) := by
  have q0 := g_bn hG
  unfold FX12_leftOf
  refine Exists.elim (fg_lp_i (body := FX12_leftOf_b5 m mu (nI g) (nI W)) (fun r s => ∃ V, s.1 = nI V ∧ g_wy G F V ∧ ((s.2 = nI 1 ∧ r = 1 + g_ct V (g_nu G)) ∨ (s.2 = nI 0 ∧ r = 0 ∧ ∀ n, n < g_nu G → ¬ g_mx G V n))) (fun t => ∃ V, t = nI V ∧ g_wy G F V ∧ ∀ n, n < g_nu G → ¬ g_mx G V n) (fun r s hI => ?_) fg_fu (1 + g_ct W (g_nu G)) (nI W, nI 1) ⟨W, rfl, hW, Or.inl ⟨rfl, rfl⟩⟩ (fg_fu_lt (by have := g_ct_le W (g_nu G); omega))) (fun t ht => ?_)
  · obtain ⟨lv, mo⟩ := s
    obtain ⟨V, e1, hw, h⟩ := hI
    have e1 : lv = nI V := e1
    subst e1
    rcases h with ⟨e, hr⟩ | ⟨e, hr, hx⟩
    · have e : mo = nI 1 := e
      subst e
      refine Or.inl ⟨(nI (g_mp G V (g_nu G)).1, nI (g_mp G V (g_nu G)).2), if (g_mp G V (g_nu G)).2 = 0 then 0 else 1 + g_ct (g_mp G V (g_nu G)).1 (g_nu G), ?_, ?_, _, rfl, g_wy_mp q0.2.1 hc hw _, ?_⟩
      · unfold FX12_leftOf_b5
        rw [if_neg (show ¬ nI 1 = 0 by decide)]
        show fg_bd (fg_lp _ fg_fu (nI V, nI 0, nI 0)) _ = _
        rw [tf_lpass hV hg hG hw.1]
        rfl
      · have k1 := g_mp_ct q0.2.1 hw.1 (g_nu G) (Nat.le_refl _)
        rcases g_mp_01 G V (g_nu G) with z | z
        · rw [if_pos z]; omega
        · rw [if_neg (by omega)]; omega
      · rcases g_mp_01 G V (g_nu G) with z | z
        · refine Or.inr ⟨by rw [z], if_pos z, ?_⟩
          obtain ⟨z1, z2⟩ := g_mp_z _ z
          rw [z1]
          exact z2
        · exact Or.inl ⟨by rw [z], if_neg (by omega)⟩
    · have e : mo = nI 0 := e
      subst e
      refine Or.inr ⟨nI V, ?_, V, rfl, hw, hx⟩
      unfold FX12_leftOf_b5
      rw [if_pos (show nI 0 = 0 from rfl)]

  · obtain ⟨h1, V, h2, h3, h4⟩ := ht
    refine ⟨V, ?_, g_left_eq hc hF h3.1 h3.2.1 h3.2.2 h4⟩
    rw [h1, h2]
    rfl