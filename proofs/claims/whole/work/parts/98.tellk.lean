/-! ALIKE: the class tells the kinds of a figure -/
def cKT (x kn : Nat) (B L : Nat → Nat) (mu : bs_Mm) : Prop := kn ≤ 48 ∧ bs_iv (mu (x + 30) 5) = nI kn ∧ ∀ i, i < kn → bs_iv (mu (x + 34) i) = al_i (B i) ∧ bs_iv (mu (x + 35) i) = nI (L i) ∧ L i ≤ 720
theorem al_mx {A i : Nat} (h : ¬ A.testBit i = true) : A.testBit i = false := Bool.eq_false_iff.mpr h
theorem sf_shst {x f D : Nat} {mu : bs_Mm} {G : bs_G} (hV : cFv f G mu) (hG : g_ok G) (hD : D < 2 ^ 24) (hc : g_ct D (g_nu G) < g_nu G) : ∃ i, FX4_shortest x mu f (nI D) = some (nI i) ∧ i < g_nu G ∧ D.testBit i = false ∧ ∀ j, j < g_nu G → D.testBit j = false → g_le G i ≤ g_le G j := by
  have q0 := g_bn hG
  unfold FX4_shortest
  refine Exists.elim (fg_lp_i (body := FX4_shortest_b8 x f mu (nI D)) (fun r s => ∃ n i l, s.1 = nI i ∧ s.2.1 = nI l ∧ s.2.2 = nI n ∧ n + r = g_nu G ∧ i < 24 ∧ l ≤ 1000000 ∧ ((l = 1000000 ∧ ∀ j, j < n → D.testBit j = true) ∨ (i < n ∧ D.testBit i = false ∧ l = g_le G i ∧ ∀ j, j < n → D.testBit j = false → l ≤ g_le G j))) (fun t => ∃ i, t = nI i ∧ i < g_nu G ∧ D.testBit i = false ∧ ∀ j, j < g_nu G → D.testBit j = false → g_le G i ≤ g_le G j) (fun r s hI => ?_) fg_fu (g_nu G) (nI 0, (1000000 : Int32), nI 0) ⟨0, 0, 1000000, rfl, rfl, rfl, by omega, by decide, Nat.le_refl _, Or.inl ⟨rfl, fun j hj => by omega⟩⟩ (fg_fu_lt (by omega))) (fun t ht => ?_)
  · obtain ⟨iv, lv, nv⟩ := s
    obtain ⟨n, i, l, e1, e2, e3, hr, hi, hl, hh⟩ := hI
    have e1 : iv = nI i := e1
    have e2 : lv = nI l := e2
    have e3 : nv = nI n := e3
    subst e1
    subst e2
    subst e3
    by_cases z : g_nu G ≤ n
    · have e : n = g_nu G := by omega
      subst e
      refine Or.inr ⟨nI i, ?_, ?_⟩
      · unfold FX4_shortest_b8
        simp (disch := omega) only [fg_gd_t, fg_bd_s, fg_b2_s, fg_wr_s, fg_let_s, fn_add, fn_sub, fn_mul, fn_cl, fn_lt, fn_le, fn_eq, fn_eq0, fn_lt0, fn_0le, fn_0lt, fn_le0, fn_in, fn_shl, fn_shr, fa_and, fa_or, bs_xorI, if_true, if_false, hV.2.1, Nat.le_refl]
      · rcases hh with ⟨-, h⟩ | ⟨h1, h2, h3, h4⟩
        · exfalso
          have : ∀ m, m ≤ g_nu G → g_ct D m = m := by
            intro m
            induction m with
            | zero => intro _; rfl
            | succ m ih =>
              intro hm
              have a := ih (by omega)
              show g_ct D m + g_if (D.testBit m = true) = m + 1
              rw [a, g_if1 (h m (by omega))]
          have := this _ (Nat.le_refl _)
          omega
        · exact ⟨i, rfl, h1, h2, fun j hj hd => by rw [← h3]; exact h4 j hj hd⟩
    · have b := g_bd hG (show n < g_nu G by omega)
      cases c : D.testBit n with
      | true =>
        have b1 : ¬ nI (D &&& 2 ^ n) = (0 : Int32) := by rw [fn_bit0 (by omega), c]; decide
        refine Or.inl ⟨(nI i, nI l, nI (n + 1)), r - 1, ?_, by omega, n + 1, i, l, rfl, rfl, rfl, by omega, hi, hl, ?_⟩
        · unfold FX4_shortest_b8
          simp (disch := omega) only [fg_gd_t, fg_bd_s, fg_b2_s, fg_wr_s, fg_let_s, fn_add, fn_sub, fn_mul, fn_cl, fn_lt, fn_le, fn_eq, fn_eq0, fn_lt0, fn_0le, fn_0lt, fn_le0, fn_in, fn_shl, fn_shr, fa_and, fa_or, bs_xorI, if_true, if_false, hV.2.1, if_neg z, if_neg b1]
        · rcases hh with ⟨h1, h2⟩ | ⟨h1, h2, h3, h4⟩
          · refine Or.inl ⟨h1, fun j hj => ?_⟩
            by_cases e : j = n
            · rw [e]; exact c
            · exact h2 j (by omega)
          · refine Or.inr ⟨by omega, h2, h3, fun j hj hd => ?_⟩
            by_cases e : j = n
            · rw [e, c] at hd
              cases hd
            · exact h4 j (by omega) hd
      | false =>
        have b1 : nI (D &&& 2 ^ n) = (0 : Int32) := by rw [fn_bit0 (by omega)]; exact c
        by_cases d : l ≤ g_le G n
        · refine Or.inl ⟨(nI i, nI l, nI (n + 1)), r - 1, ?_, by omega, n + 1, i, l, rfl, rfl, rfl, by omega, hi, hl, ?_⟩
          · unfold FX4_shortest_b8
            simp (disch := omega) only [fg_gd_t, fg_bd_s, fg_b2_s, fg_wr_s, fg_let_s, fn_add, fn_sub, fn_mul, fn_cl, fn_lt, fn_le, fn_eq, fn_eq0, fn_lt0, fn_0le, fn_0lt, fn_le0, fn_in, fn_shl, fn_shr, fa_and, fa_or, bs_xorI, if_true, if_false, hV.2.1, if_neg z, if_pos b1, hV.2.2.2.2.2.1 n (by omega), if_pos d]
          · rcases hh with ⟨h1, h2⟩ | ⟨h1, h2, h3, h4⟩
            · omega
            · refine Or.inr ⟨by omega, h2, h3, fun j hj hd => ?_⟩
              by_cases e : j = n
              · rw [e]; exact d
              · exact h4 j (by omega) hd
        · refine Or.inl ⟨(nI n, nI (g_le G n), nI (n + 1)), r - 1, ?_, by omega, n + 1, n, g_le G n, rfl, rfl, rfl, by omega, by omega, by omega, Or.inr ⟨by omega, c, rfl, fun j hj hd => ?_⟩⟩
          · unfold FX4_shortest_b8
            simp (disch := omega) only [fg_gd_t, fg_bd_s, fg_b2_s, fg_wr_s, fg_let_s, fn_add, fn_sub, fn_mul, fn_cl, fn_lt, fn_le, fn_eq, fn_eq0, fn_lt0, fn_0le, fn_0lt, fn_le0, fn_in, fn_shl, fn_shr, fa_and, fa_or, bs_xorI, if_true, if_false, hV.2.1, if_neg z, if_pos b1, hV.2.2.2.2.2.1 n (by omega), if_neg d]
          · by_cases e : j = n
            · rw [e]; exact Nat.le_refl _
            · rcases hh with ⟨h1, h2⟩ | ⟨h1, h2, h3, h4⟩
              · rw [h2 j (by omega)] at hd
                cases hd
              · have := h4 j (by omega) hd
                omega
  · obtain ⟨t1, i, t2, t3⟩ := ht
    subst t2
    refine ⟨i, ?_, t3⟩
    rw [t1]
    rfl
theorem sf_kindB {x kn b l : Nat} {B L : Nat → Nat} {C : Nat → Nat → Nat} {mu : bs_Mm} (hK : al_K kn B L C) (hT : cKT x kn B L mu) (hb : b ≤ kn) (hl : ∀ j, b = j + 1 → L j ≤ l) (hk : kn < 48) (hl2 : l ≤ 720) : ∃ k mu' kn' B' L' C', FX4_kindBehind x mu (al_i b) (nI l) = some (nI k, mu') ∧ al_K kn' B' L' C' ∧ cKT x kn' B' L' mu' ∧ kn ≤ kn' ∧ kn' ≤ kn + 1 ∧ k < kn' ∧ L' k = l ∧ (∀ z, C' (k + 1) z = C b z + g_if (l = z)) ∧ (∀ j, j ≤ kn → ∀ z, C' j z = C j z) ∧ (∀ j, j < kn → L' j = L j) ∧ (∀ a, a ≠ x + 30 → a ≠ x + 34 → a ≠ x + 35 → mu' a = mu a) ∧ ∀ j, j ≠ 5 → mu' (x + 30) j = mu (x + 30) j := by
  obtain ⟨T1, T2, T3⟩ := hT
  have B1 := hK.2.1
  unfold FX4_kindBehind
  refine Exists.elim (fg_lp_i (body := FX4_kindBehind_b2 x mu (al_i b) (nI l)) (fun r s => ∃ i, s = nI i ∧ i + r = kn ∧ ∀ j, j < i → ¬ (B j = b ∧ L j = l)) (fun t => (t = .inl () ∧ ∀ j, j < kn → ¬ (B j = b ∧ L j = l)) ∨ ∃ i, t = .inr (nI i, mu) ∧ i < kn ∧ B i = b ∧ L i = l) (fun r s hI => ?_) fg_fu kn (nI 0) ⟨0, rfl, by omega, fun j hj => by omega⟩ (fg_fu_lt (by omega))) (fun t ht => ?_)
  · obtain ⟨i, e, hr, hh⟩ := hI
    subst e
    by_cases z : kn ≤ i
    · have e : i = kn := by omega
      subst e
      refine Or.inr ⟨.inl (), ?_, Or.inl ⟨rfl, hh⟩⟩
      unfold FX4_kindBehind_b2
      simp (disch := omega) only [fg_gd_t, fg_bd_s, fg_b2_s, fg_wr_s, fg_let_s, fn_add, fn_sub, fn_mul, fn_cl, fn_lt, fn_le, fn_eq, fn_eq0, fn_lt0, fn_0le, fn_0lt, fn_le0, fn_in, fn_shl, fn_shr, fa_and, fa_or, bs_xorI, if_true, if_false, T2, Nat.le_refl]
    · obtain ⟨r1, r2, r3⟩ := T3 i (by omega)
      have bi := B1 i (by omega)
      by_cases c : B i = b
      · by_cases d : L i = l
        · refine Or.inr ⟨.inr (nI i, mu), ?_, Or.inr ⟨i, rfl, by omega, c, d⟩⟩
          unfold FX4_kindBehind_b2
          simp (disch := omega) only [fg_gd_t, fg_bd_s, fg_b2_s, fg_wr_s, fg_let_s, fn_add, fn_sub, fn_mul, fn_cl, fn_lt, fn_le, fn_eq, fn_eq0, fn_lt0, fn_0le, fn_0lt, fn_le0, fn_in, fn_shl, fn_shr, fa_and, fa_or, bs_xorI, if_true, if_false, T2, if_neg z, r1, r2, al_i_eq, if_pos c, if_pos d]
        · refine Or.inl ⟨nI (i + 1), r - 1, ?_, by omega, i + 1, rfl, by omega, fun j hj => ?_⟩
          · unfold FX4_kindBehind_b2
            simp (disch := omega) only [fg_gd_t, fg_bd_s, fg_b2_s, fg_wr_s, fg_let_s, fn_add, fn_sub, fn_mul, fn_cl, fn_lt, fn_le, fn_eq, fn_eq0, fn_lt0, fn_0le, fn_0lt, fn_le0, fn_in, fn_shl, fn_shr, fa_and, fa_or, bs_xorI, if_true, if_false, T2, if_neg z, r1, r2, al_i_eq, if_pos c, if_neg d]
          · by_cases e : j = i
            · rw [e]; exact fun h => d h.2
            · exact hh j (by omega)
      · refine Or.inl ⟨nI (i + 1), r - 1, ?_, by omega, i + 1, rfl, by omega, fun j hj => ?_⟩
        · unfold FX4_kindBehind_b2
          simp (disch := omega) only [fg_gd_t, fg_bd_s, fg_b2_s, fg_wr_s, fg_let_s, fn_add, fn_sub, fn_mul, fn_cl, fn_lt, fn_le, fn_eq, fn_eq0, fn_lt0, fn_0le, fn_0lt, fn_le0, fn_in, fn_shl, fn_shr, fa_and, fa_or, bs_xorI, if_true, if_false, T2, if_neg z, r1, al_i_eq, if_neg c]
        · by_cases e : j = i
          · rw [e]; exact fun h => c h.1
          · exact hh j (by omega)
  · obtain ⟨t1, t2⟩ := ht
    rw [t1]
    rcases t2 with ⟨t3, t4⟩ | ⟨i, t3, t4, t5, t6⟩
    · subst t3
      rw [fg_l3_l]
      refine ⟨kn, bs_up (bs_up (bs_up mu (x + 34) kn (.int (al_i b))) (x + 35) kn (.int (nI l))) (x + 30) 5 (.int (nI (kn + 1))), kn + 1, bs_fn B kn b, bs_fn L kn l, _, ?_, al_K_up hK hb hl t4, ⟨by omega, ?_, fun i hi => ?_⟩, by omega, Nat.le_refl _, by omega, bs_fn_s, fun z => ?_, fun j hj z => ?_, fun j hj => bs_fn_n (by omega), fun a a1 a2 a3 => by rw [bs_up_f a1, bs_up_f a3, bs_up_f a2], fun j hj => ?_⟩
      · have f1 : ∀ v, bs_up mu (x + 34) kn v (x + 30) = mu (x + 30) := fun v => bs_up_f (by omega)
        have f2 : ∀ v w, bs_up (bs_up mu (x + 34) kn v) (x + 35) kn w (x + 30) = mu (x + 30) := fun v w => by rw [bs_up_f (by omega), bs_up_f (by omega)]
        simp (disch := omega) only [fg_gd_t, fg_bd_s, fg_b2_s, fg_wr_s, fg_let_s, fn_add, fn_sub, fn_mul, fn_cl, fn_lt, fn_le, fn_eq, fn_eq0, fn_lt0, fn_0le, fn_0lt, fn_le0, fn_in, fn_shl, fn_shr, fa_and, fa_or, bs_xorI, if_true, if_false, T2, if_neg (show ¬ 48 ≤ kn by omega), f1, f2, bs_up_eq, bs_iv_i]
        rfl
      · rw [bs_up_eq]; rfl
      · have f34 : ∀ v w z, bs_up (bs_up (bs_up mu (x + 34) kn v) (x + 35) kn w) (x + 30) 5 z (x + 34) i = bs_up mu (x + 34) kn v (x + 34) i := fun v w z => by rw [bs_up_f (b := x + 34) (by omega), bs_up_f (b := x + 34) (by omega)]
        have f35 : ∀ v w z, bs_up (bs_up (bs_up mu (x + 34) kn v) (x + 35) kn w) (x + 30) 5 z (x + 35) i = bs_up (bs_up mu (x + 34) kn v) (x + 35) kn w (x + 35) i := fun v w z => by rw [bs_up_f (b := x + 35) (by omega)]
        rw [f34, f35]
        by_cases e : i = kn
        · subst e
          rw [bs_fn_s, bs_fn_s, bs_up_eq, bs_up_eq]
          exact ⟨rfl, rfl, hl2⟩
        · rw [bs_fn_n e, bs_fn_n e, bs_up_j e, bs_up_j e, bs_up_f (b := x + 35) (by omega)]
          exact T3 i (by omega)
      · show (if kn + 1 = kn + 1 then _ else _) = _
        rw [if_pos rfl]
      · show (if j = kn + 1 then _ else _) = _
        rw [if_neg (by omega)]
      · rw [bs_up_j hj, bs_up_f (by omega), bs_up_f (by omega)]
    · subst t3
      rw [fg_l3_r]
      refine ⟨i, mu, kn, B, L, C, rfl, hK, ⟨T1, T2, T3⟩, Nat.le_refl _, by omega, t4, t6, fun z => ?_, fun _ _ _ => rfl, fun _ _ => rfl, fun _ _ _ _ => rfl, fun _ _ => rfl⟩
      rw [hK.2.2.1 i t4 z, t5, t6]
/-- how many of a length lie between two points among those done -/
def al_d (G : bs_G) (D p q l : Nat) : Nat → Nat := g_sm (fun i => g_if (D.testBit i = true ∧ al_q G p q i ∧ g_le G i = l))
theorem al_d_sy (G : bs_G) (D p q l n : Nat) : al_d G D p q l n = al_d G D q p l n := g_sm_cg n fun i _ => g_if_c ⟨fun h => ⟨h.1, Or.symm h.2.1, h.2.2⟩, fun h => ⟨h.1, Or.symm h.2.1, h.2.2⟩⟩
theorem al_d_0 (G : bs_G) (p q l n : Nat) : al_d G 0 p q l n = 0 := g_sm_z n fun i _ => g_if0 (fun h => by have := h.1; rw [Nat.zero_testBit] at this; cases this)
theorem al_d_up {G : bs_G} {D i : Nat} (h : D.testBit i = false) (p q l : Nat) : ∀ n, al_d G (D ||| 2 ^ i) p q l n = al_d G D p q l n + (if i < n then g_if (al_q G p q i ∧ g_le G i = l) else 0) := by
  intro n
  induction n with
  | zero => rfl
  | succ n ih =>
    show al_d G (D ||| 2 ^ i) p q l n + g_if ((D ||| 2 ^ i).testBit n = true ∧ al_q G p q n ∧ g_le G n = l) = al_d G D p q l n + g_if (D.testBit n = true ∧ al_q G p q n ∧ g_le G n = l) + _
    rw [ih]
    by_cases e : i = n
    · subst e
      rw [if_neg (Nat.lt_irrefl _), if_pos (Nat.lt_succ_self _), g_if0 (show ¬ (D.testBit i = true ∧ al_q G p q i ∧ g_le G i = l) from fun z => by rw [h] at z; exact absurd z.1 (by decide)), g_if_c (p := (D ||| 2 ^ i).testBit i = true ∧ al_q G p q i ∧ g_le G i = l) (q := al_q G p q i ∧ g_le G i = l) ⟨fun z => z.2, fun z => ⟨by rw [g_tb_or, decide_eq_true rfl, Bool.or_true], z⟩⟩]
    · have t : (D ||| 2 ^ i).testBit n = D.testBit n := by rw [g_tb_or, decide_eq_false e, Bool.or_false]
      rw [t]
      by_cases c : i < n
      · rw [if_pos c, if_pos (by omega)]
        omega
      · rw [if_neg c, if_neg (by omega)]
        omega
theorem al_d_all {G : bs_G} {D : Nat} (h : ∀ i, i < g_nu G → D.testBit i = true) (p q l : Nat) : al_d G D p q l (g_nu G) = al_b G p q l (g_nu G) := g_sm_cg _ fun i hi => g_if_c ⟨fun z => z.2, fun z => ⟨h i hi, z⟩⟩
theorem al_ct_or {D i n : Nat} (h : D.testBit i = false) (hi : i < n) : g_ct (D ||| 2 ^ i) n = g_ct D n + 1 := by
  have : ∀ m, g_ct (D ||| 2 ^ i) m = g_ct D m + (if i < m then 1 else 0) := by
    intro m
    induction m with
    | zero => rfl
    | succ m ih =>
      show g_ct (D ||| 2 ^ i) m + g_if ((D ||| 2 ^ i).testBit m = true) = g_ct D m + g_if (D.testBit m = true) + _
      rw [ih]
      by_cases e : i = m
      · subst e
        rw [if_neg (Nat.lt_irrefl _), if_pos (Nat.lt_succ_self _), g_if0 (p := D.testBit i = true) (by rw [h]; decide), g_if1 (p := (D ||| 2 ^ i).testBit i = true) (by rw [g_tb_or, decide_eq_true rfl, Bool.or_true])]
      · have t : (D ||| 2 ^ i).testBit m = D.testBit m := by rw [g_tb_or, decide_eq_false e, Bool.or_false]
        rw [t]
        by_cases c : i < m
        · rw [if_pos c, if_pos (by omega)]
          omega
        · rw [if_neg c, if_neg (by omega)]
          omega
  rw [this, if_pos hi]
theorem al_ct_all {D n : Nat} (h : g_ct D n = n) : ∀ i, i < n → D.testBit i = true := by
  intro i hi
  have o := al_one (h := fun i => g_if (D.testBit i = true)) n (fun _ _ => g_if_le _) h i hi
  by_cases c : D.testBit i = true
  · exact c
  · have o : g_if (D.testBit i = true) = 1 := o
    rw [g_if0 c] at o
    cases o
def al_row (mu : bs_Mm) (r : Nat) (cd : Nat → Nat → Nat) : Prop := ∀ p q, p < 8 → q < 8 → bs_iv (mu r (p * 8 + q)) = al_i (cd p q)
theorem al_row_up {mu : bs_Mm} {r a b k : Nat} {cd : Nat → Nat → Nat} (h : al_row mu r cd) (ha : a < 8) (hb : b < 8) : al_row (bs_up (bs_up mu r (a * 8 + b) (.int (nI k))) r (b * 8 + a) (.int (nI k))) r (fun p q => if (a = p ∧ b = q) ∨ (a = q ∧ b = p) then k + 1 else cd p q) := by
  intro p q hp hq
  show _ = al_i (if (a = p ∧ b = q) ∨ (a = q ∧ b = p) then k + 1 else cd p q)
  by_cases c1 : a = q ∧ b = p
  · rw [if_pos (Or.inr c1), c1.1, c1.2, bs_up_eq, al_i_s]
    rfl
  · rw [bs_up_j (by omega)]
    by_cases c2 : a = p ∧ b = q
    · rw [if_pos (Or.inl c2), c2.1, c2.2, bs_up_eq, al_i_s]
      rfl
    · rw [if_neg (fun z => z.elim c2 c1), bs_up_j (by omega)]
      exact h p q hp hq
/-- what stands while the kinds of a figure are told -/
def al_st (x f r kn0 kn : Nat) (G : bs_G) (C0 : Nat → Nat → Nat) (mu0 mu : bs_Mm) (D : Nat) : Prop := ∃ B L C cd, al_K kn B L C ∧ cKT x kn B L mu ∧ (∀ j, j ≤ kn0 → ∀ z, C j z = C0 j z) ∧ (∀ a, a ≠ x + 30 → a ≠ x + 34 → a ≠ x + 35 → a ≠ r → mu a = mu0 a) ∧ (∀ j, j ≠ 5 → mu (x + 30) j = mu0 (x + 30) j) ∧ al_row mu r cd ∧ ∀ p q, p < 8 → q < 8 → cd p q ≤ kn ∧ (∀ z, C (cd p q) z = al_d G D p q z (g_nu G)) ∧ ∀ j, cd p q = j + 1 → ∀ i, i < g_nu G → D.testBit i = false → L j ≤ g_le G i
set_option maxHeartbeats 1000000 in
theorem sf_tellK {x f r kn : Nat} {G : bs_G} {B L : Nat → Nat} {C : Nat → Nat → Nat} {mu : bs_Mm} (hx : x + 63 ≤ f) (hr : r = x + 32 ∨ r = x + 33) (hV : cFv f G mu) (hG : g_ok G) (hn : g_np G ≤ 8) (hK : al_K kn B L C) (hT : cKT x kn B L mu) (hk : kn ≤ 24) : ∃ mu' kn' B' L' C' cd, FX4_tellKinds x mu f r = some mu' ∧ al_K kn' B' L' C' ∧ cKT x kn' B' L' mu' ∧ kn ≤ kn' ∧ kn' ≤ kn + g_nu G ∧ (∀ j, j ≤ kn → ∀ z, C' j z = C j z) ∧ (∀ a, a ≠ x + 30 → a ≠ x + 34 → a ≠ x + 35 → a ≠ r → mu' a = mu a) ∧ (∀ j, j ≠ 5 → mu' (x + 30) j = mu (x + 30) j) ∧ al_row mu' r cd ∧ ∀ p q, p < 8 → q < 8 → cd p q ≤ kn' ∧ ∀ z, C' (cd p q) z = al_b G p q z (g_nu G) := by
  have q0 := g_bn hG
  have h0 : al_st x f r kn kn G C mu (bs_fi mu r 64 (.int (-1))) 0 := by
    have ff : ∀ a, a ≠ r → bs_fi mu r 64 (.int (-1)) a = mu a := fun a ha => bs_fi_f ha
    refine ⟨B, L, C, fun _ _ => 0, hK, ?_, fun _ _ _ => rfl, fun a _ _ _ a4 => ff a a4, fun j _ => by rw [ff _ (by omega)], fun p q hp hq => ?_, fun p q _ _ => ⟨Nat.zero_le _, fun z => by rw [al_d_0]; exact hK.1 z, fun j hj => by have hj : 0 = j + 1 := hj; omega⟩⟩
    · obtain ⟨T1, T2, T3⟩ := hT
      refine ⟨T1, by rw [ff _ (by omega)]; exact T2, fun i hi => ?_⟩
      rw [ff _ (by omega), ff _ (by omega)]
      exact T3 i hi
    · show bs_iv (bs_fi mu r 64 (.int (-1)) r (p * 8 + q)) = -1
      have : bs_fi mu r 64 (.int (-1)) r (p * 8 + q) = .int (-1) := by simp [bs_fi]; omega
      rw [this]
      rfl
  unfold FX4_tellKinds
  rw [fg_wf_s]
  refine Exists.elim (fg_lp_i (body := FX4_tellKinds_b10 x f r) (fun n s => ∃ D t kn', s.1 = nI D ∧ s.2.1 = nI t ∧ t + n = g_nu G ∧ D < 2 ^ g_nu G ∧ g_ct D (g_nu G) = t ∧ kn ≤ kn' ∧ kn' ≤ kn + t ∧ al_st x f r kn kn' G C mu s.2.2 D) (fun t => ∃ D kn', (∀ i, i < g_nu G → D.testBit i = true) ∧ kn ≤ kn' ∧ kn' ≤ kn + g_nu G ∧ al_st x f r kn kn' G C mu t D) (fun n s hI => ?_) fg_fu (g_nu G) (nI 0, nI 0, bs_fi mu r 64 (.int (-1))) ⟨0, 0, kn, rfl, rfl, by omega, Nat.two_pow_pos _, g_sm_z _ (fun i _ => g_if0 (by rw [Nat.zero_testBit]; decide)), Nat.le_refl _, Nat.le_refl _, h0⟩ (fg_fu_lt (by omega))) (fun t ht => ?_)
  · obtain ⟨dv, tv, mu1⟩ := s
    obtain ⟨D, t, kn1, e1, e2, hr1, hD, hct, k1, k2, hS⟩ := hI
    have e1 : dv = nI D := e1
    have e2 : tv = nI t := e2
    subst e1
    subst e2
    have hS : al_st x f r kn kn1 G C mu mu1 D := hS
    obtain ⟨B1, L1, C1, cd, s1, s2, s3, s4, s5, s6, s7⟩ := hS
    have hV1 : cFv f G mu1 := cFv_of hV (fun k _ => s4 _ (by omega) (by omega) (by omega) (by omega))
    have p24 : 2 ^ g_nu G ≤ 2 ^ 24 := Nat.pow_le_pow_right (by decide) q0.2.1
    by_cases z : g_nu G ≤ t
    · have e : t = g_nu G := by omega
      subst e
      refine Or.inr ⟨mu1, ?_, D, kn1, al_ct_all hct, k1, k2, B1, L1, C1, cd, s1, s2, s3, s4, s5, s6, s7⟩
      unfold FX4_tellKinds_b10
      simp (disch := omega) only [fg_gd_t, fg_bd_s, fg_b2_s, fg_wr_s, fg_let_s, fn_add, fn_sub, fn_mul, fn_cl, fn_lt, fn_le, fn_eq, fn_eq0, fn_lt0, fn_0le, fn_0lt, fn_le0, fn_in, fn_shl, fn_shr, fa_and, fa_or, bs_xorI, if_true, if_false, hV1.2.1, Nat.le_refl]
    · obtain ⟨i, i1, i2, i3, i4⟩ := sf_shst (x := x) hV1 hG (Nat.lt_of_lt_of_le hD p24) (by omega)
      have b := g_bd hG i2
      have ha : g_fr G i < 8 := by omega
      have hb : g_to G i < 8 := by omega
      obtain ⟨c1, c2, c3⟩ := s7 _ _ ha hb
      obtain ⟨k, mu2, kn2, B2, L2, C2, u1, u2, u3, u4, u5, u6, u7, u8, u9, u10, u11, u12⟩ := sf_kindB (x := x) s1 s2 c1 (fun j hj => c3 j hj i i2 i3) (by omega) b.2.2.2.1
      have rd := s6 _ _ ha hb
      have rr : ∀ a, a ≠ x + 30 → a ≠ x + 34 → a ≠ x + 35 → a ≠ r → bs_up (bs_up mu2 r (g_fr G i * 8 + g_to G i) (.int (nI k))) r (g_to G i * 8 + g_fr G i) (.int (nI k)) a = mu a := fun a a1 a2 a3 a4 => by rw [bs_up_f a4, bs_up_f a4, u11 a a1 a2 a3]; exact s4 a a1 a2 a3 a4
      have row2 : al_row mu2 r cd := fun p q hp hq => by rw [u11 r (by omega) (by omega) (by omega)]; exact s6 p q hp hq
      have f5 : bs_up (bs_up mu2 r (g_fr G i * 8 + g_to G i) (.int (nI k))) r (g_to G i * 8 + g_fr G i) (.int (nI k)) (x + 30) = mu2 (x + 30) := by rw [bs_up_f (by omega), bs_up_f (by omega)]
      refine Or.inl ⟨(nI (D ||| 2 ^ i), nI (t + 1), bs_up (bs_up mu2 r (g_fr G i * 8 + g_to G i) (.int (nI k))) r (g_to G i * 8 + g_fr G i) (.int (nI k))), n - 1, ?_, by omega, D ||| 2 ^ i, t + 1, kn2, rfl, rfl, by omega, Nat.or_lt_two_pow hD (Nat.pow_lt_pow_right (by decide) i2), by rw [al_ct_or i3 i2, hct], by omega, by omega, B2, L2, C2, _, u2, ?_, fun j hj z => by rw [u9 j (by omega)]; exact s3 j hj z, rr, fun j hj => by show bs_up _ _ _ _ (x + 30) j = _; rw [f5, u12 j hj]; exact s5 j hj, al_row_up row2 ha hb, fun p q hp hq => ?_⟩
      · unfold FX4_tellKinds_b10
        simp (disch := omega) only [fg_gd_t, fg_bd_s, fg_b2_s, fg_wr_s, fg_let_s, fn_add, fn_sub, fn_mul, fn_cl, fn_lt, fn_le, fn_eq, fn_eq0, fn_lt0, fn_0le, fn_0lt, fn_le0, fn_in, fn_shl, fn_shr, fa_and, fa_or, bs_xorI, if_true, if_false, hV1.2.1, if_neg z, i1, hV1.2.2.2.2.2.1 i i2, hV1.2.2.2.2.2.2.1 i i2, hV1.2.2.2.2.2.2.2.1 i i2, rd, u1]
      · obtain ⟨T1, T2, T3⟩ := u3
        refine ⟨T1, by show bs_iv (bs_up _ _ _ _ (x + 30) 5) = _; rw [f5]; exact T2, fun j hj => ?_⟩
        have g1 : bs_up (bs_up mu2 r (g_fr G i * 8 + g_to G i) (.int (nI k))) r (g_to G i * 8 + g_fr G i) (.int (nI k)) (x + 34) = mu2 (x + 34) := by rw [bs_up_f (by omega), bs_up_f (by omega)]
        have g2 : bs_up (bs_up mu2 r (g_fr G i * 8 + g_to G i) (.int (nI k))) r (g_to G i * 8 + g_fr G i) (.int (nI k)) (x + 35) = mu2 (x + 35) := by rw [bs_up_f (by omega), bs_up_f (by omega)]
        show bs_iv (bs_up _ _ _ _ (x + 34) j) = _ ∧ bs_iv (bs_up _ _ _ _ (x + 35) j) = _ ∧ _
        rw [g1, g2]
        exact T3 j hj
      · obtain ⟨w1, w2, w3⟩ := s7 p q hp hq
        show (if al_q G p q i then k + 1 else cd p q) ≤ kn2 ∧ (∀ z, C2 (if al_q G p q i then k + 1 else cd p q) z = al_d G (D ||| 2 ^ i) p q z (g_nu G)) ∧ ∀ j, (if al_q G p q i then k + 1 else cd p q) = j + 1 → ∀ o, o < g_nu G → (D ||| 2 ^ i).testBit o = false → L2 j ≤ g_le G o
        have od : ∀ o, (D ||| 2 ^ i).testBit o = false → D.testBit o = false := by
          intro o ho
          rw [g_tb_or] at ho
          revert ho
          cases D.testBit o <;> simp
        by_cases c : al_q G p q i
        · rw [if_pos c]
          refine ⟨by omega, fun z => ?_, fun j hj o ho ho2 => ?_⟩
          · rw [u8 z, c2 z, al_d_up i3, if_pos i2, g_if_c (p := g_le G i = z) (q := al_q G p q i ∧ g_le G i = z) ⟨fun h => ⟨c, h⟩, fun h => h.2⟩]
            rcases c with ⟨d1, d2⟩ | ⟨d1, d2⟩
            · have e : al_d G D (g_fr G i) (g_to G i) z (g_nu G) = al_d G D p q z (g_nu G) := by rw [d1, d2]
              rw [e]
            · have e : al_d G D (g_fr G i) (g_to G i) z (g_nu G) = al_d G D p q z (g_nu G) := by rw [d1, d2, al_d_sy]
              rw [e]
          · have e : k = j := by omega
            rw [← e, u7]
            exact i4 o ho (od o ho2)
        · rw [if_neg c]
          refine ⟨by omega, fun z => ?_, fun j hj o ho ho2 => ?_⟩
          · rw [u9 _ w1 z, w2 z, al_d_up i3, if_pos i2, g_if0 (fun h => c h.1)]
            rfl
          · rw [u10 j (by omega)]
            exact w3 j hj o ho (od o ho2)
  · obtain ⟨t1, D, kn1, hD, k1, k2, B1, L1, C1, cd, s1, s2, s3, s4, s5, s6, s7⟩ := ht
    refine ⟨t, kn1, B1, L1, C1, cd, by rw [t1]; rfl, s1, s2, k1, k2, s3, s4, s5, s6, fun p q hp hq => ⟨(s7 p q hp hq).1, fun z => ?_⟩⟩
    rw [(s7 p q hp hq).2.1 z, al_d_all hD]
