/-! MADE: the model's table of fewest ways -/
theorem g_mi_x {S T : Nat} (hS : S < 2 ^ 24) (h : g_sub T S) : S &&& (T ^^^ 4294967295) = S ^^^ T := by
  apply Nat.eq_of_testBit_eq
  intro i
  rw [g_dif h]
  exact g_mi_tb hS i
/-- what a loop over the parts keeps -/
def g_mn (W : Nat → Prop) (c b S : Nat) (A : Nat → Nat) (t l : Nat) : Prop := l ≤ c ∧ (l = c ∨ ∃ T, T.testBit b = true ∧ g_sub T S ∧ W T ∧ l = 1 + A (S ^^^ T) ∧ l < c) ∧ ∀ T, T.testBit b = true → g_sub T S → W T → t < T → l ≤ 1 + A (S ^^^ T)
theorem g_mn_skip {W : Nat → Prop} {c b S t l : Nat} {A : Nat → Nat} (h : g_mn W c b S A t l) (hs : g_sub t S) (hno : ¬ (t.testBit b = true ∧ W t)) : g_mn W c b S A ((t - 1) &&& S) l := by
  refine ⟨h.1, h.2.1, fun T t1 t2 t3 t4 => ?_⟩
  by_cases q : T < t
  · have := g_nxt (t + 1) S t T (Nat.lt_of_lt_of_le (Nat.lt_succ_self t) (Nat.le_of_lt Nat.lt_two_pow_self)) hs t2 q
    omega
  · by_cases e : T = t
    · subst e
      exact absurd ⟨t1, t3⟩ hno
    · exact h.2.2 T t1 t2 t3 (by omega)
theorem g_mn_take {W : Nat → Prop} {c b S t l : Nat} {A : Nat → Nat} (h : g_mn W c b S A t l) (hs : g_sub t S) (hb : t.testBit b = true) (hw : W t) : g_mn W c b S A ((t - 1) &&& S) (if 1 + A (S ^^^ t) < l then 1 + A (S ^^^ t) else l) := by
  have h1 := h.1
  refine ⟨?_, ?_, fun T t1 t2 t3 t4 => ?_⟩
  · split <;> omega
  · by_cases q : 1 + A (S ^^^ t) < l
    · rw [if_pos q]
      exact Or.inr ⟨t, hb, hs, hw, rfl, by omega⟩
    · rw [if_neg q]
      exact h.2.1
  · by_cases q : T < t
    · have := g_nxt (t + 1) S t T (Nat.lt_of_lt_of_le (Nat.lt_succ_self t) (Nat.le_of_lt Nat.lt_two_pow_self)) hs t2 q
      omega
    · by_cases e : T = t
      · subst e
        split <;> omega
      · have := h.2.2 T t1 t2 t3 (by omega)
        split <;> omega
theorem g_mn_end {W : Nat → Prop} {c b S l n : Nat} {A : Nat → Nat} (h : g_mn W c b S A 0 l) (hS : S < 2 ^ n) (hn : n < c) (hb : S.testBit b = true) (hlow : ∀ j, j < b → S.testBit j = false) (hA : ∀ R, R < S → g_fw W c R (A R)) : g_fw W c S l :=
  g_fw_st hS hn hb hlow hA h.2.1 fun T t1 t2 t3 => h.2.2 T t1 t2 t3 (Nat.pos_of_ne_zero (g_nz0 t1))
theorem tf_inner {m S b : Nat} {W : Nat → Prop} {A : Nat → Nat} {mu : bs_Mm} (hS : S < 1024) (hb : S.testBit b = true) (hAr : ∀ R, R < S → bs_iv (mu (m + 25) R) = nI (A R)) (hA : ∀ R, R < S → A R ≤ 1000000) (hB : ∀ T, T ≤ S → T ≠ 0 → (bs_iv (mu (m + 26) T) = nI 1 ∧ W T) ∨ (bs_iv (mu (m + 26) T) = nI 0 ∧ ¬ W T)) (hc : bs_iv (mu (m + 25) S) = nI 1000000) (l1 l2 l3 : Int32) : ∃ mu', fg_lp (FX12_findFewest_b59_L16 m l1 l2 l3 (nI S) (nI (2 ^ b))) fg_fu (nI S, mu) = some mu' ∧ (∀ a, a ≠ m + 25 → mu' a = mu a) ∧ (∀ j, j ≠ S → mu' (m + 25) j = mu (m + 25) j) ∧ ∃ l, bs_iv (mu' (m + 25) S) = nI l ∧ g_mn W 1000000 b S A 0 l := by
  refine Exists.elim (fg_lp_i (body := FX12_findFewest_b59_L16 m l1 l2 l3 (nI S) (nI (2 ^ b))) (fun r s => ∃ T l, s.1 = nI T ∧ g_sub T S ∧ r = T ∧ (∀ a, a ≠ m + 25 → s.2 a = mu a) ∧ (∀ j, j ≠ S → s.2 (m + 25) j = mu (m + 25) j) ∧ bs_iv (s.2 (m + 25) S) = nI l ∧ g_mn W 1000000 b S A T l) (fun mu' => (∀ a, a ≠ m + 25 → mu' a = mu a) ∧ (∀ j, j ≠ S → mu' (m + 25) j = mu (m + 25) j) ∧ ∃ l, bs_iv (mu' (m + 25) S) = nI l ∧ g_mn W 1000000 b S A 0 l) (fun r s hI => ?_) fg_fu S (nI S, mu) ⟨S, 1000000, rfl, g_sub_rfl S, rfl, fun _ _ => rfl, fun _ _ => rfl, hc, Nat.le_refl _, Or.inl rfl, fun T t1 t2 t3 t4 => by have := Nat.le_of_testBit t2; omega⟩ (fg_fu_lt (by omega))) (fun t ht => ⟨t, ht.1, ht.2⟩)
  obtain ⟨tv, mu1⟩ := s
  obtain ⟨T, l, e1, hT, hr, f1, f2, f3, f4⟩ := hI
  have e1 : tv = nI T := e1
  subst e1
  have f1 : ∀ a, a ≠ m + 25 → mu1 a = mu a := f1
  have f2 : ∀ j, j ≠ S → mu1 (m + 25) j = mu (m + 25) j := f2
  have f3 : bs_iv (mu1 (m + 25) S) = nI l := f3
  have tl : T ≤ S := Nat.le_of_testBit hT
  have ll := f4.1
  by_cases z : T = 0
  · subst z
    refine Or.inr ⟨mu1, ?_, f1, f2, l, f3, f4⟩
    unfold FX12_findFewest_b59_L16
    rw [if_pos (by show nI 0 ≤ 0; decide)]
  · have nx := g_nxt_lt (t := T) (S := S) (by omega)
    have hd : ¬ nI T ≤ (0 : Int32) := by rw [fn_le0 (by omega)]; exact z
    have st : (nI T - nI 1) &&& nI S = nI ((T - 1) &&& S) := by rw [fn_sub (by omega), fa_and]
    refine Or.inl ?_
    have skip : ¬ (T.testBit b = true ∧ W T) → FX12_findFewest_b59_L16 m l1 l2 l3 (nI S) (nI (2 ^ b)) (nI T, mu1) = some (.inl (nI ((T - 1) &&& S), mu1)) → ∃ s' r', FX12_findFewest_b59_L16 m l1 l2 l3 (nI S) (nI (2 ^ b)) (nI T, mu1) = some (.inl s') ∧ r' < r ∧ ∃ T l, s'.1 = nI T ∧ g_sub T S ∧ r' = T ∧ (∀ a, a ≠ m + 25 → s'.2 a = mu a) ∧ (∀ j, j ≠ S → s'.2 (m + 25) j = mu (m + 25) j) ∧ bs_iv (s'.2 (m + 25) S) = nI l ∧ g_mn W 1000000 b S A T l := fun no e => ⟨(nI ((T - 1) &&& S), mu1), (T - 1) &&& S, e, by omega, (T - 1) &&& S, l, rfl, g_nxt_s T S, rfl, f1, f2, f3, g_mn_skip f4 hT no⟩
    by_cases c : T.testBit b = true
    · have hbb : ¬ nI (T &&& 2 ^ b) = (0 : Int32) := by rw [fn_bit0 (by omega), c]; decide
      rcases hB T tl z with ⟨w1, w2⟩ | ⟨w1, w2⟩
      · have lt := g_dif_lt hT c
        have ar : bs_iv (mu1 (m + 25) (S ^^^ T)) = nI (A (S ^^^ T)) := by rw [f2 _ (by omega)]; exact hAr _ lt
        have al := hA _ lt
        refine ⟨(nI ((T - 1) &&& S), bs_up mu1 (m + 25) S (.int (nI (if 1 + A (S ^^^ T) < l then 1 + A (S ^^^ T) else l)))), (T - 1) &&& S, ?_, by omega, (T - 1) &&& S, _, rfl, g_nxt_s T S, rfl, fun a ha => ?_, fun j hj => ?_, ?_, g_mn_take f4 hT c w2⟩
        · unfold FX12_findFewest_b59_L16
          rw [if_neg hd, fa_and, if_neg hbb, fn_in (show T < 1024 by omega) (by decide), fg_gd_t]
          simp only []
          rw [fn_cl (show T < 2 ^ 31 by omega), f1 (m + 26) (by omega), w1, if_neg (by decide), fn_in hS (by decide), fg_gd_t, fn_not, fa_and, g_mi_x (by omega) hT, fn_in (show S ^^^ T < 1024 by omega) (by decide), fg_gd_t, fg_gd_t, fg_wr_s, st, fn_cl (show S < 2 ^ 31 by omega), fn_cl (show S ^^^ T < 2 ^ 31 by omega), ar, f3, fn_add]
          by_cases q : 1 + A (S ^^^ T) < l
          · rw [if_pos ((nI_ltI (by omega) (by omega)).mpr q), if_pos q]
          · rw [if_neg (fun h => q ((nI_ltI (by omega) (by omega)).mp h)), if_neg q]
        · exact (bs_up_f ha).trans (f1 a ha)
        · exact (bs_up_ne _ _ (by rintro ⟨-, q⟩; exact hj q)).trans (f2 j hj)
        · show bs_iv (bs_up mu1 (m + 25) S _ (m + 25) S) = _
          rw [bs_up_eq, bs_iv_i]
      · refine skip (fun h => w2 h.2) ?_
        unfold FX12_findFewest_b59_L16
        rw [if_neg hd, fa_and, if_neg hbb, fn_in (show T < 1024 by omega) (by decide), fg_gd_t]
        simp only []
        rw [fn_cl (show T < 2 ^ 31 by omega), f1 (m + 26) (by omega), w1, if_pos (by decide), st]
    · refine skip (fun h => c h.1) ?_
      have c' : T.testBit b = false := by cases d : T.testBit b with
        | true => exact absurd d c
        | false => rfl
      have hbb : nI (T &&& 2 ^ b) = (0 : Int32) := by rw [fn_bit0 (by omega)]; exact c'
      unfold FX12_findFewest_b59_L16
      rw [if_neg hd, fa_and, if_pos hbb]
      simp only []
      rw [st]
