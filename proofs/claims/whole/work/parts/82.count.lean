/-! MADE: the class counts the fewest -/
def g_mo (W : Nat → Prop) (c b S : Nat) (A : Nat → Nat) (P : Nat → Prop) (l : Nat) : Prop := l ≤ c ∧ (l = c ∨ ∃ T, T.testBit b = true ∧ g_sub T S ∧ W T ∧ l = 1 + A (S ^^^ T) ∧ l < c) ∧ ∀ T, T.testBit b = true → g_sub T S → W T → P (T ^^^ 2 ^ b) → l ≤ 1 + A (S ^^^ T)
theorem g_ad {S M b : Nat} (hb : S.testBit b = true) (hM : g_sub M (S ^^^ 2 ^ b)) : (M ^^^ 2 ^ b).testBit b = true ∧ g_sub (M ^^^ 2 ^ b) S ∧ 2 ^ b ||| M = M ^^^ 2 ^ b ∧ S ^^^ (M ^^^ 2 ^ b) = (S ^^^ 2 ^ b) ^^^ M := by
  have mb : M.testBit b = false := by
    cases e : M.testBit b with
    | false => rfl
    | true =>
      have := hM b e
      rw [g_rm_e hb] at this
      cases this
  refine ⟨?_, fun i hi => ?_, ?_, ?_⟩
  · rw [Nat.testBit_xor, mb, Nat.testBit_two_pow_self]
    rfl
  · rw [Nat.testBit_xor, Nat.testBit_two_pow] at hi
    by_cases e : b = i
    · rw [← e]; exact hb
    · rw [decide_eq_false e, Bool.xor_false] at hi
      exact g_rm_s hb i (hM i hi)
  · apply Nat.eq_of_testBit_eq
    intro i
    rw [Nat.testBit_or, Nat.testBit_xor, Nat.testBit_two_pow]
    by_cases e : b = i
    · subst e
      rw [mb]
      simp
    · rw [decide_eq_false e, Bool.xor_false, Bool.false_or]
  · rw [Nat.xor_comm M, Nat.xor_assoc]
theorem g_mo_st {W : Nat → Prop} {c b S M l l' : Nat} {A : Nat → Nat} (hb : S.testBit b = true) (hM : g_sub M (S ^^^ 2 ^ b)) (h : g_mo W c b S A (fun u => M < u) l) (h2 : (l' = l ∧ ¬ W (M ^^^ 2 ^ b)) ∨ (l' = l ∧ l ≤ 1 + A (S ^^^ (M ^^^ 2 ^ b))) ∨ (W (M ^^^ 2 ^ b) ∧ l' = 1 + A (S ^^^ (M ^^^ 2 ^ b)) ∧ l' < l)) : g_mo W c b S A (fun u => M ≤ u) l' := by
  obtain ⟨a1, a2, -, -⟩ := g_ad hb hM
  have e0 : ∀ T, T ^^^ 2 ^ b = M → T = M ^^^ 2 ^ b := fun T e => by rw [← e, g_xx]
  have le : l' ≤ l := by rcases h2 with h | h | h <;> omega
  have h1 := h.1
  refine ⟨by omega, ?_, fun T t1 t2 t3 t4 => ?_⟩
  · rcases h2 with h2 | h2 | h2
    · rw [h2.1]; exact h.2.1
    · rw [h2.1]; exact h.2.1
    · exact Or.inr ⟨_, a1, a2, h2.1, h2.2.1, by omega⟩
  · by_cases q : M < T ^^^ 2 ^ b
    · have := h.2.2 T t1 t2 t3 q
      omega
    · have t4 : M ≤ T ^^^ 2 ^ b := t4
      have e := e0 T (by omega)
      subst e
      rcases h2 with h2 | h2 | h2
      · exact absurd t3 h2.2
      · omega
      · omega
theorem g_mo_nx {W : Nat → Prop} {c b S M l : Nat} {A : Nat → Nat} (hb : S.testBit b = true) (hM : g_sub M (S ^^^ 2 ^ b)) (h : g_mo W c b S A (fun u => M ≤ u) l) : g_mo W c b S A (fun u => (M - 1) &&& (S ^^^ 2 ^ b) < u) l := by
  refine ⟨h.1, h.2.1, fun T t1 t2 t3 t4 => h.2.2 T t1 t2 t3 ?_⟩
  have us : g_sub (T ^^^ 2 ^ b) (S ^^^ 2 ^ b) := by
    intro i hi
    have ne := g_rm_ne t1 hi
    exact g_rm_y hb (t2 i (g_rm_s t1 i hi)) ne
  refine Classical.byContradiction fun q => ?_
  have t4 : (M - 1) &&& (S ^^^ 2 ^ b) < T ^^^ 2 ^ b := t4
  have q : ¬ M ≤ T ^^^ 2 ^ b := q
  have := g_nxt (M + 1) (S ^^^ 2 ^ b) M (T ^^^ 2 ^ b) (Nat.lt_of_lt_of_le (Nat.lt_succ_self M) (Nat.le_of_lt Nat.lt_two_pow_self)) hM us (by omega)
  omega
theorem g_mo_all {W : Nat → Prop} {c b S l : Nat} {A : Nat → Nat} (h : g_mo W c b S A (fun u => 0 ≤ u) l) : g_mo W c b S A (fun _ => True) l := ⟨h.1, h.2.1, fun T t1 t2 t3 _ => h.2.2 T t1 t2 t3 (Nat.zero_le _)⟩
theorem sf_cinner {x S b : Nat} {W : Nat → Prop} {A : Nat → Nat} {mu : bs_Mm} (hS : S < 1024) (hb : S.testBit b = true) (hAr : ∀ R, R < S → bs_iv (mu (x + 40) R) = nI (A R)) (hA : ∀ R, R < S → A R ≤ 99) (hB : ∀ T, T ≤ S → T ≠ 0 → (bs_iv (mu (x + 42) T) = nI 1 ∧ W T) ∨ (bs_iv (mu (x + 42) T) = nI 0 ∧ ¬ W T)) (l1 l2 : Int32) : ∃ l, fg_lp (FX3_countFewest_b32_L9 x mu l1 l2 (nI (2 ^ b)) (nI (S ^^^ 2 ^ b))) fg_fu (nI 99, nI (S ^^^ 2 ^ b)) = some (nI l) ∧ g_mo W 99 b S A (fun _ => True) l := by
  have sb : g_sub (2 ^ b) S := fun j hj => by
    rw [Nat.testBit_two_pow] at hj
    rw [← of_decide_eq_true hj]
    exact hb
  have ol : S ^^^ 2 ^ b < S := g_dif_lt sb (b := b) Nat.testBit_two_pow_self
  refine Exists.elim (fg_lp_i (body := FX3_countFewest_b32_L9 x mu l1 l2 (nI (2 ^ b)) (nI (S ^^^ 2 ^ b))) (fun r s => (∃ M l, s.1 = nI l ∧ s.2 = nI M ∧ g_sub M (S ^^^ 2 ^ b) ∧ r = M + 1 ∧ g_mo W 99 b S A (fun u => M < u) l) ∨ ∃ l, s.1 = nI l ∧ s.2 = -1 ∧ r = 0 ∧ g_mo W 99 b S A (fun _ => True) l) (fun t => ∃ l, t = nI l ∧ g_mo W 99 b S A (fun _ => True) l) (fun r s hI => ?_) fg_fu ((S ^^^ 2 ^ b) + 1) (nI 99, nI (S ^^^ 2 ^ b)) (Or.inl ⟨S ^^^ 2 ^ b, 99, rfl, rfl, g_sub_rfl _, rfl, Nat.le_refl _, Or.inl rfl, fun T t1 t2 t3 t4 => ?_⟩) (fg_fu_lt (by omega))) (fun t ht => ?_)
  · obtain ⟨lv, mv⟩ := s
    rcases hI with ⟨M, l, e1, e2, hM, hr, hm⟩ | ⟨l, e1, e2, hr, hm⟩
    · have e1 : lv = nI l := e1
      have e2 : mv = nI M := e2
      subst e1
      subst e2
      obtain ⟨a1, a2, a3, a4⟩ := g_ad hb hM
      have ml : M ≤ S ^^^ 2 ^ b := Nat.le_of_testBit hM
      have tl : M ^^^ 2 ^ b ≤ S := Nat.le_of_testBit a2
      have dl := g_dif_lt a2 a1
      have hl := hm.1
      have ha := hA _ dl
      have step : ∀ l', ((l' = l ∧ ¬ W (M ^^^ 2 ^ b)) ∨ (l' = l ∧ l ≤ 1 + A (S ^^^ (M ^^^ 2 ^ b))) ∨ (W (M ^^^ 2 ^ b) ∧ l' = 1 + A (S ^^^ (M ^^^ 2 ^ b)) ∧ l' < l)) → FX3_countFewest_b32_L9 x mu l1 l2 (nI (2 ^ b)) (nI (S ^^^ 2 ^ b)) (nI l, nI M) = FX3_countFewest_j80_L32_L9 x mu l1 l2 (nI (2 ^ b)) (nI (S ^^^ 2 ^ b)) (nI l') (nI M) → ∃ s' r', FX3_countFewest_b32_L9 x mu l1 l2 (nI (2 ^ b)) (nI (S ^^^ 2 ^ b)) (nI l, nI M) = some (.inl s') ∧ r' < r ∧ ((∃ M l, s'.1 = nI l ∧ s'.2 = nI M ∧ g_sub M (S ^^^ 2 ^ b) ∧ r' = M + 1 ∧ g_mo W 99 b S A (fun u => M < u) l) ∨ ∃ l, s'.1 = nI l ∧ s'.2 = -1 ∧ r' = 0 ∧ g_mo W 99 b S A (fun _ => True) l) := by
        intro l' h2 e
        have st := g_mo_st hb hM hm h2
        by_cases z : M = 0
        · subst z
          refine ⟨(nI l', -1), 0, ?_, by omega, Or.inr ⟨l', rfl, rfl, rfl, g_mo_all st⟩⟩
          rw [e]
          unfold FX3_countFewest_j80_L32_L9
          rw [if_pos (show nI 0 = (0 : Int32) from rfl)]
        · have nl := g_nxt_lt (t := M) (S := S ^^^ 2 ^ b) (by omega)
          refine ⟨(nI l', nI ((M - 1) &&& (S ^^^ 2 ^ b))), ((M - 1) &&& (S ^^^ 2 ^ b)) + 1, ?_, by omega, Or.inl ⟨_, l', rfl, rfl, g_nxt_s M _, rfl, g_mo_nx hb hM st⟩⟩
          rw [e]
          unfold FX3_countFewest_j80_L32_L9
          rw [if_neg (by rw [fn_eq0 (by omega)]; exact z), fn_sub (by omega), fa_and]
      have n0 : ¬ nI M < (0 : Int32) := by rw [fn_lt0 (by omega)]; exact id
      have iT := fn_in (show M ^^^ 2 ^ b < 1024 by omega) (by decide)
      have cT := fn_cl (a := M ^^^ 2 ^ b) (by omega)
      have iA := fn_in (show S ^^^ (M ^^^ 2 ^ b) < 1024 by omega) (by decide)
      have cA := fn_cl (a := S ^^^ (M ^^^ 2 ^ b)) (by omega)
      have rA := hAr _ dl
      rcases hB _ tl (g_nz0 a1) with ⟨w1, w2⟩ | ⟨w1, w2⟩
      · by_cases q : l ≤ 1 + A (S ^^^ (M ^^^ 2 ^ b))
        · refine Or.inl (step l (Or.inr (Or.inl ⟨rfl, q⟩)) ?_)
          rw [FX3_countFewest_b32_L9]
          simp only []
          rw [if_neg n0, fa_or, a3, iT, fg_gd_t, cT, w1, if_neg (by decide), bs_xorI, ← a4, iA, fg_gd_t, cA, rA, fn_add, if_pos ((nI_leI (by omega) (by omega)).mpr (by omega))]
        · refine Or.inl (step (1 + A (S ^^^ (M ^^^ 2 ^ b))) (Or.inr (Or.inr ⟨w2, rfl, by omega⟩)) ?_)
          rw [FX3_countFewest_b32_L9]
          simp only []
          rw [if_neg n0, fa_or, a3, iT, fg_gd_t, cT, w1, if_neg (by decide), bs_xorI, ← a4, iA, fg_gd_t, cA, rA, fn_add, if_neg (fun h => q (by have := (nI_leI (by omega) (by omega)).mp h; omega)), fg_gd_t, Nat.add_comm]
      · refine Or.inl (step l (Or.inl ⟨rfl, w2⟩) ?_)
        rw [FX3_countFewest_b32_L9]
        simp only []
        rw [if_neg n0, fa_or, a3, iT, fg_gd_t, cT, w1, if_pos (by decide)]
    · have e1 : lv = nI l := e1
      have e2 : mv = -1 := e2
      subst e1
      subst e2
      refine Or.inr ⟨nI l, ?_, l, rfl, hm⟩
      unfold FX3_countFewest_b32_L9
      rw [if_pos (show (-1 : Int32) < 0 by decide)]
  · have us : g_sub (T ^^^ 2 ^ b) (S ^^^ 2 ^ b) := by
      intro i hi
      exact g_rm_y hb (t2 i (g_rm_s t1 i hi)) (g_rm_ne t1 hi)
    have := Nat.le_of_testBit us
    have t4 : S ^^^ 2 ^ b < T ^^^ 2 ^ b := t4
    omega
  · obtain ⟨l, h1, h2⟩ := ht.2
    exact ⟨l, by rw [ht.1, h1], h2⟩
