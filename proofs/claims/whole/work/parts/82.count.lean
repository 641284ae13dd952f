/-! MADE: the class counts the fewest -/
def g_mo (W : Nat → Prop) (c b S : Nat) (A : Nat → Nat) (P : Nat → Prop) (l : Nat) : Prop := l ≤ c ∧ (l = c ∨ ∃ T, T.testBit b = true ∧ g_sub T S ∧ W T ∧ l = 1 + A (S ^^^ T) ∧ l < c) ∧ ∀ T, T.testBit b = true → g_sub T S → W T → P (T ^^^ 2 ^ b) → l ≤ 1 + A (S ^^^ T)
theorem g_ad {S M b : Nat} (hb : S.testBit b = true) (hM : g_sub M (S ^^^ 2 ^ b)) : (M ^^^ 2 ^ b).testBit b = true ∧ g_sub (M ^^^ 2 ^ b) S ∧ 2 ^ b ||| M = M ^^^ 2 ^ b ∧ S ^^^ (M ^^^ 2 ^ b) = (S ^^^ 2 ^ b) ^^^ M := by
  have mb : M.testBit b = false := by
    cases e : M.testBit b with
    | false => rfl
    | true =>
      have := hM b e
      rw [g_rm_e hb] at this
      cases this
  refine ⟨?_, fun i hi => ?_, ?_, ?_⟩
  · rw [Nat.testBit_xor, mb, Nat.testBit_two_pow_self]
    rfl
  · rw [Nat.testBit_xor, Nat.testBit_two_pow] at hi
    by_cases e : b = i
    · rw [← e]; exact hb
    · rw [decide_eq_false e, Bool.xor_false] at hi
      exact g_rm_s hb i (hM i hi)
  · apply Nat.eq_of_testBit_eq
    intro i
    rw [Nat.testBit_or, Nat.testBit_xor, Nat.testBit_two_pow]
    by_cases e : b = i
    · subst e
      rw [mb]
      simp
    · rw [decide_eq_false e, Bool.xor_false, Bool.false_or]
  · rw [Nat.xor_comm M, Nat.xor_assoc]
theorem g_mo_st {W : Nat → Prop} {c b S M l l' : Nat} {A : Nat → Nat} (hb : S.testBit b = true) (hM : g_sub M (S ^^^ 2 ^ b)) (h : g_mo W c b S A (fun u => M < u) l) (h2 : (l' = l ∧ ¬ W (M ^^^ 2 ^ b)) ∨ (l' = l ∧ l ≤ 1 + A (S ^^^ (M ^^^ 2 ^ b))) ∨ (W (M ^^^ 2 ^ b) ∧ l' = 1 + A (S ^^^ (M ^^^ 2 ^ b)) ∧ l' < l)) : g_mo W c b S A (fun u => M ≤ u) l' := by
  obtain ⟨a1, a2, -, -⟩ := g_ad hb hM
  have e0 : ∀ T, T ^^^ 2 ^ b = M → T = M ^^^ 2 ^ b := fun T e => by rw [← e, g_xx]
  have le : l' ≤ l := by rcases h2 with h | h | h <;> omega
  have h1 := h.1
  refine ⟨by omega, ?_, fun T t1 t2 t3 t4 => ?_⟩
  · rcases h2 with h2 | h2 | h2
    · rw [h2.1]; exact h.2.1
    · rw [h2.1]; exact h.2.1
    · exact Or.inr ⟨_, a1, a2, h2.1, h2.2.1, by omega⟩
  · by_cases q : M < T ^^^ 2 ^ b
    · have := h.2.2 T t1 t2 t3 q
      omega
    · have t4 : M ≤ T ^^^ 2 ^ b := t4
      have e := e0 T (by omega)
      subst e
      rcases h2 with h2 | h2 | h2
      · exact absurd t3 h2.2
      · omega
      · omega
theorem g_mo_nx {W : Nat → Prop} {c b S M l : Nat} {A : Nat → Nat} (hb : S.testBit b = true) (hM : g_sub M (S ^^^ 2 ^ b)) (h : g_mo W c b S A (fun u => M ≤ u) l) : g_mo W c b S A (fun u => (M - 1) &&& (S ^^^ 2 ^ b) < u) l := by
  refine ⟨h.1, h.2.1, fun T t1 t2 t3 t4 => h.2.2 T t1 t2 t3 ?_⟩
  have us : g_sub (T ^^^ 2 ^ b) (S ^^^ 2 ^ b) := by
    intro i hi
    have ne := g_rm_ne t1 hi
    exact g_rm_y hb (t2 i (g_rm_s t1 i hi)) ne
  refine Classical.byContradiction fun q => ?_
  have t4 : (M - 1) &&& (S ^^^ 2 ^ b) < T ^^^ 2 ^ b := t4
  have q : ¬ M ≤ T ^^^ 2 ^ b := q
  have := g_nxt (M + 1) (S ^^^ 2 ^ b) M (T ^^^ 2 ^ b) (Nat.lt_of_lt_of_le (Nat.lt_succ_self M) (Nat.le_of_lt Nat.lt_two_pow_self)) hM us (by omega)
  omega
theorem g_mo_all {W : Nat → Prop} {c b S l : Nat} {A : Nat → Nat} (h : g_mo W c b S A (fun u => 0 ≤ u) l) : g_mo W c b S A (fun _ => True) l := ⟨h.1, h.2.1, fun T t1 t2 t3 _ => h.2.2 T t1 t2 t3 (Nat.zero_le _)⟩
/-- which of the parts of a set a part is, counted from below -/
def g_px : Nat → Nat → Nat → Nat
  | 0, _, _ => 0
  | n + 1, S, M => if S % 2 = 1 then M % 2 + 2 * g_px n (S / 2) (M / 2) else g_px n (S / 2) (M / 2)
theorem g_px_0 : ∀ n S, g_px n S 0 = 0 := by
  intro n
  induction n with
  | zero => intro S; rfl
  | succ n ih =>
    intro S
    show (if S % 2 = 1 then 0 % 2 + 2 * g_px n (S / 2) (0 / 2) else g_px n (S / 2) (0 / 2)) = 0
    have e := ih (S / 2)
    rw [show (0 : Nat) / 2 = 0 from rfl, e]
    by_cases c : S % 2 = 1
    · rw [if_pos c]
    · rw [if_neg c]
theorem g_px_nx : ∀ n S t, t < 2 ^ n → g_sub t S → 0 < t → g_px n S ((t - 1) &&& S) + 1 = g_px n S t := by
  intro n
  induction n with
  | zero => intro S t h _ h2; have : t < 1 := h; omega
  | succ n ih =>
    intro S t ht hs h0
    obtain ⟨s1, s2⟩ := g_sub_d hs
    have p : 2 ^ (n + 1) = 2 * 2 ^ n := by rw [Nat.pow_succ]; omega
    have d := g_and_d (t - 1) S
    have m := g_and_m (t - 1) S
    show (if S % 2 = 1 then ((t - 1) &&& S) % 2 + 2 * g_px n (S / 2) (((t - 1) &&& S) / 2) else g_px n (S / 2) (((t - 1) &&& S) / 2)) + 1 = (if S % 2 = 1 then t % 2 + 2 * g_px n (S / 2) (t / 2) else g_px n (S / 2) (t / 2))
    by_cases b : t % 2 = 1
    · have e : (t - 1) / 2 = t / 2 := by omega
      have e2 : (t - 1) % 2 = 0 := by omega
      rw [e, g_sub_and s1] at d
      rw [e2, Nat.zero_and] at m
      have c : S % 2 = 1 := by omega
      rw [if_pos c, if_pos c, d, m, b]
      omega
    · have e : (t - 1) / 2 = t / 2 - 1 := by omega
      have e2 : (t - 1) % 2 = 1 := by omega
      rw [e] at d
      rw [e2] at m
      have k := ih (S / 2) (t / 2) (by omega) s1 (by omega)
      rw [← d] at k
      by_cases c : S % 2 = 1
      · rw [c] at m
        have m : ((t - 1) &&& S) % 2 = 1 := m
        rw [if_pos c, if_pos c, m]
        omega
      · rw [if_neg c, if_neg c]
        exact k
theorem pc_lo (S : Nat) : ∀ n, pc_n S (n + 1) = S % 2 + pc_n (S / 2) n := by
  intro n
  induction n with
  | zero =>
    show 0 + S / 2 ^ 0 % 2 = S % 2 + 0
    rw [Nat.pow_zero, Nat.div_one]
    omega
  | succ n ih =>
    have e : S / 2 ^ (n + 1) = S / 2 / 2 ^ n := by rw [Nat.div_div_eq_div_mul, Nat.pow_succ, Nat.mul_comm]
    show pc_n S (n + 1) + S / 2 ^ (n + 1) % 2 = S % 2 + (pc_n (S / 2) n + S / 2 / 2 ^ n % 2)
    rw [ih, e]
    omega
theorem g_px_all : ∀ n S, g_px n S S + 1 = 2 ^ pc_n S n := by
  intro n
  induction n with
  | zero => intro S; rfl
  | succ n ih =>
    intro S
    have k := ih (S / 2)
    rw [pc_lo]
    show (if S % 2 = 1 then S % 2 + 2 * g_px n (S / 2) (S / 2) else g_px n (S / 2) (S / 2)) + 1 = _
    by_cases c : S % 2 = 1
    · rw [if_pos c, c, Nat.pow_add]
      omega
    · rw [if_neg c, show S % 2 = 0 by omega, Nat.zero_add]
      exact k
theorem pc_ten {S : Nat} (h : S < 1024) : pc_n S 32 ≤ 10 := by
  have e : pc_n S 32 = pc_n S 10 := g_sm_zr (h := fun i => S / 2 ^ i % 2) (n := 10) 22 (fun i hi => by
    have q : 2 ^ 10 ≤ 2 ^ i := Nat.pow_le_pow_right (by decide) hi
    have z : S / 2 ^ i = 0 := Nat.div_eq_of_lt (Nat.lt_of_lt_of_le h q)
    show S / 2 ^ i % 2 = 0
    rw [z])
  rw [e]
  exact g_sm1 (fun i => by show _ / _ % 2 ≤ 1; omega) 10
theorem mk_pred {d : Nat} : nI (d + 1) + (-1) = nI d := by
  rw [← nI_add, Int32.add_assoc]
  have : nI 1 + (-1) = 0 := by decide
  rw [this, Int32.add_zero]
theorem sf_cinner {x S b : Nat} {W : Nat → Prop} {A : Nat → Nat} {mu : bs_Mm} (hS : S < 1024) (hb : S.testBit b = true) (hAr : ∀ R, R < S → bs_iv (mu (x + 40) R) = nI (A R)) (hA : ∀ R, R < S → A R ≤ 99) (hB : ∀ T, T ≤ S → T ≠ 0 → (bs_iv (mu (x + 42) T) = nI 1 ∧ W T) ∨ (bs_iv (mu (x + 42) T) = nI 0 ∧ ¬ W T)) (l1 : Int32) : ∃ l, fg_lp (FX3_fewestOf_b24 x mu l1 (nI (2 ^ b)) (nI (S ^^^ 2 ^ b))) fg_fu (nI (S ^^^ 2 ^ b), nI 99, nI (2 ^ pc_n (S ^^^ 2 ^ b) 32)) = some (nI l) ∧ g_mo W 99 b S A (fun _ => True) l := by
  have sb : g_sub (2 ^ b) S := fun j hj => by
    rw [Nat.testBit_two_pow] at hj
    rw [← of_decide_eq_true hj]
    exact hb
  have ol : S ^^^ 2 ^ b < S := g_dif_lt sb (b := b) Nat.testBit_two_pow_self
  have pa := g_px_all 32 (S ^^^ 2 ^ b)
  have pt := pc_ten (S := S ^^^ 2 ^ b) (by omega)
  have pp : 2 ^ pc_n (S ^^^ 2 ^ b) 32 ≤ 2 ^ 10 := Nat.pow_le_pow_right (by decide) pt
  refine Exists.elim (fg_lp_i (body := FX3_fewestOf_b24 x mu l1 (nI (2 ^ b)) (nI (S ^^^ 2 ^ b))) (fun r s => (∃ M l, s.1 = nI M ∧ s.2.1 = nI l ∧ s.2.2 = nI (g_px 32 (S ^^^ 2 ^ b) M + 1) ∧ g_sub M (S ^^^ 2 ^ b) ∧ r = g_px 32 (S ^^^ 2 ^ b) M + 1 ∧ r ≤ 1024 ∧ g_mo W 99 b S A (fun u => M < u) l) ∨ ∃ l, s.2.1 = nI l ∧ s.2.2 = nI 0 ∧ r = 0 ∧ g_mo W 99 b S A (fun _ => True) l) (fun t => ∃ l, t = nI l ∧ g_mo W 99 b S A (fun _ => True) l) (fun r s hI => ?_) fg_fu (g_px 32 (S ^^^ 2 ^ b) (S ^^^ 2 ^ b) + 1) (nI (S ^^^ 2 ^ b), nI 99, nI (2 ^ pc_n (S ^^^ 2 ^ b) 32)) (Or.inl ⟨S ^^^ 2 ^ b, 99, rfl, rfl, by rw [pa], g_sub_rfl _, rfl, by omega, Nat.le_refl _, Or.inl rfl, fun T t1 t2 t3 t4 => ?_⟩) (fg_fu_lt (by omega))) (fun t ht => ?_)
  · obtain ⟨mv, lv, uv⟩ := s
    rcases hI with ⟨M, l, e1, e2, e3, hM, hr, hr2, hm⟩ | ⟨l, e2, e3, hr, hm⟩
    · have e1 : mv = nI M := e1
      have e2 : lv = nI l := e2
      have e3 : uv = nI (g_px 32 (S ^^^ 2 ^ b) M + 1) := e3
      subst e1
      subst e2
      subst e3
      obtain ⟨a1, a2, a3, a4⟩ := g_ad hb hM
      have ml : M ≤ S ^^^ 2 ^ b := Nat.le_of_testBit hM
      have tl : M ^^^ 2 ^ b ≤ S := Nat.le_of_testBit a2
      have dl := g_dif_lt a2 a1
      have hl := hm.1
      have ha := hA _ dl
      have u0 : ¬ nI (g_px 32 (S ^^^ 2 ^ b) M + 1) ≤ (0 : Int32) := by rw [fn_le0 (by omega)]; omega
      have step : ∀ l', ((l' = l ∧ ¬ W (M ^^^ 2 ^ b)) ∨ (l' = l ∧ l ≤ 1 + A (S ^^^ (M ^^^ 2 ^ b))) ∨ (W (M ^^^ 2 ^ b) ∧ l' = 1 + A (S ^^^ (M ^^^ 2 ^ b)) ∧ l' < l)) → FX3_fewestOf_b24 x mu l1 (nI (2 ^ b)) (nI (S ^^^ 2 ^ b)) (nI M, nI l, nI (g_px 32 (S ^^^ 2 ^ b) M + 1)) = some (.inl ((nI M - nI 1) &&& nI (S ^^^ 2 ^ b), nI l', nI (g_px 32 (S ^^^ 2 ^ b) M))) → ∃ s' r', FX3_fewestOf_b24 x mu l1 (nI (2 ^ b)) (nI (S ^^^ 2 ^ b)) (nI M, nI l, nI (g_px 32 (S ^^^ 2 ^ b) M + 1)) = some (.inl s') ∧ r' < r ∧ ((∃ M l, s'.1 = nI M ∧ s'.2.1 = nI l ∧ s'.2.2 = nI (g_px 32 (S ^^^ 2 ^ b) M + 1) ∧ g_sub M (S ^^^ 2 ^ b) ∧ r' = g_px 32 (S ^^^ 2 ^ b) M + 1 ∧ r' ≤ 1024 ∧ g_mo W 99 b S A (fun u => M < u) l) ∨ ∃ l, s'.2.1 = nI l ∧ s'.2.2 = nI 0 ∧ r' = 0 ∧ g_mo W 99 b S A (fun _ => True) l) := by
        intro l' h2 e
        have st := g_mo_st hb hM hm h2
        by_cases z : M = 0
        · subst z
          refine ⟨_, 0, e, by omega, Or.inr ⟨l', rfl, ?_, rfl, g_mo_all st⟩⟩
          show nI (g_px 32 (S ^^^ 2 ^ b) 0) = nI 0
          rw [g_px_0]
        · have nx := g_px_nx 32 (S ^^^ 2 ^ b) M (by omega) hM (by omega)
          refine ⟨_, g_px 32 (S ^^^ 2 ^ b) M, e, by omega, Or.inl ⟨(M - 1) &&& (S ^^^ 2 ^ b), l', ?_, rfl, ?_, g_nxt_s M _, nx.symm, by omega, g_mo_nx hb hM st⟩⟩
          · show (nI M - nI 1) &&& nI (S ^^^ 2 ^ b) = _
            rw [fn_sub (by omega), fa_and]
          · show nI (g_px 32 (S ^^^ 2 ^ b) M) = _
            rw [nx]
      have iT := fn_in (show M ^^^ 2 ^ b < 1024 by omega) (by decide)
      have cT := fn_cl (a := M ^^^ 2 ^ b) (by omega)
      have iA := fn_in (show S ^^^ (M ^^^ 2 ^ b) < 1024 by omega) (by decide)
      have cA := fn_cl (a := S ^^^ (M ^^^ 2 ^ b)) (by omega)
      have rA := hAr _ dl
      rcases hB _ tl (g_nz0 a1) with ⟨w1, w2⟩ | ⟨w1, w2⟩
      · by_cases q : l ≤ 1 + A (S ^^^ (M ^^^ 2 ^ b))
        · refine Or.inl (step l (Or.inr (Or.inl ⟨rfl, q⟩)) ?_)
          rw [FX3_fewestOf_b24]
          simp only []
          rw [if_neg u0, fa_or, a3, iT, fg_gd_t, cT, w1, if_neg (by decide), bs_xorI, ← a4, iA, fg_gd_t, cA, rA, fn_add, if_neg (fun h => by have := (nI_ltI (by omega) (by omega)).mp h; omega), mk_pred]
        · refine Or.inl (step (1 + A (S ^^^ (M ^^^ 2 ^ b))) (Or.inr (Or.inr ⟨w2, rfl, by omega⟩)) ?_)
          rw [FX3_fewestOf_b24]
          simp only []
          rw [if_neg u0, fa_or, a3, iT, fg_gd_t, cT, w1, if_neg (by decide), bs_xorI, ← a4, iA, fg_gd_t, cA, rA, fn_add, if_pos ((nI_ltI (by omega) (by omega)).mpr (by omega)), mk_pred, Nat.add_comm (A (S ^^^ (M ^^^ 2 ^ b))) 1]
      · refine Or.inl (step l (Or.inl ⟨rfl, w2⟩) ?_)
        rw [FX3_fewestOf_b24]
        simp only []
        rw [if_neg u0, fa_or, a3, iT, fg_gd_t, cT, w1, if_pos (by decide), mk_pred]
    · have e2 : lv = nI l := e2
      have e3 : uv = nI 0 := e3
      subst e2
      subst e3
      refine Or.inr ⟨nI l, ?_, l, rfl, hm⟩
      rw [FX3_fewestOf_b24]
      exact if_pos (show nI 0 ≤ (0 : Int32) by decide)
  · have us : g_sub (T ^^^ 2 ^ b) (S ^^^ 2 ^ b) := by
      intro i hi
      exact g_rm_y hb (t2 i (g_rm_s t1 i hi)) (g_rm_ne t1 hi)
    have := Nat.le_of_testBit us
    have t4 : S ^^^ 2 ^ b < T ^^^ 2 ^ b := t4
    omega
  · obtain ⟨l, h1, h2⟩ := ht.2
    exact ⟨l, by rw [ht.1, h1], h2⟩
