/-! PARTS (own), the model's: a part closed from its lowest bubble; parts one after the other -/
def g_shr (G : bs_G) (o b : Nat) : Prop := g_fr G o = g_fr G b ∨ g_fr G o = g_to G b ∨ g_to G o = g_fr G b ∨ g_to G o = g_to G b
theorem g_shr_sy {G : bs_G} {o b : Nat} (h : g_shr G o b) : g_shr G b o := by
  rcases h with h | h | h | h
  · exact Or.inl h.symm
  · exact Or.inr (Or.inr (Or.inl h.symm))
  · exact Or.inr (Or.inl h.symm)
  · exact Or.inr (Or.inr (Or.inr h.symm))
def g_tch (G : bs_G) (b S : Nat) : Bool := g_ex (fun o => S.testBit o && (decide (g_fr G o = g_fr G b) || decide (g_fr G o = g_to G b) || decide (g_to G o = g_fr G b) || decide (g_to G o = g_to G b))) (g_nu G)
theorem g_tch_c {G : bs_G} {b S : Nat} : g_tch G b S = true ↔ ∃ o, o < g_nu G ∧ S.testBit o = true ∧ g_shr G o b := by
  unfold g_tch g_shr
  rw [g_ex_c]
  constructor
  · rintro ⟨i, h1, h2⟩
    rw [Bool.and_eq_true, Bool.or_eq_true, Bool.or_eq_true, Bool.or_eq_true, decide_eq_true_iff, decide_eq_true_iff, decide_eq_true_iff, decide_eq_true_iff] at h2
    exact ⟨i, h1, h2.1, by rcases h2.2 with ((h | h) | h) | h <;> simp [h]⟩
  · rintro ⟨i, h1, h2, h3⟩
    refine ⟨i, h1, ?_⟩
    rw [Bool.and_eq_true, Bool.or_eq_true, Bool.or_eq_true, Bool.or_eq_true, decide_eq_true_iff, decide_eq_true_iff, decide_eq_true_iff, decide_eq_true_iff]
    exact ⟨h2, by rcases h3 with h | h | h | h <;> simp [h]⟩
theorem tf_meets {m g b S : Nat} {mu : bs_Mm} {G : bs_G} (hV : mFv m g G mu) (hg : g < 13) (hG : g_ok G) (hb : b < g_nu G) (hS : S < 2 ^ 30) : FX12_meets m mu (nI g) (nI b) (nI S) = some (nI (g_if (g_tch G b S = true))) := by
  have q0 := g_bn hG
  have d0 := g_bd hG hb
  unfold FX12_meets
  refine Exists.elim (fg_lp_i (body := FX12_meets_b3 m mu (nI g) (nI b) (nI S)) (fun r s => ∃ i, s = nI i ∧ i + r = g_nu G ∧ ∀ o, o < i → ¬ (S.testBit o = true ∧ g_shr G o b)) (fun t => (t = .inl () ∧ g_tch G b S = false) ∨ (t = .inr (nI 1) ∧ g_tch G b S = true)) (fun r s hI => ?_) fg_fu (g_nu G) (nI 0) ⟨0, rfl, by omega, fun o h => by omega⟩ (fg_fu_lt (by omega))) (fun t ht => ?_)
  · obtain ⟨i, e, hr, hn⟩ := hI
    subst e
    by_cases c : g_nu G ≤ i
    · refine Or.inr ⟨.inl (), ?_, Or.inl ⟨rfl, ?_⟩⟩
      · unfold FX12_meets_b3
        simp (disch := omega) only [fg_gd_t, fg_bd_s, fg_b2_s, fg_wr_s, fg_let_s, fn_add, fn_sub, fn_mul, fn_cl, fn_lt, fn_le, fn_eq, fn_eq0, fn_lt0, fn_0le, fn_0lt, fn_le0, fn_in, fn_shl, fn_shr, fa_and, fa_or, bs_xorI, if_true, if_false, hV.2.1, if_pos c]
      · cases z : g_tch G b S with
        | false => rfl
        | true =>
          obtain ⟨o, o1, o2⟩ := g_tch_c.mp z
          exact absurd o2 (hn o (by omega))
    · have hi : i < g_nu G := by omega
      have d := g_bd hG hi
      have v1 := g_bt_c S i
      have r1 := hV.2.2.2.2.2.2.1 i hi
      have r2 := hV.2.2.2.2.2.2.2.1 i hi
      have r3 := hV.2.2.2.2.2.2.1 b hb
      have r4 := hV.2.2.2.2.2.2.2.1 b hb
      have no : ¬ (S.testBit i = true ∧ g_shr G i b) → FX12_meets_b3 m mu (nI g) (nI b) (nI S) (nI i) = some (.inl (nI (i + 1))) := by
        intro h
        unfold FX12_meets_b3
        simp (disch := omega) only [fg_gd_t, fg_bd_s, fg_b2_s, fg_wr_s, fg_let_s, fn_add, fn_sub, fn_mul, fn_cl, fn_lt, fn_le, fn_eq, fn_eq0, fn_lt0, fn_0le, fn_0lt, fn_le0, fn_in, fn_shl, fn_shr, fa_and, fa_or, bs_xorI, if_true, if_false, hV.2.1, if_neg c, g_btd, g_bt_tb]
        by_cases x : S.testBit i = true
        · have h2 : ¬ g_shr G i b := fun z => h ⟨x, z⟩
          unfold g_shr at h2
          simp (disch := omega) only [fg_gd_t, fg_bd_s, fg_b2_s, fg_wr_s, fg_let_s, fn_add, fn_sub, fn_mul, fn_cl, fn_lt, fn_le, fn_eq, fn_eq0, fn_lt0, fn_0le, fn_0lt, fn_le0, fn_in, fn_shl, fn_shr, fa_and, fa_or, bs_xorI, if_true, if_false, if_pos x, r1, r2, r3, r4]
          rw [if_neg (fun z => h2 (Or.inl z)), if_neg (fun z => h2 (Or.inr (Or.inl z))), if_neg (fun z => h2 (Or.inr (Or.inr (Or.inl z)))), if_neg (fun z => h2 (Or.inr (Or.inr (Or.inr z))))]
        · rw [if_neg x]
      have yes : S.testBit i = true ∧ g_shr G i b → FX12_meets_b3 m mu (nI g) (nI b) (nI S) (nI i) = some (.inr (.inr (nI 1))) := by
        intro h
        unfold FX12_meets_b3
        simp (disch := omega) only [fg_gd_t, fg_bd_s, fg_b2_s, fg_wr_s, fg_let_s, fn_add, fn_sub, fn_mul, fn_cl, fn_lt, fn_le, fn_eq, fn_eq0, fn_lt0, fn_0le, fn_0lt, fn_le0, fn_in, fn_shl, fn_shr, fa_and, fa_or, bs_xorI, if_true, if_false, hV.2.1, if_neg c, g_btd, g_bt_tb, if_pos h.1, r1, r2, r3, r4]
        by_cases x1 : g_fr G i = g_fr G b
        · rw [if_pos x1]
        · by_cases x2 : g_fr G i = g_to G b
          · rw [if_neg x1, if_pos x2]
          · by_cases x3 : g_to G i = g_fr G b
            · rw [if_neg x1, if_neg x2, if_pos x3]
            · rw [if_neg x1, if_neg x2, if_neg x3, if_pos ((h.2.resolve_left x1).resolve_left x2 |>.resolve_left x3)]
      by_cases h : S.testBit i = true ∧ g_shr G i b
      · exact Or.inr ⟨_, yes h, Or.inr ⟨rfl, g_tch_c.mpr ⟨i, hi, h.1, h.2⟩⟩⟩
      · refine Or.inl ⟨_, r - 1, no h, by omega, i + 1, rfl, by omega, fun o ho => ?_⟩
        by_cases z : o = i
        · subst z; exact h
        · exact hn o (by omega)
  · obtain ⟨h1, h2⟩ := ht
    rw [h1]
    rcases h2 with ⟨e, z⟩ | ⟨e, z⟩
    · rw [e, z, fg_l3_l, g_if0 (by decide)]
    · rw [e, z, fg_l3_r, g_if1 rfl]
/-- one pass of the model over R -/
def g_cp (G : bs_G) (R P : Nat) : Nat → Nat
  | 0 => P
  | n + 1 => if R.testBit n = true ∧ g_tch G n (g_cp G R P n) = true then g_cp G R P n ||| 2 ^ n else g_cp G R P n
theorem g_cp_y {G : bs_G} {R P n : Nat} (h1 : R.testBit n = true) (h2 : g_tch G n (g_cp G R P n) = true) : g_cp G R P (n + 1) = g_cp G R P n ||| 2 ^ n := by rw [g_cp, if_pos ⟨h1, h2⟩]
theorem g_cp_n {G : bs_G} {R P n : Nat} (h : ¬ (R.testBit n = true ∧ g_tch G n (g_cp G R P n) = true)) : g_cp G R P (n + 1) = g_cp G R P n := by rw [g_cp, if_neg h]
theorem g_cp_st (G : bs_G) (R P n : Nat) : g_sub (g_cp G R P n) (g_cp G R P (n + 1)) := by
  intro i h
  rw [g_cp]
  split
  · rw [g_tb_or, h]; rfl
  · exact h
theorem g_cp_le (G : bs_G) (R P : Nat) : ∀ r n, g_sub (g_cp G R P n) (g_cp G R P (n + r)) := by
  intro r
  induction r with
  | zero => intro n; exact g_sub_rfl _
  | succ r ih => intro n; exact g_sub_tr (ih n) (g_cp_st G R P (n + r))
theorem g_cp_sub (G : bs_G) (R P n : Nat) : g_sub P (g_cp G R P n) := by
  have h := g_cp_le G R P n 0
  rw [Nat.zero_add] at h
  exact h
theorem g_cp_lt {G : bs_G} {R P : Nat} (h : P < 2 ^ g_nu G) : ∀ n, n ≤ g_nu G → g_cp G R P n < 2 ^ g_nu G := by
  intro n
  induction n with
  | zero => intro _; exact h
  | succ n ih =>
    intro hn
    rw [g_cp]
    split
    · exact g_or_lt (ih (by omega)) (by omega)
    · exact ih (by omega)
/-- what holds of the first and goes over to what shares a point holds of all -/
theorem g_cp_all {G : bs_G} {R P : Nat} (A : Nat → Prop) (h0 : ∀ i, P.testBit i = true → A i) (h1 : ∀ b i, R.testBit b = true → A i → g_shr G i b → A b) : ∀ n i, (g_cp G R P n).testBit i = true → A i := by
  intro n
  induction n with
  | zero => exact h0
  | succ n ih =>
    intro i hi
    rw [g_cp] at hi
    split at hi
    · rename_i c
      rw [g_tb_or] at hi
      cases e : (g_cp G R P n).testBit i with
      | true => exact ih i e
      | false =>
        rw [e, Bool.false_or, decide_eq_true_iff] at hi
        subst hi
        obtain ⟨o, -, o2, o3⟩ := g_tch_c.mp c.2
        exact h1 _ o c.1 (ih o o2) o3
    · exact ih i hi
theorem g_cp_fix {G : bs_G} {R P : Nat} (h : g_cp G R P (g_nu G) = P) : ∀ b, b < g_nu G → R.testBit b = true → g_tch G b P = true → P.testBit b = true := by
  intro b hb hR ht
  have e : g_cp G R P b = P := by
    refine g_sub_eq ?_ (g_cp_sub G R P b)
    have := g_cp_le G R P (g_nu G - b) b
    rw [show b + (g_nu G - b) = g_nu G by omega, h] at this
    exact this
  have e2 : (g_cp G R P (b + 1)).testBit b = true := by
    rw [g_cp, e, if_pos ⟨hR, ht⟩, g_tb_or]
    simp
  have := g_cp_le G R P (g_nu G - (b + 1)) (b + 1)
  rw [show b + 1 + (g_nu G - (b + 1)) = g_nu G by omega, h] at this
  exact this b e2
/-- the closing loop: any body that goes so -/
theorem tf_close {G : bs_G} (hG : g_ok G) {R P : Nat} (hP : P < 2 ^ g_nu G) (hP0 : P ≠ 0) {body : Int32 × Int32 → Option ((Int32 × Int32) ⊕ Int32)} (hb1 : ∀ Q, Q < 2 ^ g_nu G → body (nI Q, nI Q) = some (.inr (nI Q))) (hb2 : ∀ Q w, Q < 2 ^ g_nu G → w ≠ nI Q → body (nI Q, w) = some (.inl (nI (g_cp G R Q (g_nu G)), nI Q))) : ∃ Q, fg_lp body fg_fu (nI P, nI 0) = some (nI Q) ∧ Q < 2 ^ g_nu G ∧ g_sub P Q ∧ (∀ b, b < g_nu G → R.testBit b = true → g_tch G b Q = true → Q.testBit b = true) ∧ ∀ (A : Nat → Prop), (∀ i, P.testBit i = true → A i) → (∀ b i, R.testBit b = true → A i → g_shr G i b → A b) → ∀ i, Q.testBit i = true → A i := by
  have q0 := g_bn hG
  have q1 : 2 ^ g_nu G ≤ 2 ^ 24 := Nat.pow_le_pow_right (by decide) q0.2.1
  refine Exists.elim (fg_lp_i (body := body) (fun r s => ∃ Q, s.1 = nI Q ∧ Q < 2 ^ g_nu G ∧ g_sub P Q ∧ (∀ (A : Nat → Prop), (∀ i, P.testBit i = true → A i) → (∀ b i, R.testBit b = true → A i → g_shr G i b → A b) → ∀ i, Q.testBit i = true → A i) ∧ ((s.2 ≠ nI Q ∧ r = 1 + (g_nu G - g_ct Q (g_nu G))) ∨ (s.2 = nI Q ∧ r = 0 ∧ ∀ b, b < g_nu G → R.testBit b = true → g_tch G b Q = true → Q.testBit b = true))) (fun t => ∃ Q, t = nI Q ∧ Q < 2 ^ g_nu G ∧ g_sub P Q ∧ (∀ (A : Nat → Prop), (∀ i, P.testBit i = true → A i) → (∀ b i, R.testBit b = true → A i → g_shr G i b → A b) → ∀ i, Q.testBit i = true → A i) ∧ ∀ b, b < g_nu G → R.testBit b = true → g_tch G b Q = true → Q.testBit b = true) (fun r s hI => ?_) fg_fu (1 + (g_nu G - g_ct P (g_nu G))) (nI P, nI 0) ⟨P, rfl, hP, g_sub_rfl P, fun A h0 _ => h0, Or.inl ⟨fun z => hP0 ((nI_eq (by decide) (by omega)).mp z).symm, rfl⟩⟩ (fg_fu_lt (by omega))) (fun t ht => ?_)
  · obtain ⟨qv, w⟩ := s
    obtain ⟨Q, e, hQ, hs, hA, hh⟩ := hI
    have e : qv = nI Q := e
    subst e
    rcases hh with ⟨hw, hr⟩ | ⟨hw, -, hc⟩
    · have hw : w ≠ nI Q := hw
      have cl := g_cp_lt (R := R) hQ _ (Nat.le_refl (g_nu G))
      have cs := g_cp_sub G R Q (g_nu G)
      refine Or.inl ⟨(nI (g_cp G R Q (g_nu G)), nI Q), if g_cp G R Q (g_nu G) = Q then 0 else 1 + (g_nu G - g_ct (g_cp G R Q (g_nu G)) (g_nu G)), hb2 Q w hQ hw, ?_, _, rfl, cl, g_sub_tr hs cs, fun A a0 a1 => g_cp_all A (hA A a0 a1) a1 _, ?_⟩
      · by_cases z : g_cp G R Q (g_nu G) = Q
        · rw [if_pos z]; omega
        · rw [if_neg z]
          obtain ⟨k, k1, k2⟩ := g_sub_ne cs z
          have := g_ct_lt cs k1 k2 _ (g_tb_lt cl k2)
          have := g_ct_le (g_cp G R Q (g_nu G)) (g_nu G)
          omega
      · by_cases z : g_cp G R Q (g_nu G) = Q
        · refine Or.inr ⟨by rw [z], if_pos z, ?_⟩
          have f := g_cp_fix z
          rw [z]
          exact f
        · exact Or.inl ⟨fun y => z ((nI_eq (by omega) (by omega)).mp y).symm, if_neg z⟩
    · have hw : w = nI Q := hw
      subst hw
      exact Or.inr ⟨_, hb1 Q hQ, Q, rfl, hQ, hs, hA, hc⟩
  · obtain ⟨h1, Q, h2, h3, h4, h5, h6⟩ := ht
    exact ⟨Q, by rw [h1, h2], h3, h4, h6, h5⟩
/-- the lowest bit -/
theorem g_low {R : Nat} (h0 : R ≠ 0) (hR : R < 2 ^ 31) : ∃ k, R.testBit k = true ∧ (∀ j, j < k → R.testBit j = false) ∧ nI R &&& (-(nI R)) = nI (2 ^ k) := by
  have ex : ∃ k, R.testBit k = true := by
    apply Classical.byContradiction
    intro z
    apply h0
    apply Nat.eq_of_testBit_eq
    intro i
    rw [Nat.zero_testBit]
    cases c : R.testBit i with
    | false => rfl
    | true => exact absurd ⟨i, c⟩ z
  have low : ∀ n, (∃ k, k < n ∧ R.testBit k = true ∧ ∀ j, j < k → R.testBit j = false) ∨ ∀ j, j < n → R.testBit j = false := by
    intro n
    induction n with
    | zero => exact Or.inr fun j hj => by omega
    | succ n ih =>
      rcases ih with ⟨k, k1, k2, k3⟩ | h
      · exact Or.inl ⟨k, by omega, k2, k3⟩
      · cases c : R.testBit n with
        | true => exact Or.inl ⟨n, by omega, c, h⟩
        | false =>
          refine Or.inr fun j hj => ?_
          by_cases e : j = n
          · subst e; exact c
          · exact h j (by omega)
  obtain ⟨k0, hk0⟩ := ex
  rcases low (k0 + 1) with ⟨k, -, k2, k3⟩ | h
  · refine ⟨k, k2, k3, ?_⟩
    have e1 : -(nI R) = nI (2 ^ 32 - (R - 1 + 1)) := by
      rw [show R - 1 + 1 = R by omega]
      apply Int32.toBitVec_inj.1
      apply BitVec.eq_of_toNat_eq
      show (-(BitVec.ofNat 32 R)).toNat = (BitVec.ofNat 32 (2 ^ 32 - R)).toNat
      rw [BitVec.toNat_neg, BitVec.toNat_ofNat, BitVec.toNat_ofNat, Nat.mod_eq_of_lt (show R < 2 ^ 32 by omega)]
    rw [e1, fa_and]
    congr 1
    apply Nat.eq_of_testBit_eq
    intro i
    rw [Nat.testBit_and, Nat.testBit_two_pow_sub_succ (by omega), Nat.testBit_two_pow]
    have hk := g_tb_lt hR k2
    have b1 : R - 1 = 2 ^ k * (R / 2 ^ k - 1) + (2 ^ k - 1) := by
      have d : R % 2 ^ k = 0 := by
        apply Nat.eq_of_testBit_eq
        intro j
        rw [Nat.testBit_mod_two_pow, Nat.zero_testBit]
        by_cases z : j < k
        · rw [k3 j z]; simp
        · simp [z]
      have dm := Nat.div_add_mod R (2 ^ k)
      have p := Nat.two_pow_pos k
      have q : 0 < R / 2 ^ k := by
        apply Nat.pos_of_ne_zero
        intro z
        rw [z, d] at dm
        omega
      have : 2 ^ k * (R / 2 ^ k) = 2 ^ k * (R / 2 ^ k - 1) + 2 ^ k := by
        rw [← Nat.mul_succ]
        congr 1
        omega
      omega
    have t := Nat.testBit_two_pow_mul_add (R / 2 ^ k - 1) (b := 2 ^ k - 1) (i := k) (by have := Nat.two_pow_pos k; omega) i
    rw [← b1] at t
    rw [t]
    by_cases z : i < k
    · rw [k3 i z, if_pos z]
      simp
      omega
    · rw [if_neg z]
      have od : R / 2 ^ k % 2 = 1 := by
        have := g_b_t R k
        rw [k2] at this
        exact this
      by_cases e : k = i
      · subst e
        rw [k2, Nat.sub_self]
        have : (R / 2 ^ k - 1).testBit 0 = false := by
          rw [Nat.testBit_zero]
          simp
          omega
        rw [this]
        simp
        omega
      · have e2 : (R / 2 ^ k - 1).testBit (i - k) = R.testBit i := by
          have a : R.testBit i = (R / 2 ^ k).testBit (i - k) := by
            rw [Nat.testBit_div_two_pow, show i - k + k = i by omega]
          have e4 : ∀ q : Nat, q % 2 = 1 → (q - 1) / 2 = q / 2 := fun q h => by omega
          have e3 := e4 _ od
          rw [a, show i - k = (i - k - 1) + 1 by omega, Nat.testBit_succ, Nat.testBit_succ, e3]
        rw [e2]
        have : decide (k = i) = false := decide_eq_false e
        rw [this]
        cases R.testBit i <;> simp
  · rw [h k0 (by omega)] at hk0
    cases hk0
