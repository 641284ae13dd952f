/-! TWICE: sets of bubbles, their odd points, and ways between these -/
theorem tw_x3 (a b c d : Nat) : (a ^^^ (b ^^^ c)) ^^^ (c ^^^ d) = a ^^^ (b ^^^ d) := by
  rw [Nat.xor_assoc, Nat.xor_assoc, ← Nat.xor_assoc c c, Nat.xor_self, Nat.zero_xor]
theorem tw_wt {G : bs_G} {T i : Nat} (hi : i < g_nu G) : g_wt G (T ^^^ 2 ^ i) (g_nu G) ≤ g_wt G T (g_nu G) + g_le G i := by
  cases c : T.testBit i with
  | true =>
    have := g_wt_rm c hi
    omega
  | false =>
    have c2 : (T ^^^ 2 ^ i).testBit i = true := by rw [Nat.testBit_xor, c, Nat.testBit_two_pow_self]; rfl
    have := g_wt_rm c2 hi
    rw [g_xx] at this
    omega
theorem tw_ee {G : bs_G} {i r q : Nat} (h : ds_e G i r q) : g_eb G i = 2 ^ r ^^^ 2 ^ q := by
  unfold g_eb
  rcases h.2 with ⟨a, b⟩ | ⟨a, b⟩
  · rw [a, b]
  · rw [a, b, Nat.xor_comm]
theorem tw_walk {G : bs_G} {s : Nat} : ∀ n q w, ds_w G s n q w → ∀ T, T < 2 ^ g_nu G → ∃ T2, T2 < 2 ^ g_nu G ∧ g_om G T2 (g_nu G) = g_om G T (g_nu G) ^^^ (2 ^ s ^^^ 2 ^ q) ∧ g_wt G T2 (g_nu G) ≤ g_wt G T (g_nu G) + w := by
  intro n
  induction n with
  | zero =>
    rintro q w ⟨rfl, rfl⟩ T hT
    exact ⟨T, hT, by rw [Nat.xor_self, Nat.xor_zero], Nat.le_refl _⟩
  | succ n ih =>
    rintro q w ⟨r, v, i, h1, h2, rfl⟩ T hT
    obtain ⟨T1, t1, t2, t3⟩ := ih r v h1 T hT
    have t4 := tw_wt (T := T1) h2.1
    refine ⟨T1 ^^^ 2 ^ i, g_xor_lt t1 (Nat.pow_lt_pow_right (by decide) h2.1), ?_, by omega⟩
    rw [g_om_tg h2.1, t2, tw_ee h2, tw_x3]
theorem tw_om {G : bs_G} {T p : Nat} : ∀ n, (g_om G T n).testBit p = true → ∃ i, i < n ∧ T.testBit i = true ∧ (g_eb G i).testBit p = true := by
  intro n
  induction n with
  | zero =>
    intro h
    rw [g_om, Nat.zero_testBit] at h
    cases h
  | succ n ih =>
    intro h
    rw [g_om] at h
    by_cases c : T.testBit n = true
    · rw [if_pos c, Nat.testBit_xor] at h
      by_cases d : (g_eb G n).testBit p = true
      · exact ⟨n, by omega, c, d⟩
      · rw [Bool.eq_false_iff.mpr d, Bool.xor_false] at h
        obtain ⟨i, h1, h2⟩ := ih h
        exact ⟨i, by omega, h2⟩
    · rw [if_neg c] at h
      obtain ⟨i, h1, h2⟩ := ih h
      exact ⟨i, by omega, h2⟩
theorem tw_eb {G : bs_G} {i p : Nat} (h : (g_eb G i).testBit p = true) : ∃ r, r ≠ p ∧ ((g_fr G i = p ∧ g_to G i = r) ∨ (g_to G i = p ∧ g_fr G i = r)) := by
  unfold g_eb at h
  rw [Nat.testBit_xor, Nat.testBit_two_pow, Nat.testBit_two_pow] at h
  by_cases a : g_fr G i = p
  · by_cases b : g_to G i = p
    · rw [decide_eq_true a, decide_eq_true b] at h
      cases h
    · exact ⟨g_to G i, b, Or.inl ⟨a, rfl⟩⟩
  · by_cases b : g_to G i = p
    · exact ⟨g_fr G i, a, Or.inr ⟨b, rfl⟩⟩
    · rw [decide_eq_false a, decide_eq_false b] at h
      cases h
theorem tw_peel {G : bs_G} (hG : g_ok G) : ∀ k T p, pc_n T 32 ≤ k → T < 2 ^ g_nu G → (g_om G T (g_nu G)).testBit p = true → ∃ c T', c ≠ p ∧ (g_om G T (g_nu G)).testBit c = true ∧ T' < 2 ^ g_nu G ∧ g_om G T' (g_nu G) = g_om G T (g_nu G) ^^^ (2 ^ p ^^^ 2 ^ c) ∧ ds_F G p c + g_wt G T' (g_nu G) ≤ g_wt G T (g_nu G) := by
  have q0 := g_bn hG
  intro k
  induction k with
  | zero =>
    intro T p hk hT hp
    obtain ⟨i, i1, i2, i3⟩ := tw_om _ hp
    have := pc_rm i2 (show i < 32 by omega)
    omega
  | succ k ih =>
    intro T p hk hT hp
    obtain ⟨i, i1, i2, i3⟩ := tw_om _ hp
    obtain ⟨r, r1, r2⟩ := tw_eb i3
    have de : ds_e G i p r := ⟨i1, r2⟩
    have pr := pc_rm i2 (show i < 32 by omega)
    have ed := ds_e_F de
    have w := g_wt_rm (G := G) i2 i1
    have T1 : T ^^^ 2 ^ i < 2 ^ g_nu G := g_xor_lt hT (Nat.pow_lt_pow_right (by decide) i1)
    have om : g_om G (T ^^^ 2 ^ i) (g_nu G) = g_om G T (g_nu G) ^^^ (2 ^ p ^^^ 2 ^ r) := by rw [g_om_tg i1, tw_ee de]
    by_cases c : (g_om G T (g_nu G)).testBit r = true
    · exact ⟨r, T ^^^ 2 ^ i, r1, c, T1, om, by omega⟩
    · have bit : ∀ z, (g_om G (T ^^^ 2 ^ i) (g_nu G)).testBit z = ((g_om G T (g_nu G)).testBit z ^^ (decide (p = z) ^^ decide (r = z))) := fun z => by rw [om, Nat.testBit_xor, Nat.testBit_xor, Nat.testBit_two_pow, Nat.testBit_two_pow]
      have hr : (g_om G (T ^^^ 2 ^ i) (g_nu G)).testBit r = true := by
        rw [bit]
        simp [c, Ne.symm r1]
      obtain ⟨c', T', c1, c2, c3, c4, c5⟩ := ih (T ^^^ 2 ^ i) r (by omega) T1 hr
      have cp : c' ≠ p := by
        intro h
        subst h
        rw [bit, hp] at c2
        simp [r1] at c2
      have tri := ds_F_tri (G := G) (ds_e_np hG de).2 p c'
      refine ⟨c', T', cp, ?_, c3, ?_, by omega⟩
      · rw [bit] at c2
        simpa [Ne.symm cp, Ne.symm c1] using c2
      · rw [c4, om, tw_x3]
/-- points told by a row and a set of its places, as bits -/
def tw_P (O : Nat → Nat) (L : Nat) : Nat → Nat
  | 0 => 0
  | n + 1 => if L.testBit n = true then tw_P O L n ^^^ 2 ^ O n else tw_P O L n
theorem tw_P_rm {O : Nat → Nat} {S b : Nat} (hb : S.testBit b = true) : ∀ n, tw_P O S n = tw_P O (S ^^^ 2 ^ b) n ^^^ (if b < n then 2 ^ O b else 0) := by
  intro n
  induction n with
  | zero =>
    rw [if_neg (Nat.not_lt_zero b), Nat.xor_zero]
    rfl
  | succ n ih =>
    simp only [tw_P]
    rw [ih]
    by_cases e : b = n
    · subst e
      rw [if_pos hb, if_neg (show ¬ (S ^^^ 2 ^ b).testBit b = true by rw [g_rm_e hb]; decide), if_neg (by omega), if_pos (by omega), Nat.xor_zero]
    · have q : (S ^^^ 2 ^ b).testBit n = S.testBit n := by rw [g_rm hb]; simp [e]
      have r : (if b < n + 1 then 2 ^ O b else 0) = if b < n then 2 ^ O b else 0 := by
        by_cases l : b < n
        · rw [if_pos l, if_pos (by omega)]
        · rw [if_neg l, if_neg (by omega)]
      rw [r, q]
      by_cases c : S.testBit n = true
      · rw [if_pos c, if_pos c, Nat.xor_assoc, Nat.xor_assoc, Nat.xor_comm (2 ^ O n)]
      · rw [if_neg c, if_neg c]
theorem tw_P_0 (O : Nat → Nat) : ∀ n, tw_P O 0 n = 0 := by
  intro n
  induction n with
  | zero => rfl
  | succ n ih => rw [tw_P, if_neg (by rw [Nat.zero_testBit]; decide), ih]
theorem tw_P_m {O : Nat → Nat} {L c : Nat} : ∀ n, (tw_P O L n).testBit c = true → ∃ i, i < n ∧ L.testBit i = true ∧ O i = c := by
  intro n
  induction n with
  | zero =>
    intro h
    rw [tw_P, Nat.zero_testBit] at h
    cases h
  | succ n ih =>
    intro h
    rw [tw_P] at h
    by_cases d : L.testBit n = true
    · by_cases e : O n = c
      · exact ⟨n, by omega, d, e⟩
      · rw [if_pos d, Nat.testBit_xor, Nat.testBit_two_pow, decide_eq_false e, Bool.xor_false] at h
        obtain ⟨i, h1, h2⟩ := ih h
        exact ⟨i, by omega, h2⟩
    · rw [if_neg d] at h
      obtain ⟨i, h1, h2⟩ := ih h
      exact ⟨i, by omega, h2⟩
theorem tw_P_y {O : Nat → Nat} {L b : Nat} (hb : L.testBit b = true) : ∀ n, (∀ i j, i < n → j < n → O i = O j → i = j) → b < n → (tw_P O L n).testBit (O b) = true := by
  intro n
  induction n with
  | zero => intro _ h; omega
  | succ n ih =>
    intro inj hn
    rw [tw_P]
    by_cases e : b = n
    · subst e
      have no : (tw_P O L b).testBit (O b) = false := by
        refine Bool.eq_false_iff.mpr fun h => ?_
        obtain ⟨i, i1, i2, i3⟩ := tw_P_m _ h
        have := inj i b (by omega) (by omega) i3
        omega
      rw [if_pos hb, Nat.testBit_xor, no, Nat.testBit_two_pow_self]
      rfl
    · have h := ih (fun i j hi hj => inj i j (by omega) (by omega)) (by omega)
      have ne : ¬ O n = O b := fun h => e ((inj n b (by omega) (by omega) h).symm)
      by_cases d : L.testBit n = true
      · rw [if_pos d, Nat.testBit_xor, h, Nat.testBit_two_pow, decide_eq_false ne]
        rfl
      · rw [if_neg d]
        exact h
theorem pc_tg (x : Nat) {c : Nat} (hc : c < 32) : pc_n (x ^^^ 2 ^ c) 32 ≤ pc_n x 32 + 1 := by
  cases h : x.testBit c with
  | true =>
    have := pc_rm h hc
    omega
  | false =>
    have h2 : (x ^^^ 2 ^ c).testBit c = true := by rw [Nat.testBit_xor, h, Nat.testBit_two_pow_self]; rfl
    have := pc_rm h2 hc
    rw [g_xx] at this
    omega
/-- a set of bubbles that leaves at most s points of these odd -/
def tw_Q (G : bs_G) (O : Nat → Nat) (n L s T : Nat) : Prop := T < 2 ^ g_nu G ∧ pc_n (g_om G T (g_nu G) ^^^ tw_P O L n) 32 ≤ s
def tw_R (G : bs_G) (O : Nat → Nat) (n L s l : Nat) : Prop := l ≤ 1000000 ∧ (l = 1000000 ∨ ∃ T, tw_Q G O n L s T ∧ g_wt G T (g_nu G) ≤ l) ∧ ∀ T, tw_Q G O n L s T → l ≤ g_wt G T (g_nu G)
def tw_B (G : bs_G) (O : Nat → Nat) (n L b s j l : Nat) : Prop := l ≤ 1000000 ∧ (l = 1000000 ∨ ∃ T, tw_Q G O n L s T ∧ g_wt G T (g_nu G) ≤ l) ∧ (∀ T, 0 < s → tw_Q G O n (L ^^^ 2 ^ b) (s - 1) T → l ≤ g_wt G T (g_nu G)) ∧ ∀ q, b < q → q < j → L.testBit q = true → ∀ T, tw_Q G O n ((L ^^^ 2 ^ b) ^^^ 2 ^ q) s T → l ≤ ds_F G (O b) (O q) + g_wt G T (g_nu G)
theorem tw_R0 (G : bs_G) (O : Nat → Nat) (n s : Nat) : tw_R G O n 0 s 0 := by
  refine ⟨Nat.zero_le _, Or.inr ⟨0, ⟨Nat.two_pow_pos _, ?_⟩, ?_⟩, fun _ _ => Nat.zero_le _⟩
  · rw [g_om_0, tw_P_0, Nat.xor_self]
    have : pc_n 0 32 = 0 := by decide
    omega
  · have : ∀ k, g_wt G 0 k = 0 := by
      intro k
      induction k with
      | zero => rfl
      | succ k ih =>
        show g_wt G 0 k + (if g_bt 0 k = 1 then g_le G k else 0) = 0
        rw [ih, if_neg]
        rw [g_bt_tb, Nat.zero_testBit]
        decide
    rw [this]
    exact Nat.le_refl _
theorem tw_B0 {G : bs_G} {O : Nat → Nat} {n L b : Nat} : tw_B G O n L b 0 (b + 1) 1000000 :=
  ⟨Nat.le_refl _, Or.inl rfl, fun _ h => absurd h (Nat.lt_irrefl 0), fun q h1 h2 => by omega⟩
theorem tw_B1 {G : bs_G} {O : Nat → Nat} {n L b s l : Nat} (hb : L.testBit b = true) (hn : b < n) (ho : O b < 32) (hs : 0 < s) (h : tw_R G O n (L ^^^ 2 ^ b) (s - 1) l) : tw_B G O n L b s (b + 1) l := by
  obtain ⟨h1, h2, h3⟩ := h
  refine ⟨h1, ?_, fun T _ => h3 T, fun q h1 h2 => by omega⟩
  rcases h2 with h2 | ⟨T, ⟨t1, t2⟩, t3⟩
  · exact Or.inl h2
  · refine Or.inr ⟨T, ⟨t1, ?_⟩, t3⟩
    have e := tw_P_rm (O := O) hb n
    rw [if_pos hn] at e
    rw [e, ← Nat.xor_assoc]
    have := pc_tg (g_om G T (g_nu G) ^^^ tw_P O (L ^^^ 2 ^ b) n) ho
    omega
theorem tw_Bn {G : bs_G} {O : Nat → Nat} {n L b s j l : Nat} (hj : ¬ L.testBit j = true) (h : tw_B G O n L b s j l) : tw_B G O n L b s (j + 1) l := by
  refine ⟨h.1, h.2.1, h.2.2.1, fun q h1 h2 h3 => h.2.2.2 q h1 ?_ h3⟩
  have : q ≠ j := fun e => hj (by rw [← e]; exact h3)
  omega
theorem tw_Bs {G : bs_G} {O : Nat → Nat} {n L b s j l v : Nat} (hb : L.testBit b = true) (hj : L.testBit j = true) (hbj : b < j) (hn : j < n) (h : tw_B G O n L b s j l) (hv : tw_R G O n ((L ^^^ 2 ^ b) ^^^ 2 ^ j) s v) : tw_B G O n L b s (j + 1) (min (ds_F G (O b) (O j) + v) l) := by
  obtain ⟨h1, h2, h3, h4⟩ := h
  obtain ⟨v1, v2, v3⟩ := hv
  refine ⟨by omega, ?_, fun T a b => Nat.le_trans (Nat.min_le_right _ _) (h3 T a b), fun q q1 q2 q3 T hT => ?_⟩
  · by_cases c : ds_F G (O b) (O j) + v < l
    · rw [Nat.min_eq_left (by omega)]
      rcases v2 with v2 | ⟨T, ⟨t1, t2⟩, t3⟩
      · omega
      · obtain ⟨k, hk⟩ := ds_w_M (G := G) (g_np G) (O b) (O j) (show ds_F G (O b) (O j) < 1000000 by omega)
        obtain ⟨T2, u1, u2, u3⟩ := tw_walk k _ _ hk T t1
        have u3 : g_wt G T2 (g_nu G) ≤ g_wt G T (g_nu G) + ds_F G (O b) (O j) := u3
        refine Or.inr ⟨T2, ⟨u1, ?_⟩, by omega⟩
        have e1 := tw_P_rm (O := O) hb n
        have e2 := tw_P_rm (O := O) (g_rm_y hb hj (by omega)) n
        rw [if_pos (by omega)] at e1 e2
        have e3 : g_om G T2 (g_nu G) ^^^ tw_P O L n = g_om G T (g_nu G) ^^^ tw_P O ((L ^^^ 2 ^ b) ^^^ 2 ^ j) n := by
          rw [u2, e1, e2]
          apply Nat.eq_of_testBit_eq
          intro z
          simp only [Nat.testBit_xor]
          cases (g_om G T (g_nu G)).testBit z <;> cases (2 ^ O b).testBit z <;> cases (2 ^ O j).testBit z <;> cases (tw_P O ((L ^^^ 2 ^ b) ^^^ 2 ^ j) n).testBit z <;> rfl
        rw [e3]
        exact t2
    · rw [Nat.min_eq_right (by omega)]
      exact h2
  · by_cases e : q = j
    · subst e
      have := v3 T hT
      omega
    · exact Nat.le_trans (Nat.min_le_right _ _) (h4 q q1 (by omega) q3 T hT)
theorem tw_Be {G : bs_G} (hG : g_ok G) {O : Nat → Nat} {n L b s l : Nat} (inj : ∀ i j, i < n → j < n → O i = O j → i = j) (ho : ∀ i, i < n → O i < 32) (hb : g_lw L b) (hn : b < n) (h : tw_B G O n L b s n l) : tw_R G O n L s l := by
  have q0 := g_bn hG
  obtain ⟨h1, h2, h3, h4⟩ := h
  refine ⟨h1, h2, fun T hT => ?_⟩
  obtain ⟨t1, t2⟩ := hT
  have Pb := tw_P_y hb.1 n inj hn
  have e := tw_P_rm (O := O) hb.1 n
  rw [if_pos hn] at e
  by_cases c : (g_om G T (g_nu G)).testBit (O b) = true
  · obtain ⟨z, T', z1, z2, z3, z4, z5⟩ := tw_peel hG _ T (O b) (Nat.le_refl _) t1 c
    have zl : z < 30 := g_tb_lt (g_om_lt hG T _ (Nat.le_refl _)) z2
    by_cases d : (tw_P O L n).testBit z = true
    · obtain ⟨j, j1, j2, j3⟩ := tw_P_m _ d
      subst j3
      have jb : j ≠ b := fun h => z1 (by rw [h])
      have lt : b < j := by
        by_cases y : j < b
        · have := hb.2 j y
          rw [this] at j2
          cases j2
        · omega
      have e2 := tw_P_rm (O := O) (g_rm_y hb.1 j2 (Ne.symm jb)) n
      rw [if_pos j1] at e2
      refine Nat.le_trans (h4 j lt j1 j2 T' ⟨z3, ?_⟩) z5
      have e3 : g_om G T' (g_nu G) ^^^ tw_P O ((L ^^^ 2 ^ b) ^^^ 2 ^ j) n = g_om G T (g_nu G) ^^^ tw_P O L n := by
        rw [z4, e, e2]
        apply Nat.eq_of_testBit_eq
        intro y
        simp only [Nat.testBit_xor]
        cases (g_om G T (g_nu G)).testBit y <;> cases (2 ^ O b).testBit y <;> cases (2 ^ O j).testBit y <;> cases (tw_P O ((L ^^^ 2 ^ b) ^^^ 2 ^ j) n).testBit y <;> rfl
      rw [e3]
      exact t2
    · have x1 : (g_om G T (g_nu G) ^^^ tw_P O L n).testBit z = true := by
        rw [Nat.testBit_xor, z2, Bool.eq_false_iff.mpr d]
        rfl
      have x2 := pc_rm x1 (show z < 32 by omega)
      have e3 : g_om G T' (g_nu G) ^^^ tw_P O (L ^^^ 2 ^ b) n = (g_om G T (g_nu G) ^^^ tw_P O L n) ^^^ 2 ^ z := by
        rw [z4, e]
        apply Nat.eq_of_testBit_eq
        intro y
        simp only [Nat.testBit_xor]
        cases (g_om G T (g_nu G)).testBit y <;> cases (2 ^ O b).testBit y <;> cases (2 ^ z).testBit y <;> cases (tw_P O (L ^^^ 2 ^ b) n).testBit y <;> rfl
      have := h3 T' (by omega) ⟨z3, by rw [e3]; omega⟩
      omega
  · have x1 : (g_om G T (g_nu G) ^^^ tw_P O L n).testBit (O b) = true := by
      rw [Nat.testBit_xor, Pb, Bool.eq_false_iff.mpr c]
      rfl
    have x2 := pc_rm x1 (ho b hn)
    have e3 : g_om G T (g_nu G) ^^^ tw_P O (L ^^^ 2 ^ b) n = (g_om G T (g_nu G) ^^^ tw_P O L n) ^^^ 2 ^ O b := by
      rw [e]
      apply Nat.eq_of_testBit_eq
      intro y
      simp only [Nat.testBit_xor]
      cases (g_om G T (g_nu G)).testBit y <;> cases (2 ^ O b).testBit y <;> cases (tw_P O (L ^^^ 2 ^ b) n).testBit y <;> rfl
    exact h3 T (by omega) ⟨t1, by rw [e3]; omega⟩
