/-! AGEING (own): what an hour does -/
def ag_cl (w : Int32) (l : Nat) : Nat := if w < nI l then (if nI 0 < w then w.toNatClampNeg else 0) else l
theorem ag_clI {w : Int32} {l : Nat} (hl : l < 2 ^ 30) : (if nI 0 < (if w < nI l then w else nI l) then (if w < nI l then w else nI l) else nI 0) = nI (ag_cl w l) ∧ ag_cl w l ≤ l := by
  unfold ag_cl
  by_cases c : w < nI l
  · rw [if_pos c, if_pos c]
    by_cases d : nI 0 < w
    · rw [if_pos d, if_pos d]
      have nn : ¬ w < 0 := fun z => by
        rw [nI_0] at d
        exact Int32.lt_irrefl (Int32.lt_trans z d)
      obtain ⟨j, hj, e⟩ := nI_of2 (M := nI l) (n := l) (nI_toInt (by omega)) nn (Int32.le_of_lt c)
      subst e
      rw [fn_cl (by omega)]
      exact ⟨rfl, hj⟩
    · rw [if_neg d, if_neg d]
      exact ⟨rfl, Nat.zero_le _⟩
  · rw [if_neg c, if_neg c]
    refine ⟨?_, Nat.le_refl _⟩
    by_cases d : nI 0 < nI l
    · rw [if_pos d]
    · rw [if_neg d]
      have : l = 0 := by
        by_cases z : l = 0
        · exact z
        · exact (d ((nI_ltI (by decide) (by omega)).mpr (by omega))).elim
      rw [this]
abbrev ag_S : Type := (Nat → Nat) × Nat
def ag_w (G : bs_G) (U : bs_U) (S : bs_So) (h : Nat) (q : ag_S) (i : Nat) : Int32 := u_v (u_e (nI (q.1 i)) (nI h) (nI (g_lv G q.2 (g_fr G i) (g_nu G) + g_lv G q.2 (g_to G i) (g_nu G))) (nI (S.2.2.1 (g_so G (g_bo G i)))) (nI (S.2.1 (g_so G (g_bo G i))))) U
def ag_L (G : bs_G) (U : bs_U) (S : bs_So) (h : Nat) (q : ag_S) (i : Nat) : Nat := if q.1 i = 0 then 0 else q.1 i - ag_cl (ag_w G U S h q i) (q.1 i)
def ag_g (G : bs_G) (U : bs_U) (S : bs_So) (h : Nat) (q : ag_S) : Nat → Nat
  | 0 => q.2
  | i + 1 => if q.1 i ≠ 0 ∧ ag_L G U S h q i = 0 then ag_g G U S h q i ||| 2 ^ i else ag_g G U S h q i
def ag_o (G : bs_G) (U : bs_U) (S : bs_So) (h : Nat) (q : ag_S) : Nat := if ag_g G U S h q (g_nu G) = q.2 then q.2 else g_lc G (ag_g G U S h q (g_nu G))
def ag_s (G : bs_G) (U : bs_U) (S : bs_So) (h : Nat) (q : ag_S) : ag_S := (fun i => if (ag_o G U S h q).testBit i = true then 0 else ag_L G U S h q i, ag_o G U S h q)
def ag_n (G : bs_G) (U : bs_U) (S : bs_So) : Nat → ag_S
  | 0 => (g_le G, 0)
  | h + 1 => ag_s G U S (h + 1) (ag_n G U S h)
def ag_I (G : bs_G) (q : ag_S) : Prop := q.2 < 2 ^ g_nu G ∧ (∀ i, i < g_nu G → (q.1 i = 0 ↔ q.2.testBit i = true)) ∧ (∀ i, i < g_nu G → q.1 i ≤ 720) ∧ g_cl G q.2
theorem ag_g_sub {G : bs_G} {U : bs_U} {S : bs_So} {h : Nat} {q : ag_S} : ∀ n, g_sub q.2 (ag_g G U S h q n) := by
  intro n
  induction n with
  | zero => exact g_sub_rfl _
  | succ n ih =>
    rw [ag_g]
    by_cases c : q.1 n ≠ 0 ∧ ag_L G U S h q n = 0
    · rw [if_pos c]
      intro i hi
      rw [g_tb_or, ih i hi, Bool.true_or]
    · rw [if_neg c]
      exact ih
theorem ag_g_lt {G : bs_G} {U : bs_U} {S : bs_So} {h : Nat} {q : ag_S} (hq : q.2 < 2 ^ g_nu G) : ∀ n, n ≤ g_nu G → ag_g G U S h q n < 2 ^ g_nu G := by
  intro n
  induction n with
  | zero => intro _; exact hq
  | succ n ih =>
    intro hn
    rw [ag_g]
    by_cases c : q.1 n ≠ 0 ∧ ag_L G U S h q n = 0
    · rw [if_pos c]
      exact g_or_lt (ih (by omega)) (by omega)
    · rw [if_neg c]
      exact ih (by omega)
theorem ag_g_tb {G : bs_G} {U : bs_U} {S : bs_So} {h : Nat} {q : ag_S} {i : Nat} : ∀ n, (ag_g G U S h q n).testBit i = true ↔ q.2.testBit i = true ∨ (i < n ∧ q.1 i ≠ 0 ∧ ag_L G U S h q i = 0) := by
  intro n
  induction n with
  | zero => exact ⟨Or.inl, fun z => z.elim id fun z => absurd z.1 (Nat.not_lt_zero i)⟩
  | succ n ih =>
    rw [ag_g]
    by_cases c : q.1 n ≠ 0 ∧ ag_L G U S h q n = 0
    · rw [if_pos c, g_tb_or, Bool.or_eq_true, ih, decide_eq_true_eq]
      constructor
      · rintro ((a | a) | a)
        · exact Or.inl a
        · exact Or.inr ⟨by omega, a.2⟩
        · subst a
          exact Or.inr ⟨by omega, c⟩
      · rintro (a | a)
        · exact Or.inl (Or.inl a)
        · by_cases e : n = i
          · exact Or.inr e
          · exact Or.inl (Or.inr ⟨by omega, a.2⟩)
    · rw [if_neg c, ih]
      constructor
      · rintro (a | a)
        · exact Or.inl a
        · exact Or.inr ⟨by omega, a.2⟩
      · rintro (a | a)
        · exact Or.inl a
        · by_cases e : n = i
          · subst e
            exact (c a.2).elim
          · exact Or.inr ⟨by omega, a.2⟩
theorem ag_L_le {G : bs_G} {U : bs_U} {S : bs_So} {h : Nat} {q : ag_S} {i : Nat} : ag_L G U S h q i ≤ q.1 i := by
  unfold ag_L
  split
  · exact Nat.zero_le _
  · exact Nat.sub_le _ _
theorem ag_o_sub {G : bs_G} {U : bs_U} {S : bs_So} {h : Nat} {q : ag_S} : g_sub (ag_g G U S h q (g_nu G)) (ag_o G U S h q) := by
  unfold ag_o
  by_cases c : ag_g G U S h q (g_nu G) = q.2
  · rw [if_pos c, c]
    exact g_sub_rfl _
  · rw [if_neg c]
    exact g_lc_sub G _
theorem ag_o_lt {G : bs_G} {U : bs_U} {S : bs_So} {h : Nat} {q : ag_S} (hI : ag_I G q) : ag_o G U S h q < 2 ^ g_nu G := by
  unfold ag_o
  by_cases c : ag_g G U S h q (g_nu G) = q.2
  · rw [if_pos c]
    exact hI.1
  · rw [if_neg c]
    exact g_lc_lt (ag_g_lt hI.1 _ (Nat.le_refl _))
theorem ag_o_cl {G : bs_G} {U : bs_U} {S : bs_So} {h : Nat} {q : ag_S} (hI : ag_I G q) : g_cl G (ag_o G U S h q) := by
  unfold ag_o
  by_cases c : ag_g G U S h q (g_nu G) = q.2
  · rw [if_pos c]
    exact hI.2.2.2
  · rw [if_neg c]
    exact g_lc_cl (ag_g_lt hI.1 _ (Nat.le_refl _))
theorem ag_o_lc {G : bs_G} {U : bs_U} {S : bs_So} {h : Nat} {q : ag_S} (hI : ag_I G q) : ag_o G U S h q = g_lc G (ag_g G U S h q (g_nu G)) := by
  by_cases c : ag_g G U S h q (g_nu G) = q.2
  · rw [c]
    unfold ag_o
    rw [if_pos c]
    exact g_sub_eq (g_lc_sub G _) (g_lc_min hI.2.2.2 (g_sub_rfl _))
  · unfold ag_o
    rw [if_neg c]
theorem ag_s_I {G : bs_G} {U : bs_U} {S : bs_So} {h : Nat} {q : ag_S} (hI : ag_I G q) : ag_I G (ag_s G U S h q) := by
  refine ⟨ag_o_lt hI, fun i hi => ?_, fun i hi => ?_, ag_o_cl hI⟩
  · show (if (ag_o G U S h q).testBit i = true then 0 else ag_L G U S h q i) = 0 ↔ (ag_o G U S h q).testBit i = true
    by_cases c : (ag_o G U S h q).testBit i = true
    · rw [if_pos c]
      exact ⟨fun _ => c, fun _ => rfl⟩
    · rw [if_neg c]
      refine ⟨fun z => ?_, fun z => (c z).elim⟩
      refine ag_o_sub i ((ag_g_tb _).mpr ?_)
      by_cases e : q.1 i = 0
      · exact Or.inl ((hI.2.1 i hi).mp e)
      · exact Or.inr ⟨hi, e, z⟩
  · show (if (ag_o G U S h q).testBit i = true then 0 else ag_L G U S h q i) ≤ 720
    split
    · exact Nat.zero_le _
    · exact Nat.le_trans ag_L_le (hI.2.2.1 i hi)
theorem ag_0_cl (G : bs_G) : g_cl G 0 := fun i _ h => by
  rw [g_hl_c] at h
  rcases h with h | h
  · have := h.2.2.2
    rw [Nat.zero_testBit] at this
    cases this
  · have := h.2.2
    rw [Nat.zero_testBit] at this
    cases this
theorem ag_n_I {G : bs_G} (hG : g_iv G) (U : bs_U) (S : bs_So) : ∀ h, ag_I G (ag_n G U S h) := by
  intro h
  induction h with
  | zero =>
    refine ⟨Nat.two_pow_pos _, fun i hi => ?_, fun i hi => (g_bd hG.1 hi).2.2.2.1, ag_0_cl G⟩
    show g_le G i = 0 ↔ (0 : Nat).testBit i = true
    rw [Nat.zero_testBit]
    have := hG.2.2.2 i hi
    exact ⟨fun z => by omega, fun z => by cases z⟩
  | succ h ih => exact ag_s_I ih
theorem ag_Lc {G : bs_G} {U : bs_U} {S : bs_So} {h : Nat} {q : ag_S} {i : Nat} (h0 : q.1 i ≠ 0) : ag_L G U S h q i = q.1 i - ag_cl (ag_w G U S h q i) (q.1 i) := if_neg h0
