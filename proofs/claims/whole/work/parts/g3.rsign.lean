/-! READING A RULE (own): the class's steps (3): signs -/
theorem fn_eqd {a b : Nat} (ha : a < 1000) (hb : b < 1000) : (nI a = nI b) = (a = b) := fn_eq (by omega) (by omega)
theorem nI_ne {a b : Nat} (ha : a < 1000) (hb : b < 1000) (h : a ≠ b) : ¬ nI a = nI b := fun w => h ((nI_eq (by omega) (by omega)).mp w)
/-- a sign joins -/
theorem sq_joins {x o p2 k3 dg : Nat} {U : bs_U} {tj : Option (List Nat)} {c : List Nat} {Wx W0 : List (Nat × Nat)} {kd ne pa : Nat} {mu : bs_Mm} (h : qc x U tj c (Wx ++ W0) kd (ne + q_bg Wx) pa mu) (h9 : bs_iv (mu (x + 20) 9) = nI dg) (ho : 1 ≤ tg o) (ho2 : o < 1000) (hx : ∀ w, w ∈ Wx → tg o ≤ tg w.1) (h0 : ∀ w W, W0 = w :: W → tg w.1 < tg o) (hb : u_z U + qz tj + c.length + Wx.length < 201) (hw : (Wx ++ W0).length ≤ 200) (hw0 : W0.length < 200) (hk : kd < 1000) (hne : ne + q_bg Wx < 1000) : ∃ mu', FX7_joins x mu (nI o) (nI p2) (nI k3) = some (nI 1, mu') ∧ qS x U tj (c ++ q_ops Wx) ((o, kd) :: W0) k3 ne pa p2 dg mu' ∧ qfr x mu mu' := by
  have t6 : tg o ≤ 6 := by unfold tg; repeat' split
                           all_goals omega
  obtain ⟨m1, a1, a2, a3, a4⟩ := sq_tellW (t := tg o) ho Wx W0 c ne mu h hx h0 hb hw hne (by omega)
  obtain ⟨m2, b1, b2, b3, b4⟩ := sq_await (o := o) a2 hw0 ho2 hk
  have o2 : ∀ k, k ≠ 5 → k ≠ 6 → bs_up (bs_up m2 (x + 20) 5 (.int (nI p2))) (x + 20) 6 (.int (nI k3)) (x + 20) k = m2 (x + 20) k := fun k k5 k6 => by rw [bs_up_j k6, bs_up_j k5]
  have f2 : ∀ a, a ≠ x + 20 → bs_up (bs_up m2 (x + 20) 5 (.int (nI p2))) (x + 20) 6 (.int (nI k3)) a = m2 a := fun a ha => by rw [bs_up_f ha, bs_up_f ha]
  obtain ⟨s1, s2, s3, s4, s5, s6, s7⟩ := b2
  refine ⟨_, ?_, ⟨⟨qs_of s1 (f2 _ (by omega)) (f2 _ (by omega)), by rw [o2 10 (by decide) (by decide)]; exact s2, qw_of _ s3 fun j _ => ⟨by rw [f2 _ (by omega)], by rw [f2 _ (by omega)]⟩, by rw [o2 4 (by decide) (by decide)]; exact s4, by rw [bs_up_eq]; rfl, by rw [o2 7 (by decide) (by decide)]; exact s6, by rw [o2 8 (by decide) (by decide)]; exact s7⟩, by rw [bs_up_j (by decide), bs_up_eq]; rfl, ?_⟩, fun a ha => by rw [f2 a (by omega), b4 a ha, a4 a ha]⟩
  · unfold FX7_joins
    rw [sf_tg ho2, fg_bd_s, a1, fg_bd_s, b1, fg_bd_s, fg_wr_s, fg_wr_s]
  · rw [o2 9 (by decide) (by decide), b3 9 (by decide), a3 9 (by decide) (by decide)]
    exact h9
theorem sq_tk4 {x t : Nat} {U : bs_U} {tj : Option (List Nat)} {c : List Nat} {W : List (Nat × Nat)} {kd ne pa dg : Nat} {mu : bs_Mm} (hS : qS x U tj c W kd ne pa 4 dg mu) (ht : t ≤ 255) (hd : ¬ (48 ≤ t ∧ t ≤ 57)) (h32 : t ≠ 32) : FX7_takes x mu (nI t) = fg_b2 (FX7_takesSign x (bs_up mu (x + 20) 9 (.int (nI 0))) (nI t)) (fun v29 mu28 => fg_gd (decide (v29 = 0 ∨ v29 = 1)) (some (v29, mu28))) := by
  rw [sq_tk ht hd h32, (qS_9 hS).2.1, if_neg (by decide), if_neg (by decide), if_neg (by decide), if_neg (by decide)]
theorem sq_whole {x kd : Nat} {mu : bs_Mm} (h : bs_iv (mu (x + 20) 6) = nI kd) (hk : kd < 1000) : FX7_unitIsWhole x mu = some (nI (if kd = 2 ∨ kd = 5 then 1 else 0)) := by
  unfold FX7_unitIsWhole
  rw [h]
  by_cases c2 : kd = 2
  · rw [if_pos (by rw [c2]), if_pos (Or.inl c2)]
  · rw [if_neg (nI_ne hk (by decide) c2)]
    by_cases c5 : kd = 5
    · rw [if_pos (by rw [c5]), if_pos (Or.inr c5)]
    · rw [if_neg (nI_ne hk (by decide) c5), if_neg (by omega)]
def q_ar (t : Nat) : Prop := t = 42 ∨ t = 43 ∨ t = 45 ∨ t = 47
def q_cm (t : Nat) : Prop := t = 60 ∨ t = 61 ∨ t = 62
def q_lo (t : Nat) : Prop := t = 38 ∨ t = 124
/-- which sign joins, and what comes of it -/
def q_jn (t kd p2 k3 : Nat) : Prop := (q_ar t ∧ kd ≠ 5 ∧ p2 = 3 ∧ k3 = kd) ∨ (q_cm t ∧ (kd = 0 ∨ kd = 1) ∧ p2 = 3 ∧ k3 = 2) ∨ (q_lo t ∧ (kd = 2 ∨ kd = 5) ∧ p2 = 2 ∧ k3 = 1)
theorem b2_j {M : Option (Int32 × bs_Mm)} {m1 : bs_Mm} (h : M = some (nI 1, m1)) : (fg_b2 M (fun v mu => if v = 0 then (some ((nI 0), mu)) else (some ((nI 1), mu)))) = some (nI 1, m1) := by
  rw [h, fg_b2_s, if_neg (by decide)]
theorem b2_n {M : Option (Int32 × bs_Mm)} {m1 : bs_Mm} (h : M = some (nI 0, m1)) : (fg_b2 M (fun v mu => if v = 0 then (some ((nI 0), mu)) else (some ((nI 1), mu)))) = some (nI 0, m1) := by
  rw [h, fg_b2_s, if_pos (by decide)]
theorem sq_sgn_j {x t p2 k3 kd : Nat} {mu m1 : bs_Mm} (hk : bs_iv (mu (x + 20) 6) = nI kd) (hk2 : kd < 1000) (hj : q_jn t kd p2 k3) (h : FX7_joins x mu (nI t) (nI p2) (nI k3) = some (nI 1, m1)) : FX7_takesSign x mu (nI t) = some (nI 1, m1) := by
  unfold FX7_takesSign
  rcases hj with ⟨e, e1, e2, e3⟩ | ⟨e, e1, e2, e3⟩ | ⟨e, e1, e2, e3⟩
  · rw [e2, e3] at h
    have n5 : ¬ nI kd = nI 5 := nI_ne hk2 (by decide) e1
    rcases e with e | e | e | e
    · subst e
      rw [if_neg (by decide), if_neg (by decide), if_pos rfl, hk, if_neg n5, b2_j h]
    · subst e
      rw [if_neg (by decide), if_neg (by decide), if_neg (by decide), if_pos rfl, hk, if_neg n5, b2_j h]
    · subst e
      rw [if_neg (by decide), if_neg (by decide), if_neg (by decide), if_neg (by decide), if_pos rfl, hk, if_neg n5, b2_j h]
    · subst e
      rw [if_neg (by decide), if_neg (by decide), if_neg (by decide), if_neg (by decide), if_neg (by decide), if_pos rfl, hk, if_neg n5, b2_j h]
  · rw [e2, e3] at h
    have j158 : FX7_takesSign_j158 x mu (nI t) = some (nI 1, m1) := b2_j h
    have k01 : (if nI kd = 0 then FX7_takesSign_j158 x mu (nI t) else if nI kd = nI 1 then FX7_takesSign_j158 x mu (nI t) else some (nI 0, mu)) = some (nI 1, m1) := by
      rcases e1 with e1 | e1
      · subst e1
        rw [if_pos nI_0, j158]
      · subst e1
        rw [if_neg (by decide), if_pos rfl, j158]
    rcases e with e | e | e
    · subst e
      rw [if_neg (by decide), if_neg (by decide), if_neg (by decide), if_neg (by decide), if_neg (by decide), if_neg (by decide), if_neg (by decide), if_pos rfl, hk, k01]
    · subst e
      rw [if_neg (by decide), if_neg (by decide), if_neg (by decide), if_neg (by decide), if_neg (by decide), if_neg (by decide), if_neg (by decide), if_neg (by decide), if_pos rfl, hk, k01]
    · subst e
      rw [if_neg (by decide), if_neg (by decide), if_neg (by decide), if_neg (by decide), if_neg (by decide), if_neg (by decide), if_neg (by decide), if_neg (by decide), if_neg (by decide), if_pos rfl, hk, k01]
  · rw [e2, e3] at h
    have w := sq_whole hk hk2
    rw [if_pos e1] at w
    rcases e with e | e
    · subst e
      rw [if_pos rfl, w, fg_bd_s, if_neg (by decide), b2_j h]
    · subst e
      rw [if_neg (by decide), if_neg (by decide), if_neg (by decide), if_neg (by decide), if_neg (by decide), if_neg (by decide), if_neg (by decide), if_neg (by decide), if_neg (by decide), if_neg (by decide), if_neg (by decide), if_neg (by decide), if_pos rfl, w, fg_bd_s, if_neg (by decide), b2_j h]
theorem q_jn_t {t kd p2 k3 : Nat} (h : q_jn t kd p2 k3) : t < 1000 ∧ 1 ≤ tg t ∧ t ≠ 32 ∧ ¬ (48 ≤ t ∧ t ≤ 57) := by
  have e : t = 42 ∨ t = 43 ∨ t = 45 ∨ t = 47 ∨ t = 60 ∨ t = 61 ∨ t = 62 ∨ t = 38 ∨ t = 124 := by
    rcases h with ⟨e, _⟩ | ⟨e, _⟩ | ⟨e, _⟩
    · unfold q_ar at e; omega
    · unfold q_cm at e; omega
    · unfold q_lo at e; omega
  rcases e with e | e | e | e | e | e | e | e | e
  · subst e; decide
  · subst e; decide
  · subst e; decide
  · subst e; decide
  · subst e; decide
  · subst e; decide
  · subst e; decide
  · subst e; decide
  · subst e; decide
/-- behind an operand: a sign that joins -/
theorem rq_join {x n a p2 k3 : Nat} {T : Nat → Nat} {U : bs_U} {tj : Option (List Nat)} {c : List Nat} {Wx W0 : List (Nat × Nat)} {kd ne pa dg : Nat} {mu : bs_Mm} (hS : qS x U tj c (Wx ++ W0) kd (ne + q_bg Wx) pa 4 dg mu) (hT : cT x n T mu) (ha : a < n) (hj : q_jn (T a) kd p2 k3) (hx : ∀ w, w ∈ Wx → tg (T a) ≤ tg w.1) (h0 : ∀ w W, W0 = w :: W → tg w.1 < tg (T a)) (hb : u_z U + qz tj + c.length + Wx.length < 201) (hw : (Wx ++ W0).length ≤ 200) (hw0 : W0.length < 200) (hk : kd < 1000) (hne : ne + q_bg Wx < 1000) : ∃ mu', rq_go x n a mu = rq_go x n (a + 1) mu' ∧ qS x U tj (c ++ q_ops Wx) ((T a, kd) :: W0) k3 ne pa p2 0 mu' ∧ qfr x mu mu' := by
  obtain ⟨t1, t2, t3, t4⟩ := q_jn_t hj
  have h9 := qS_9 hS
  obtain ⟨m1, a1, a2, a3⟩ := sq_joins (x := x) (o := T a) (p2 := p2) (k3 := k3) h9.1 h9.2.2 t2 t1 hx h0 hb hw hw0 hk hne
  have tk : FX7_takes x mu (nI (T a)) = some (nI 1, m1) := by
    rw [sq_tk4 hS (hT.2.2 a ha).2.2 t4 t3, sq_sgn_j h9.1.2.2.2.2.1 hk hj a1, fg_b2_s, fg_dt z01_1, fg_gd_t]
  exact ⟨m1, (rq_step hT ha tk).1 (by decide), a2, qfr_tr qfr_9 a3⟩
/-- behind an operand: a sign that may not stand -/
def q_no (t kd pa : Nat) : Prop := (q_ar t → kd = 5) ∧ (q_cm t → kd ≠ 0 ∧ kd ≠ 1) ∧ (q_lo t → kd ≠ 2 ∧ kd ≠ 5) ∧ (t = 41 → (kd ≠ 2 ∧ kd ≠ 5) ∨ pa = 0) ∧ (t = 63 → (kd ≠ 2 ∧ kd ≠ 5) ∨ pa ≠ 0) ∧ (t = 93 → kd ≠ 4) ∧ (t = 59 → kd ≠ 0 ∧ kd ≠ 3)
theorem sq_sgn_n {x t pa kd : Nat} {mu : bs_Mm} (ht : t < 1000) (hk : bs_iv (mu (x + 20) 6) = nI kd) (hp : bs_iv (mu (x + 20) 8) = nI pa) (hp2 : pa < 1000) (hk2 : kd < 1000) (h : q_no t kd pa) : FX7_takesSign x mu (nI t) = some (nI 0, mu) := by
  obtain ⟨h1, h2, h3, h4, h5, h6, h7⟩ := h
  unfold q_ar at h1
  unfold q_cm at h2
  unfold q_lo at h3
  have w := sq_whole hk hk2
  have cm : ∀ r, (kd ≠ 0 ∧ kd ≠ 1) → (if nI kd = 0 then r else if nI kd = nI 1 then r else some (nI 0, mu)) = some (nI 0, mu) := fun r hr => by
    rw [if_neg (fun w => nI_ne hk2 (by decide) hr.1 (w.trans nI_0.symm)), if_neg (nI_ne hk2 (by decide) hr.2)]
  unfold FX7_takesSign
  simp only [fn_eqd ht (show 38 < 1000 by decide), fn_eqd ht (show 41 < 1000 by decide), fn_eqd ht (show 42 < 1000 by decide), fn_eqd ht (show 43 < 1000 by decide), fn_eqd ht (show 45 < 1000 by decide), fn_eqd ht (show 47 < 1000 by decide), fn_eqd ht (show 59 < 1000 by decide), fn_eqd ht (show 60 < 1000 by decide), fn_eqd ht (show 61 < 1000 by decide), fn_eqd ht (show 62 < 1000 by decide), fn_eqd ht (show 63 < 1000 by decide), fn_eqd ht (show 93 < 1000 by decide), fn_eqd ht (show 124 < 1000 by decide)]
  by_cases e38 : t = 38
  · have := h3 (Or.inl e38)
    rw [if_pos e38, w, fg_bd_s, if_neg (show ¬ (kd = 2 ∨ kd = 5) by omega), if_pos nI_0]
  rw [if_neg e38]
  by_cases e41 : t = 41
  · rw [if_pos e41, w, fg_bd_s]
    by_cases c : kd = 2 ∨ kd = 5
    · have p0 : pa = 0 := by have := h4 e41; omega
      subst p0
      rw [if_pos c, if_neg (by decide), hp, if_pos (by decide)]
    · rw [if_neg c, if_pos nI_0]
  rw [if_neg e41]
  have n5 : (t = 42 ∨ t = 43 ∨ t = 45 ∨ t = 47) → nI kd = nI 5 := fun e => by rw [h1 e]
  by_cases e42 : t = 42
  · rw [if_pos e42, hk, if_pos (n5 (by omega))]
  rw [if_neg e42]
  by_cases e43 : t = 43
  · rw [if_pos e43, hk, if_pos (n5 (by omega))]
  rw [if_neg e43]
  by_cases e45 : t = 45
  · rw [if_pos e45, hk, if_pos (n5 (by omega))]
  rw [if_neg e45]
  by_cases e47 : t = 47
  · rw [if_pos e47, hk, if_pos (n5 (by omega))]
  rw [if_neg e47]
  by_cases e59 : t = 59
  · have := h7 e59
    rw [if_pos e59]
    unfold FX7_endsClause
    rw [hk, if_neg (fun w => nI_ne hk2 (by decide) this.1 (w.trans nI_0.symm)), if_neg (nI_ne hk2 (by decide) this.2), fg_b2_s, fg_dt z01_0, fg_gd_t]
  rw [if_neg e59]
  by_cases e60 : t = 60
  · rw [if_pos e60, hk, cm _ (h2 (by omega))]
  rw [if_neg e60]
  by_cases e61 : t = 61
  · rw [if_pos e61, hk, cm _ (h2 (by omega))]
  rw [if_neg e61]
  by_cases e62 : t = 62
  · rw [if_pos e62, hk, cm _ (h2 (by omega))]
  rw [if_neg e62]
  by_cases e63 : t = 63
  · rw [if_pos e63, w, fg_bd_s]
    by_cases c : kd = 2 ∨ kd = 5
    · have p0 : pa ≠ 0 := by have := h5 e63; omega
      rw [if_pos c, if_neg (by decide), hp, if_neg (fun w => nI_ne hp2 (by decide) p0 (w.trans nI_0.symm))]
    · rw [if_neg c, if_pos nI_0]
  rw [if_neg e63]
  by_cases e93 : t = 93
  · rw [if_pos e93, hk, if_neg (nI_ne hk2 (by decide) (h6 e93))]
  rw [if_neg e93]
  by_cases e124 : t = 124
  · have := h3 (Or.inr e124)
    rw [if_pos e124, w, fg_bd_s, if_neg (show ¬ (kd = 2 ∨ kd = 5) by omega), if_pos nI_0]
  rw [if_neg e124]
theorem rq_no {x n a : Nat} {T : Nat → Nat} {U : bs_U} {tj : Option (List Nat)} {c : List Nat} {W : List (Nat × Nat)} {kd ne pa dg : Nat} {mu : bs_Mm} (hS : qS x U tj c W kd ne pa 4 dg mu) (hT : cT x n T mu) (ha : a < n) (hd : ¬ tdg n T a) (h32 : T a ≠ 32) (h : q_no (T a) kd pa) (hk : kd < 1000) (hp : pa < 1000) : rq_F x n a mu a := by
  have h9 := qS_9 hS
  have ta := (hT.2.2 a ha).2.2
  exact rq_F_ref hT ha (by rw [sq_tk4 hS ta (fun w => hd ⟨ha, w⟩) h32, sq_sgn_n (by omega) h9.1.2.2.2.2.1 h9.1.2.2.2.2.2.2 hp hk h, fg_b2_s, fg_dt z01_0, fg_gd_t]) qfr_9
