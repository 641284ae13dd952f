/-! READING A RULE (own): the class's steps (2): numbers -/
def q_v (T : Nat → Nat) (a : Nat) : Nat → Nat
  | 0 => 0
  | k + 1 => 10 * q_v T a k + (T (a + k) - 48)
theorem q_v_le {T : Nat → Nat} {a n : Nat} : ∀ k, (∀ i, i < k → tdg n T (a + i)) → q_v T a k + 1 ≤ 10 ^ k := by
  intro k
  induction k with
  | zero => intro _; exact Nat.le_refl _
  | succ k ih =>
    intro h
    have a1 := ih fun i hi => h i (by omega)
    have a2 := (h k (by omega)).2
    rw [q_v, Nat.pow_succ]
    omega
theorem sq_tkd {x t : Nat} {mu : bs_Mm} (hd : 48 ≤ t ∧ t ≤ 57) : FX7_takes x mu (nI t) = fg_b2 (FX7_takesDigit x mu (nI (t - 48))) (fun v33 mu32 => fg_gd (decide (v33 = 0 ∨ v33 = 1)) (some (v33, mu32))) := by
  unfold FX7_takes
  rw [(sf_isD (by omega)).1 hd, fg_bd_s, if_neg (by decide), fn_sub hd.1]
set_option maxHeartbeats 1000000 in
theorem rq_num {x n a : Nat} {T : Nat → Nat} {U : bs_U} {tj : Option (List Nat)} {c : List Nat} {W : List (Nat × Nat)} {kd ne pa pl : Nat} {mu : bs_Mm} (hS : qS x U tj c W kd ne pa pl 0 mu) (hT : cT x n T mu) (hp : pl = 2 ∨ pl = 3) (hb : u_z U + qz tj + c.length < 200) : ∀ k, k < 4 → (∀ i, i < k + 1 → tdg n T (a + i)) → ∃ mu', rq_go x n a mu = rq_go x n (a + (k + 1)) mu' ∧ qS x U tj (c ++ [q_v T a (k + 1)]) W kd ne pa 4 (k + 1) mu' ∧ qfr x mu mu' := by
  intro k
  induction k with
  | zero =>
    intro _ hd
    have h0 := hd 0 (by decide)
    rw [Nat.add_zero] at h0
    have hda := h0.1
    have hdg := h0.2
    have ev : q_v T a 1 = T a - 48 := by
      show 10 * 0 + (T (a + 0) - 48) = _
      rw [Nat.add_zero]
      omega
    obtain ⟨m1, t1, t2, t3⟩ := sq_tell (x := x) (i := T a - 48) hS.1.1 (show u_z U + qz tj + c.length < 201 by omega)
    rw [u_c_small (by omega)] at t1
    obtain ⟨m2, hm2⟩ : ∃ y, y = bs_up (bs_up m1 (x + 20) 9 (.int (nI 1))) (x + 20) 5 (.int (nI 4)) := ⟨_, rfl⟩
    have o2 : ∀ k, k ≠ 5 → k ≠ 9 → m2 (x + 20) k = mu (x + 20) k := fun k k5 k9 => by rw [hm2, bs_up_j k5, bs_up_j k9, t3 _ (by omega) (by omega)]
    have f2 : ∀ b, b ≠ x + 20 → m2 b = m1 b := fun b hb2 => by rw [hm2, bs_up_f hb2, bs_up_f hb2]
    have td : FX7_takesDigit x mu (nI (T a - 48)) = some (nI 1, m2) := by
      have j82 : FX7_takesDigit_j82 x mu (nI (T a - 48)) = some (nI 1, m2) := by
        unfold FX7_takesDigit_j82
        rw [t1, fg_bd_s, fg_wr_s, fg_wr_s, ← hm2]
      unfold FX7_takesDigit
      rw [hS.2.2, if_pos (by decide)]
      unfold FX7_takesDigit_j64
      rw [hS.2.1]
      rcases hp with e | e
      · subst e
        rw [if_pos rfl, j82]
      · subst e
        rw [if_neg (by decide), if_pos rfl, j82]
    have tk : FX7_takes x mu (nI (T a)) = some (nI 1, m2) := by rw [sq_tkd hdg, td, fg_b2_s, fg_dt z01_1, fg_gd_t]
    obtain ⟨q1, q2, q3, q4, q5, q6, q7⟩ := hS.1
    refine ⟨m2, (rq_step hT hda tk).1 (by decide), ⟨⟨qs_of (by rw [ev]; exact t2) (f2 _ (by omega)) (f2 _ (by omega)), by rw [o2 10 (by decide) (by decide)]; exact q2, qw_of _ q3 fun j _ => ⟨by rw [f2 _ (by omega), t3 _ (by omega) (by omega)], by rw [f2 _ (by omega), t3 _ (by omega) (by omega)]⟩, by rw [o2 4 (by decide) (by decide)]; exact q4, by rw [o2 6 (by decide) (by decide)]; exact q5, by rw [o2 7 (by decide) (by decide)]; exact q6, by rw [o2 8 (by decide) (by decide)]; exact q7⟩, by rw [hm2, bs_up_eq]; rfl, by rw [hm2, bs_up_j (by decide), bs_up_eq]; rfl⟩, fun b hb2 => by rw [f2 b (by omega), t3 b (by omega) (by omega)]⟩
  | succ k ih =>
    intro hk hd
    obtain ⟨m1, k1, k2, k3⟩ := ih (by omega) fun i hi => hd i (by omega)
    have h0 := hd (k + 1) (by omega)
    have hda := h0.1
    have hdg := h0.2
    have T1 := cT_q hT k3
    have vl := q_v_le (a := a) (T := T) (n := n) (k + 1) fun i hi => hd i (by omega)
    have p4 : 10 ^ (k + 1) ≤ 10 ^ 4 := Nat.pow_le_pow_right (by decide) (by omega)
    obtain ⟨q1, q2, q3, q4, q5, q6, q7⟩ := id k2.1
    obtain ⟨s1, s2, s3, s4⟩ := q1
    have sz : bs_iv (m1 (x + 21) 1) = nI (u_z U + qz tj + c.length + 1) := by rw [s4, List.length_append, List.length_singleton]; rfl
    have s3' := (u_s_app c [q_v T a (k + 1)] _).mp s3
    have lastv : bs_iv (m1 (x + 22) (u_z U + qz tj + c.length)) = nI (q_v T a (k + 1)) := by
      have := s3'.2.1
      rw [u_c_small (by omega)] at this
      exact this
    have ev : q_v T a (k + 1 + 1) = q_v T a (k + 1) * 10 + (T (a + (k + 1)) - 48) := by
      show 10 * q_v T a (k + 1) + (T (a + (k + 1)) - 48) = _
      omega
    obtain ⟨m2, hm2⟩ : ∃ y, y = bs_up m1 (x + 22) (u_z U + qz tj + c.length) (.int (nI (q_v T a (k + 1 + 1)))) := ⟨_, rfl⟩
    obtain ⟨m3, hm3⟩ : ∃ y, y = bs_up m2 (x + 20) 9 (.int (nI (k + 1 + 1))) := ⟨_, rfl⟩
    have f3 : ∀ b, b ≠ x + 20 → b ≠ x + 22 → m3 b = m1 b := fun b h1 h2 => by rw [hm3, bs_up_f h1, hm2, bs_up_f h2]
    have o3 : ∀ k, k ≠ 9 → m3 (x + 20) k = m1 (x + 20) k := fun k hk => by rw [hm3, bs_up_j hk, hm2, bs_up_f (by omega)]
    have old : ∀ j, j < u_z U + qz tj + c.length → m3 (x + 22) j = m1 (x + 22) j := fun j hj => by rw [hm3, bs_up_f (by omega), hm2, bs_up_j (by omega)]
    have e9 : bs_iv (m2 (x + 20) 9) = nI (k + 1) := by rw [hm2, bs_up_f (by omega)]; exact k2.2.2
    have td : FX7_takesDigit x m1 (nI (T (a + (k + 1)) - 48)) = some (nI 1, m3) := by
      unfold FX7_takesDigit
      rw [k2.2.2, if_neg (fun w => by rw [fn_le0 (by omega)] at w; omega), if_neg (fun w => by have := (nI_leI (by decide) (by omega)).mp w; omega), sz, fn_sub (by omega), Nat.add_sub_cancel, if_neg (nI_pos (by omega)), fn_in (show u_z U + qz tj + c.length < 201 by omega) (by decide), fg_gd_t, fg_gd_t, fn_cl (by omega), lastv, fn_mul, fn_add, ← ev, fg_wr_s, ← hm2, e9, fn_add, fg_wr_s, ← hm3]
    have tk : FX7_takes x m1 (nI (T (a + (k + 1)))) = some (nI 1, m3) := by rw [sq_tkd hdg, td, fg_b2_s, fg_dt z01_1, fg_gd_t]
    have vl2 := q_v_le (a := a) (T := T) (n := n) (k + 1 + 1) fun i hi => hd i (by omega)
    have p42 : 10 ^ (k + 1 + 1) ≤ 10 ^ 4 := Nat.pow_le_pow_right (by decide) (by omega)
    refine ⟨m3, k1.trans ((rq_step T1 hda tk).1 (by decide)), ⟨⟨⟨u_r_cg _ _ s1 fun j _ hj => by show bs_iv (m3 (x + 22) j) = _; rw [old j (by omega)], qt_cg s2 fun j hj => by show bs_iv (m3 (x + 22) j) = _; rw [old j (by omega)], (u_s_app c _ _).mpr ⟨u_s_cg _ _ s3'.1 fun j _ hj => by show bs_iv (m3 (x + 22) j) = _; rw [old j hj], ?_, trivial⟩, ?_⟩, by rw [o3 10 (by decide)]; exact q2, qw_of _ q3 fun j _ => ⟨by rw [f3 _ (by omega) (by omega)], by rw [f3 _ (by omega) (by omega)]⟩, by rw [o3 4 (by decide)]; exact q4, by rw [o3 6 (by decide)]; exact q5, by rw [o3 7 (by decide)]; exact q6, by rw [o3 8 (by decide)]; exact q7⟩, by rw [o3 5 (by decide)]; exact k2.2.1, by rw [hm3, bs_up_eq]; rfl⟩, fun b hb2 => by rw [f3 b (by omega) (by omega), k3 b hb2]⟩
    · show bs_iv (m3 (x + 22) (u_z U + qz tj + c.length)) = u_c (q_v T a (k + 1 + 1))
      rw [hm3, bs_up_f (by omega), hm2, bs_up_eq, u_c_small (by omega)]
      rfl
    · rw [f3 _ (by omega) (by omega), sz, List.length_append, List.length_singleton]
      rfl
/-- a digit where none may be -/
theorem rq_digN {x n a : Nat} {T : Nat → Nat} {U : bs_U} {tj : Option (List Nat)} {c : List Nat} {W : List (Nat × Nat)} {kd ne pa pl dg : Nat} {mu : bs_Mm} (hS : qS x U tj c W kd ne pa pl dg mu) (hT : cT x n T mu) (hd : tdg n T a) (hp : pl ≠ 2 ∧ pl ≠ 3 ∧ pl < 100) (h : dg = 0 ∨ dg = 4) : rq_F x n a mu a := by
  have hda := hd.1
  have hdg := hd.2
  have j64 : FX7_takesDigit_j64 x mu (nI (T a - 48)) = some (nI 0, mu) := by
    unfold FX7_takesDigit_j64
    rw [hS.2.1, if_neg (fun w => hp.1 ((nI_eq (by omega) (by decide)).mp w)), if_neg (fun w => hp.2.1 ((nI_eq (by omega) (by decide)).mp w))]
  have td : FX7_takesDigit x mu (nI (T a - 48)) = some (nI 0, mu) := by
    unfold FX7_takesDigit
    rw [hS.2.2]
    rcases h with e | e
    · subst e
      rw [if_pos (by decide), j64]
    · subst e
      rw [if_neg (by decide), if_pos (by decide), j64]
  exact rq_F_ref hT hda (by rw [sq_tkd hdg, td, fg_b2_s, fg_dt z01_0, fg_gd_t]) (qfr_rfl x mu)
