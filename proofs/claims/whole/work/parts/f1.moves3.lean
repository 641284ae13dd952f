/-! READING A FIGURE (own): MOVES, both sides (3) -/
set_option maxHeartbeats 1000000 in
theorem sim_moves {x m f n : Nat} {l : Int32} {T : Nat → Nat} (hf : f ≤ 12) : ∀ j s a mc mm, rf_d s + j = 8 → gS x m f n l T s true a mc mm → ∃ mm', FX12_moves m (fg_rA m j) mm = some mm' ∧ sim_E x m f n l T s a mc mm mm' := by
  intro j
  induction j with
  | zero =>
    intro s a mc mm hj hS
    have := hS.1.2.2.2.2.2.1
    omega
  | succ j ih =>
    intro s a mc mm hj hS
    have n200 := hS.2.2.2.2.1.2.1
    have an := hS.2.2.2.2.2.2.2.1
    obtain ⟨t, t1, t2, k, t3, t4, t5⟩ := fg_lp_i (body := FX12_moves_b4 m (fg_rA m (j + 1))) (fun r st => sim_T x m f n l T s a mc mm r st) (fun t => sim_U x m f n l T s a mc mm t) (fun r st hI => sim_turn hf n200 hj ih hI) fg_fu (n - a + 2) (nI 0, nI 1, mm) ⟨mfr_rfl m f mm, 0, rfl, by omega, Or.inl ⟨s, a, mc, rfl, Nat.zero_le _, hS, rf_x_rfl s, Nat.le_refl _, rfl, cfr_rfl x mc, rfl⟩⟩ (fg_fu_lt (by omega))
    obtain ⟨cv, mm1⟩ := t
    have t3 : cv = nI k := t3
    subst t3
    have t2 : mfr m f mm mm1 := t2
    unfold FX12_moves
    rw [t1, fg_bd_s]
    rcases t5 with ⟨s1, a1, mc1, g1, x1, st1, la, go1, fr1⟩ | ⟨p, p1, p2, p3⟩
    · have g1 : gS x m f n l T s1 (decide (k = 0)) a1 mc1 mm1 := g1
      obtain ⟨i1, i2, i3, i4, i5, i6, i7, i8, i9⟩ := id g1
      by_cases c : k = 0
      · subst c
        rw [decide_eq_true rfl] at i2
        rw [if_pos nI_0, tf_bad i6 i7, fg_bd_s]
        exact ⟨_, rfl, mfr_m t2 (fun j _ j2 _ _ _ => bs_up_j j2) (fun a ha => bs_up_f ha), Or.inr ⟨a1, by rw [bs_up_eq]; rfl, i8, rd_F_go go1 fr1 (rc_due i1 i2 i4 i8 st1)⟩⟩
      · rw [decide_eq_false c] at g1
        rw [if_neg (by rw [fn_eq0 (by omega)]; exact c)]
        exact ⟨mm1, rfl, t2, Or.inl ⟨s1, a1, mc1, g1, x1, st1, la, go1, fr1⟩⟩
    · have p1 : bs_iv (mm1 m 9) = nI p := p1
      by_cases c : k = 0
      · subst c
        rw [if_pos nI_0, tf_bad2 (by omega) p1, fg_bd_s]
        exact ⟨_, rfl, mfr_m t2 (fun j _ j2 _ _ _ => bs_up_j j2) (fun a ha => bs_up_f ha), Or.inr ⟨p, by rw [bs_up_eq]; rfl, p2, p3⟩⟩
      · rw [if_neg (by rw [fn_eq0 (by omega)]; exact c)]
        exact ⟨mm1, rfl, t2, Or.inr ⟨p, p1, p2, p3⟩⟩
/-- a BALLOON begins: the state behind its sort -/
def rf_Pg (s : rf_S) (c : Nat) : bs_G := ((g_nb (rf_g s) + 1, g_nu (rf_g s), g_np (rf_g s) + 1, g_mh (rf_g s)), bs_fn (g_so (rf_g s)) (g_nb (rf_g s)) c, (rf_g s).2.2)
def rf_P (s : rf_S) (c : Nat) : rf_S := (rf_Pg s c, rf_Br s, rf_n s, g_np (rf_g s), rf_d s, rf_k s)
/-- what holds between balloons, ahead of the first one too -/
def rf_o0 (s : rf_S) : Prop := g_ok (rf_R (rf_g s) (rf_r s)) ∧ g_np (rf_g s) = g_nb (rf_g s) + g_nu (rf_g s) ∧ (∀ i, i < g_nu (rf_g s) → g_fr (rf_g s) i < g_np (rf_g s) ∧ g_to (rf_g s) i < g_np (rf_g s)) ∧ (∀ i p, i < 8 → rf_n s i = some p → p < g_np (rf_g s)) ∧ rf_d s = 0 ∧ (∀ p, p < g_np (rf_g s) → rf_r s p ≤ p ∧ rf_r s (rf_r s p) = rf_r s p) ∧ (∀ i, i < g_nu (rf_g s) → 1 ≤ g_le (rf_g s) i ∧ g_le (rf_g s) i ≤ 30) ∧ (∀ i, i + 1 < g_nu (rf_g s) → g_bo (rf_g s) i = g_bo (rf_g s) (i + 1) → g_fr (rf_g s) (i + 1) = g_to (rf_g s) i)
theorem rf_ok_o0 {s : rf_S} (h : rf_ok s) (hd : rf_d s = 0) : rf_o0 s := by
  obtain ⟨h1, h2, h3, h4, h5, h6, h7, h8, h9, h10, h11, h12⟩ := h
  exact ⟨h1, h2, h3, h4, hd, h8, h9, h10⟩
theorem rf_ok_P {s : rf_S} (h : rf_o0 s) (hb : g_nb (rf_g s) < 6) {c : Nat} (hc : c < 6) : rf_ok (rf_P s c) := by
  obtain ⟨a1, a2, a3, a4, a5, a6, a7, a8⟩ := h
  have q0 := g_bn a1
  have q1 : g_nu (rf_g s) ≤ 24 := q0.2.1
  have bo : ∀ i, i < g_nu (rf_g s) → g_bo (rf_g s) i < g_nb (rf_g s) := fun i hi => (a1.2.2.2.1 i hi).2.2
  have rb : ∀ z, z < g_np (rf_g s) → rf_Br s z = rf_r s z := fun z hz => rf_Br_o hz
  refine ⟨⟨show g_nb (rf_g s) + 1 ≤ 6 by omega, q1, show g_np (rf_g s) + 1 ≤ 30 by omega, fun i hi => ?_, fun b hb2 => ?_, fun b hb2 => ?_, a1.2.2.2.2.2.2.1, a1.2.2.2.2.2.2.2⟩, show g_np (rf_g s) + 1 = g_nb (rf_g s) + 1 + g_nu (rf_g s) by omega, fun i hi => ?_, fun i p hi hp => ?_, Nat.lt_succ_self _, by show rf_d s ≤ 6; omega, fun k hk => ?_, fun p hp => ?_, a7, a8, fun i hi he => ?_, Nat.le_add_left 1 _⟩
  · have d := a3 i hi
    have d1 := (a6 _ d.1).1
    have d2 := (a6 _ d.2).1
    have d3 := bo i hi
    show rf_Br s (g_fr (rf_g s) i) < g_np (rf_g s) + 1 ∧ rf_Br s (g_to (rf_g s) i) < g_np (rf_g s) + 1 ∧ g_bo (rf_g s) i < g_nb (rf_g s) + 1
    rw [rb _ d.1, rb _ d.2]
    omega
  · have hb2 : b < g_nb (rf_g s) + 1 := hb2
    show bs_fn (g_so (rf_g s)) (g_nb (rf_g s)) c b < 6
    by_cases e : b = g_nb (rf_g s)
    · subst e
      rw [bs_fn_s]
      exact hc
    · rw [bs_fn_n e]
      exact a1.2.2.2.2.1 b (show b < g_nb (rf_g s) by omega)
  · refine Nat.le_trans (g_sm30 (n := g_nu (rf_g s)) fun i hi => ?_) (by omega)
    show (if g_bo (rf_g s) i = b then g_le (rf_g s) i else 0) ≤ 30
    split
    · exact (a7 i hi).2
    · omega
  · have d := a3 i hi
    exact ⟨Nat.lt_succ_of_lt d.1, Nat.lt_succ_of_lt d.2⟩
  · exact Nat.lt_succ_of_lt (a4 i p hi hp)
  · have hk : k < rf_d s := hk
    omega
  · have hp : p < g_np (rf_g s) + 1 := hp
    show rf_Br s p ≤ p ∧ rf_Br s (rf_Br s p) = rf_Br s p
    by_cases e : p = g_np (rf_g s)
    · subst e
      rw [rf_Br_n, rf_Br_n]
      exact ⟨Nat.le_refl _, rfl⟩
    · have c := a6 p (by omega)
      rw [rf_Br_o (show p < g_np (rf_g s) by omega), rf_Br_o (show rf_r s p < g_np (rf_g s) by omega)]
      exact c
  · have he : g_bo (rf_g s) i + 1 = g_nb (rf_g s) + 1 := he
    have hi : i + 1 = g_nu (rf_g s) := hi
    have := bo i (by omega)
    omega
