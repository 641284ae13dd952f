/-! RUN: what a run does; the class's -/
def rn_x (x : Int64) : Int64 := x * (6364136223846793005 : Int64) + (1442695040888963407 : Int64)
theorem rn_xe (x : Int64) : x * (6364136223846793005 : Int64) + (1442695040888963407 : Int64) = rn_x x := rfl
theorem rn_100 : decide (¬ (100 : Int64) = 0) = true := by decide
abbrev rn_pop (x : Int64) (ch : Int32) : Prop := lg_cmp (((Int64.toUInt64 x >>> ((Int32.toInt64 (nI 33)).toUInt64 &&& Int64.toUInt64 63)).toInt64) - ((Int64.toUInt64 x >>> ((Int32.toInt64 (nI 33)).toUInt64 &&& Int64.toUInt64 63)).toInt64) / (100 : Int64) * (100 : Int64)) (Int32.toInt64 ch) < 0
/-- balloons taken till one stays whole: n are there; taken, tick, x -/
def rn_mk (tk ch : Int32) : Nat → Int32 × Int32 × Int64 → Bool × Nat × Int32 × Int32 × Int64
  | 0, s => (false, 0, s)
  | n + 1, s => if rn_pop (rn_x s.2.2) ch then rn_mk tk ch n (s.1 + nI 1, s.2.1 + tk, rn_x s.2.2) else (true, n, s.1 + nI 1, s.2.1 + tk, rn_x s.2.2)
theorem rn_mk_le (tk ch : Int32) : ∀ n s, (rn_mk tk ch n s).2.1 ≤ n := by
  intro n
  induction n with
  | zero => intro s; exact Nat.le_refl _
  | succ n ih =>
    intro s
    rw [rn_mk]
    split
    · exact Nat.le_trans (ih _) (Nat.le_succ n)
    · exact Nat.le_succ n
/-- what making a balloon leaves -/
def rn_R (x g k : Nat) (mu mu1 : bs_Mm) (n : Nat) (t w : Int32) (X : Int64) : Prop := bs_iv (mu1 (x + 59) k) = nI n ∧ bs_iv (mu1 (x + 55) g) = t ∧ bs_iv (mu1 (x + 54) g) = w ∧ bs_lv (mu1 (x + 50) 14) = X ∧ (∀ j, j ≠ k → mu1 (x + 59) j = mu (x + 59) j) ∧ (∀ j, j ≠ g → mu1 (x + 55) j = mu (x + 55) j) ∧ (∀ j, j ≠ g → mu1 (x + 54) j = mu (x + 54) j) ∧ (∀ j, j ≠ 14 → mu1 (x + 50) j = mu (x + 50) j) ∧ ∀ a, a ≠ x + 50 → a ≠ x + 54 → a ≠ x + 55 → a ≠ x + 59 → mu1 a = mu a
set_option maxHeartbeats 1000000 in
theorem sf_mkB {x g k n : Nat} {tk ch t w : Int32} {X : Int64} {mu : bs_Mm} (hg : g < 30) (hk : k < 6) (hn : n ≤ 99) (h : rn_R x g k mu mu n t w X) : ∃ mu', FX9_makesBalloon x mu (nI g) (nI k) tk ch = some (if (rn_mk tk ch n (t, w, X)).1 then nI 1 else nI 0, mu') ∧ rn_R x g k mu mu' (rn_mk tk ch n (t, w, X)).2.1 (rn_mk tk ch n (t, w, X)).2.2.1 (rn_mk tk ch n (t, w, X)).2.2.2.1 (rn_mk tk ch n (t, w, X)).2.2.2.2 := by
  unfold FX9_makesBalloon
  refine Exists.elim (fg_lp_i (body := FX9_makesBalloon_b0 x (nI g) (nI k) tk ch) (fun r mu1 => ∃ t' w' X', r ≤ n ∧ rn_R x g k mu mu1 r t' w' X' ∧ rn_mk tk ch r (t', w', X') = rn_mk tk ch n (t, w, X)) (fun q => (∃ mu1, q = .inl mu1 ∧ (rn_mk tk ch n (t, w, X)).1 = false ∧ rn_R x g k mu mu1 (rn_mk tk ch n (t, w, X)).2.1 (rn_mk tk ch n (t, w, X)).2.2.1 (rn_mk tk ch n (t, w, X)).2.2.2.1 (rn_mk tk ch n (t, w, X)).2.2.2.2) ∨ ∃ mu1, q = .inr (nI 1, mu1) ∧ (rn_mk tk ch n (t, w, X)).1 = true ∧ rn_R x g k mu mu1 (rn_mk tk ch n (t, w, X)).2.1 (rn_mk tk ch n (t, w, X)).2.2.1 (rn_mk tk ch n (t, w, X)).2.2.2.1 (rn_mk tk ch n (t, w, X)).2.2.2.2) (fun r mu1 hI => ?_) fg_fu n mu ⟨t, w, X, Nat.le_refl _, h, rfl⟩ (fg_fu_lt (by omega))) (fun q hq => ?_)
  · obtain ⟨t', w', X', hr, hR, he⟩ := hI
    obtain ⟨r1, r2, r3, r4, r5, r6, r7, r8, r9⟩ := id hR
    cases r with
    | zero =>
      refine Or.inr ⟨.inl mu1, ?_, Or.inl ⟨mu1, rfl, by rw [← he]; rfl, by rw [← he]; exact hR⟩⟩
      unfold FX9_makesBalloon_b0
      rw [fn_in (by omega) (by decide), fg_gd_t, fn_cl (by omega), r1, if_pos (show nI 0 ≤ 0 by decide)]
    | succ r =>
      have hR2 : rn_R x g k mu (bs_up (bs_up (bs_up (bs_up mu1 (x + 59) k (.int (nI r))) (x + 55) g (.int (t' + nI 1))) (x + 54) g (.int (w' + tk))) (x + 50) 14 (.long (rn_x X'))) r (t' + nI 1) (w' + tk) (rn_x X') := by
        refine ⟨?_, ?_, ?_, ?_, fun j hj => ?_, fun j hj => ?_, fun j hj => ?_, fun j hj => ?_, fun a a1 a2 a3 a4 => ?_⟩
        · rw [bs_up_f (by omega), bs_up_f (by omega), bs_up_f (by omega), bs_up_eq]; rfl
        · rw [bs_up_f (by omega), bs_up_f (by omega), bs_up_eq]; rfl
        · rw [bs_up_f (by omega), bs_up_eq]; rfl
        · rw [bs_up_eq]; rfl
        · rw [bs_up_f (by omega), bs_up_f (by omega), bs_up_f (by omega), bs_up_j hj]; exact r5 j hj
        · rw [bs_up_f (by omega), bs_up_f (by omega), bs_up_j hj, bs_up_f (by omega)]; exact r6 j hj
        · rw [bs_up_f (by omega), bs_up_j hj, bs_up_f (by omega), bs_up_f (by omega)]; exact r7 j hj
        · rw [bs_up_j hj, bs_up_f (by omega), bs_up_f (by omega), bs_up_f (by omega)]; exact r8 j hj
        · rw [bs_up_f a1, bs_up_f a2, bs_up_f a3, bs_up_f a4]; exact r9 a a1 a2 a3 a4
      have e1 : ∀ v, bs_up mu1 (x + 59) k v (x + 55) = mu1 (x + 55) := fun v => bs_up_f (by omega)
      have e2 : ∀ v u, bs_up (bs_up mu1 (x + 59) k v) (x + 55) g u (x + 54) = mu1 (x + 54) := fun v u => by rw [bs_up_f (by omega), bs_up_f (by omega)]
      have e3 : ∀ v u z, bs_up (bs_up (bs_up mu1 (x + 59) k v) (x + 55) g u) (x + 54) g z (x + 50) = mu1 (x + 50) := fun v u z => by rw [bs_up_f (by omega), bs_up_f (by omega), bs_up_f (by omega)]
      have ev : FX9_makesBalloon_b0 x (nI g) (nI k) tk ch mu1 = if rn_pop (rn_x X') ch then some (.inl (bs_up (bs_up (bs_up (bs_up mu1 (x + 59) k (.int (nI r))) (x + 55) g (.int (t' + nI 1))) (x + 54) g (.int (w' + tk))) (x + 50) 14 (.long (rn_x X')))) else some (.inr (.inr (nI 1, bs_up (bs_up (bs_up (bs_up mu1 (x + 59) k (.int (nI r))) (x + 55) g (.int (t' + nI 1))) (x + 54) g (.int (w' + tk))) (x + 50) 14 (.long (rn_x X'))))) := by
        unfold FX9_makesBalloon_b0
        rw [fn_in (by omega) (by decide), fg_gd_t, fn_cl (by omega), r1, if_neg (by rw [fn_le0 (by omega)]; omega), fg_gd_t, fg_gd_t, fg_wr_s, fn_in (show g < 30 by omega) (by decide), fg_gd_t, fg_gd_t, fn_cl (show g < 2 ^ 31 by omega), fg_wr_s, fg_gd_t, fg_gd_t, fg_wr_s, fg_wr_s, e1, e2, e3, r2, r3, r4, fn_sub (by omega), Nat.add_sub_cancel, bs_up_eq, bs_lv_l, rn_xe, rn_100, fg_gd_t]
      rw [rn_mk] at he
      by_cases c : rn_pop (rn_x X') ch
      · rw [if_pos c] at he
        exact Or.inl ⟨_, r, by rw [ev, if_pos c], Nat.lt_succ_self r, t' + nI 1, w' + tk, rn_x X', by omega, hR2, he⟩
      · rw [if_neg c] at he
        exact Or.inr ⟨_, by rw [ev, if_neg c], Or.inr ⟨_, rfl, by rw [← he], by rw [← he]; exact hR2⟩⟩
  · obtain ⟨q1, q2⟩ := hq
    rw [q1]
    rcases q2 with ⟨mu1, e, e2, e3⟩ | ⟨mu1, e, e2, e3⟩
    · subst e
      rw [fg_l3_l, e2]
      exact ⟨mu1, rfl, e3⟩
    · subst e
      rw [fg_l3_r, e2]
      exact ⟨mu1, rfl, e3⟩
abbrev rn_S : Type := (Nat → Nat) × Int32 × Int32 × Int64
/-- the balloons of a figure one after the other; how it went, and the shelf, taken, tick, x behind it -/
def rn_f (G : bs_G) (pu pb : Int32) (CH : Nat → Int32) : Nat → Nat → rn_S → Int32 × rn_S
  | 0, _, s => (nI 0, s)
  | r + 1, b, s => if (rn_mk (pb + pu * nI (g_cb G b (g_nu G))) (CH (g_so G b)) (s.1 (g_so G b)) s.2).1 = true then rn_f G pu pb CH r (b + 1) (bs_fn s.1 (g_so G b) (rn_mk (pb + pu * nI (g_cb G b (g_nu G))) (CH (g_so G b)) (s.1 (g_so G b)) s.2).2.1, (rn_mk (pb + pu * nI (g_cb G b (g_nu G))) (CH (g_so G b)) (s.1 (g_so G b)) s.2).2.2) else (nI 3, bs_fn s.1 (g_so G b) (rn_mk (pb + pu * nI (g_cb G b (g_nu G))) (CH (g_so G b)) (s.1 (g_so G b)) s.2).2.1, (rn_mk (pb + pu * nI (g_cb G b (g_nu G))) (CH (g_so G b)) (s.1 (g_so G b)) s.2).2.2)
/-- what a guest's turn leaves in the class -/
def rn_C (x g : Nat) (mu mu1 : bs_Mm) (s : rn_S) : Prop := (∀ k, k < 6 → bs_iv (mu1 (x + 59) k) = nI (s.1 k) ∧ s.1 k ≤ 99) ∧ bs_iv (mu1 (x + 55) g) = s.2.1 ∧ bs_iv (mu1 (x + 54) g) = s.2.2.1 ∧ bs_lv (mu1 (x + 50) 14) = s.2.2.2 ∧ (∀ j, j ≠ g → mu1 (x + 55) j = mu (x + 55) j) ∧ (∀ j, j ≠ g → mu1 (x + 54) j = mu (x + 54) j) ∧ (∀ j, j ≠ 14 → mu1 (x + 50) j = mu (x + 50) j) ∧ ∀ a, a ≠ x + 50 → a ≠ x + 54 → a ≠ x + 55 → a ≠ x + 59 → a ≠ x + 60 → mu1 a = mu a
theorem rn_C_mk {x g k : Nat} {mu mu1 mu2 : bs_Mm} {s : rn_S} {q : Nat × Int32 × Int32 × Int64} (h : rn_C x g mu mu1 s) (hq : q.1 ≤ 99) (hR : rn_R x g k mu1 mu2 q.1 q.2.1 q.2.2.1 q.2.2.2) : rn_C x g mu mu2 (bs_fn s.1 k q.1, q.2) := by
  obtain ⟨h1, h2, h3, h4, h5, h6, h7, h8⟩ := h
  obtain ⟨r1, r2, r3, r4, r5, r6, r7, r8, r9⟩ := hR
  refine ⟨fun j hj => ?_, r2, r3, r4, fun j hj => (r6 j hj).trans (h5 j hj), fun j hj => (r7 j hj).trans (h6 j hj), fun j hj => (r8 j hj).trans (h7 j hj), fun a a1 a2 a3 a4 a5 => (r9 a a1 a2 a3 a4).trans (h8 a a1 a2 a3 a4 a5)⟩
  show bs_iv (mu2 (x + 59) j) = nI (bs_fn s.1 k q.1 j) ∧ bs_fn s.1 k q.1 j ≤ 99
  by_cases e : j = k
  · subst e
    rw [bs_fn_s]
    exact ⟨r1, hq⟩
  · rw [bs_fn_n e, r5 j e]
    exact h1 j hj
theorem sf_bubOf {x f : Nat} {mu : bs_Mm} {G : bs_G} (hV : cFv f G mu) (hG : g_ok G) {b : Nat} (hb : b < 2 ^ 30) : FX1_bubblesOf x f mu (nI b) = some (nI (g_cb G b (g_nu G))) := by
  have q0 := g_bn hG
  unfold FX1_bubblesOf
  rw [fg_lp_n (fun i => (nI (g_cb G b i), nI i)) (nI (g_cb G b (g_nu G))) (g_nu G) (by rfl) (fun i hi => ?_) ?_ (fg_fu_lt (by omega))]
  · rfl
  · unfold FX1_bubblesOf_b4
    simp (disch := omega) only [fg_gd_t, fg_bd_s, fg_b2_s, fg_wr_s, fg_let_s, fn_add, fn_sub, fn_mul, fn_cl, fn_lt, fn_le, fn_eq, fn_eq0, fn_lt0, fn_0le, fn_0lt, fn_le0, fn_in, fn_shl, fn_shr, fa_and, fa_or, bs_xorI, if_true, if_false, hV.2.1, Nat.le_refl]
  · have bd := g_bd hG hi
    have st : g_cb G b (i + 1) = g_cb G b i + g_if (g_bo G i = b) := rfl
    unfold FX1_bubblesOf_b4
    simp (disch := omega) only [fg_gd_t, fg_bd_s, fg_b2_s, fg_wr_s, fg_let_s, fn_add, fn_sub, fn_mul, fn_cl, fn_lt, fn_le, fn_eq, fn_eq0, fn_lt0, fn_0le, fn_0lt, fn_le0, fn_in, fn_shl, fn_shr, fa_and, fa_or, bs_xorI, if_true, if_false, hV.2.1, if_neg (show ¬ g_nu G ≤ i by omega), hV.2.2.2.2.2.2.2.2.1 i hi]
    by_cases c : g_bo G i = b
    · rw [if_pos c, st, g_if1 c]
    · rw [if_neg c, st, g_if0 c]
      rfl
/-- how many balloons of a sort a figure wants -/
def g_ns (G : bs_G) (k : Nat) : Nat → Nat := g_sm (fun b => g_if (g_so G b = k))
abbrev rn_th (G : bs_G) (SH : Nat → Nat) : Prop := ∀ s, s < 6 → g_ns G s (g_nb G) ≤ SH s
theorem sf_isTh {x f : Nat} {mu : bs_Mm} {G : bs_G} {SH : Nat → Nat} (hx : x + 63 ≤ f) (hV : cFv f G mu) (hG : g_ok G) (hS : ∀ k, k < 6 → bs_iv (mu (x + 59) k) = nI (SH k) ∧ SH k ≤ 99) : ∃ mu', FX9_isThere x mu f = some (if rn_th G SH then nI 1 else nI 0, mu') ∧ ∀ a, a ≠ x + 60 → mu' a = mu a := by
  have q0 := g_bn hG
  have fi : ∀ j, j < 6 → bs_iv (bs_fi mu (x + 60) 6 (.int (nI 0)) (x + 60) j) = nI 0 := fun j hj => by
    have : bs_fi mu (x + 60) 6 (.int (nI 0)) (x + 60) j = .int (nI 0) := by simp [bs_fi, hj]
    rw [this]
    rfl
  have key : ∃ mu1, fg_lp (FX9_isThere_b10 x f) fg_fu (nI 0, bs_fi mu (x + 60) 6 (.int (nI 0))) = some mu1 ∧ (∀ a, a ≠ x + 60 → mu1 a = mu a) ∧ ∀ k, k < 6 → bs_iv (mu1 (x + 60) k) = nI (g_ns G k (g_nb G)) := by
    refine Exists.elim (fg_lp_i (body := FX9_isThere_b10 x f) (fun r s => ∃ b, s.1 = nI b ∧ b + r = g_nb G ∧ (∀ a, a ≠ x + 60 → s.2 a = mu a) ∧ ∀ k, k < 6 → bs_iv (s.2 (x + 60) k) = nI (g_ns G k b)) (fun t => (∀ a, a ≠ x + 60 → t a = mu a) ∧ ∀ k, k < 6 → bs_iv (t (x + 60) k) = nI (g_ns G k (g_nb G))) (fun r s hI => ?_) fg_fu (g_nb G) (nI 0, bs_fi mu (x + 60) 6 (.int (nI 0))) ⟨0, rfl, by omega, fun a ha => bs_fi_f ha, fun k hk => fi k hk⟩ (fg_fu_lt (by omega))) (fun t ht => ⟨t, ht⟩)
    obtain ⟨bv, mu1⟩ := s
    obtain ⟨b, e, hr, hf, hk⟩ := hI
    have e : bv = nI b := e
    subst e
    have hf : ∀ a, a ≠ x + 60 → mu1 a = mu a := hf
    have hk : ∀ k, k < 6 → bs_iv (mu1 (x + 60) k) = nI (g_ns G k b) := hk
    have hV1 : cFv f G mu1 := cFv_of hV (fun k _ => hf _ (by omega))
    by_cases z : g_nb G ≤ b
    · have e : b = g_nb G := by omega
      subst e
      refine Or.inr ⟨mu1, ?_, hf, hk⟩
      unfold FX9_isThere_b10
      simp (disch := omega) only [fg_gd_t, fg_bd_s, fg_b2_s, fg_wr_s, fg_let_s, fn_add, fn_sub, fn_mul, fn_cl, fn_lt, fn_le, fn_eq, fn_eq0, fn_lt0, fn_0le, fn_0lt, fn_le0, fn_in, fn_shl, fn_shr, fa_and, fa_or, bs_xorI, if_true, if_false, hV1.1, Nat.le_refl]
    · have so := hG.2.2.2.2.1 b (by omega)
      have rs := hV1.2.2.2.2.1 b (by omega)
      have rn := hk _ so
      have bl : g_ns G (g_so G b) b ≤ b := g_sm1 (fun _ => g_if_le _) b
      refine Or.inl ⟨(nI (b + 1), bs_up mu1 (x + 60) (g_so G b) (.int (nI (g_ns G (g_so G b) b + 1)))), r - 1, ?_, by omega, b + 1, rfl, by omega, fun a ha => (bs_up_f ha).trans (hf a ha), fun k hk' => ?_⟩
      · unfold FX9_isThere_b10
        simp (disch := omega) only [fg_gd_t, fg_bd_s, fg_b2_s, fg_wr_s, fg_let_s, fn_add, fn_sub, fn_mul, fn_cl, fn_lt, fn_le, fn_eq, fn_eq0, fn_lt0, fn_0le, fn_0lt, fn_le0, fn_in, fn_shl, fn_shr, fa_and, fa_or, bs_xorI, if_true, if_false, hV1.1, if_neg z, rs, rn]
      · show bs_iv (bs_up mu1 (x + 60) (g_so G b) (.int (nI (g_ns G (g_so G b) b + 1))) (x + 60) k) = nI (g_ns G k b + g_if (g_so G b = k))
        by_cases e : k = g_so G b
        · subst e
          rw [bs_up_eq, g_if1 rfl]
          rfl
        · rw [bs_up_j e, g_if0 (fun h => e h.symm)]
          exact hk k hk'
  obtain ⟨mu1, m1, m2, m3⟩ := key
  have key2 : (fg_lp (FX9_isThere_b41 x f mu1) fg_fu (nI 0) = some (.inl ()) ∧ rn_th G SH) ∨ (fg_lp (FX9_isThere_b41 x f mu1) fg_fu (nI 0) = some (.inr (nI 0, mu1)) ∧ ¬ rn_th G SH) := by
    refine Exists.elim (fg_lp_i (body := FX9_isThere_b41 x f mu1) (fun r s => ∃ k, s = nI k ∧ k + r = 6 ∧ ∀ j, j < k → g_ns G j (g_nb G) ≤ SH j) (fun t => (t = .inl () ∧ rn_th G SH) ∨ (t = .inr (nI 0, mu1) ∧ ¬ rn_th G SH)) (fun r s hI => ?_) fg_fu 6 (nI 0) ⟨0, rfl, rfl, fun j hj => by omega⟩ (fg_fu_lt (by decide))) (fun t ht => ?_)
    · obtain ⟨k, e, hr, hh⟩ := hI
      subst e
      by_cases z : 6 ≤ k
      · refine Or.inr ⟨.inl (), ?_, Or.inl ⟨rfl, fun j hj => hh j (by omega)⟩⟩
        unfold FX9_isThere_b41
        simp (disch := omega) only [fg_gd_t, fg_bd_s, fg_b2_s, fg_wr_s, fg_let_s, fn_add, fn_sub, fn_mul, fn_cl, fn_lt, fn_le, fn_eq, fn_eq0, fn_lt0, fn_0le, fn_0lt, fn_le0, fn_in, fn_shl, fn_shr, fa_and, fa_or, bs_xorI, if_true, if_false, if_pos z]
      · have r1 := m3 k (by omega)
        obtain ⟨r2, r3⟩ := hS k (by omega)
        have bl : g_ns G k (g_nb G) ≤ g_nb G := g_sm1 (fun _ => g_if_le _) _
        have r4 : bs_iv (mu1 (x + 59) k) = nI (SH k) := by rw [m2 _ (by omega)]; exact r2
        by_cases c : g_ns G k (g_nb G) ≤ SH k
        · refine Or.inl ⟨nI (k + 1), r - 1, ?_, by omega, k + 1, rfl, by omega, fun j hj => ?_⟩
          · unfold FX9_isThere_b41
            simp (disch := omega) only [fg_gd_t, fg_bd_s, fg_b2_s, fg_wr_s, fg_let_s, fn_add, fn_sub, fn_mul, fn_cl, fn_lt, fn_le, fn_eq, fn_eq0, fn_lt0, fn_0le, fn_0lt, fn_le0, fn_in, fn_shl, fn_shr, fa_and, fa_or, bs_xorI, if_true, if_false, if_neg z, r1, r4, if_pos c]
          · by_cases e : j = k
            · rw [e]; exact c
            · exact hh j (by omega)
        · refine Or.inr ⟨.inr (nI 0, mu1), ?_, Or.inr ⟨rfl, fun h => c (h k (by omega))⟩⟩
          unfold FX9_isThere_b41
          simp (disch := omega) only [fg_gd_t, fg_bd_s, fg_b2_s, fg_wr_s, fg_let_s, fn_add, fn_sub, fn_mul, fn_cl, fn_lt, fn_le, fn_eq, fn_eq0, fn_lt0, fn_0le, fn_0lt, fn_le0, fn_in, fn_shl, fn_shr, fa_and, fa_or, bs_xorI, if_true, if_false, if_neg z, r1, r4, if_neg c]
    · rcases ht.2 with ⟨a, b⟩ | ⟨a, b⟩
      · exact Or.inl ⟨by rw [← a]; exact ht.1, b⟩
      · exact Or.inr ⟨by rw [← a]; exact ht.1, b⟩
  unfold FX9_isThere
  rw [fg_wf_s, m1, fg_bd_s]
  rcases key2 with ⟨a, b⟩ | ⟨a, b⟩
  · rw [a, if_pos b]
    exact ⟨mu1, rfl, m2⟩
  · rw [a, if_neg b]
    exact ⟨mu1, rfl, m2⟩
