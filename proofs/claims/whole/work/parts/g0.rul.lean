/-! READING A RULE (own): what the class holds; telling and waiting -/
def tg (o : Nat) : Nat := if o = 33 then 3 else if o = 38 then 2 else if o = 42 then 6 else if o = 43 then 5 else if o = 45 then 5 else if o = 47 then 6 else if o = 60 then 4 else if o = 61 then 4 else if o = 62 then 4 else if o = 124 then 1 else 0
theorem sf_tg {x o : Nat} {mu : bs_Mm} (ho : o < 1000) : FX7_tightness x mu (nI o) = some (nI (tg o)) := by
  unfold FX7_tightness tg
  simp only [fn_eq (show o < 2 ^ 31 by omega) (show 33 < 2 ^ 31 by decide), fn_eq (show o < 2 ^ 31 by omega) (show 38 < 2 ^ 31 by decide), fn_eq (show o < 2 ^ 31 by omega) (show 42 < 2 ^ 31 by decide), fn_eq (show o < 2 ^ 31 by omega) (show 43 < 2 ^ 31 by decide), fn_eq (show o < 2 ^ 31 by omega) (show 45 < 2 ^ 31 by decide), fn_eq (show o < 2 ^ 31 by omega) (show 47 < 2 ^ 31 by decide), fn_eq (show o < 2 ^ 31 by omega) (show 60 < 2 ^ 31 by decide), fn_eq (show o < 2 ^ 31 by omega) (show 61 < 2 ^ 31 by decide), fn_eq (show o < 2 ^ 31 by omega) (show 62 < 2 ^ 31 by decide), fn_eq (show o < 2 ^ 31 by omega) (show 124 < 2 ^ 31 by decide)]
  repeat' split
  all_goals rfl
theorem u_s_cg {st st' : Nat → Int32} : ∀ (c : List Nat) (b : Nat), u_s st b c → (∀ j, b ≤ j → j < b + c.length → st' j = st j) → u_s st' b c := by
  intro c
  induction c with
  | nil => intro b _ _; trivial
  | cons i c ih =>
    intro b h e
    rw [List.length_cons] at e
    exact ⟨by rw [e b (Nat.le_refl _) (by omega)]; exact h.1, ih (b + 1) h.2 fun j h1 h2 => e j (by omega) (by omega)⟩
theorem u_s_app {st : Nat → Int32} : ∀ (c d : List Nat) (b : Nat), u_s st b (c ++ d) ↔ u_s st b c ∧ u_s st (b + c.length) d := by
  intro c
  induction c with
  | nil =>
    intro d b
    exact ⟨fun h => ⟨trivial, h⟩, fun h => h.2⟩
  | cons i c ih =>
    intro d b
    have := ih d (b + 1)
    rw [List.length_cons, show b + (c.length + 1) = b + 1 + c.length by omega]
    exact ⟨fun h => ⟨⟨h.1, (this.mp h.2).1⟩, (this.mp h.2).2⟩, fun h => ⟨h.1.1, this.mpr ⟨h.1.2, h.2⟩⟩⟩
theorem u_r_cg {st st' : Nat → Int32} : ∀ (U : bs_U) (b : Nat), u_r st b U → (∀ j, b ≤ j → j < b + u_z U → st' j = st j) → u_r st' b U := by
  intro U
  induction U with
  | nil => intro b _ _; trivial
  | cons q U ih =>
    intro b h e
    have e : ∀ j, b ≤ j → j < b + ((if q.1 = [] then 0 else q.1.length + 1) + q.2.length + 1 + u_z U) → st' j = st j := e
    by_cases c : q.1 = []
    · rw [if_pos c] at e
      have h := (if_pos c).mp h
      refine (if_pos c).mpr ⟨u_s_cg _ _ h.1 fun j h1 h2 => e j h1 (by omega), by rw [e _ (by omega) (by omega)]; exact h.2.1, ih _ h.2.2 fun j h1 h2 => e j (by omega) (by omega)⟩
    · rw [if_neg c] at e
      have h := (if_neg c).mp h
      exact (if_neg c).mpr ⟨u_s_cg _ _ h.1 fun j h1 h2 => e j h1 (by omega), by rw [e _ (by omega) (by omega)]; exact h.2.1, u_s_cg _ _ h.2.2.1 fun j h1 h2 => e j (by omega) (by omega), by rw [e _ (by omega) (by omega)]; exact h.2.2.2.1, ih _ h.2.2.2.2 fun j h1 h2 => e j (by omega) (by omega)⟩
def qz (tj : Option (List Nat)) : Nat := match tj with | none => 0 | some te => te.length + 1
def qj (U : bs_U) (tj : Option (List Nat)) : Int32 := match tj with | none => -1 | some te => nI (u_z U + te.length)
def qt (U : bs_U) (tj : Option (List Nat)) (st : Nat → Int32) : Prop := match tj with | none => True | some te => u_s st (u_z U) te ∧ st (u_z U + te.length) = nI 20000
/-- steps told: whole clauses U, perhaps a test with its jump, c -/
def qs (x : Nat) (U : bs_U) (tj : Option (List Nat)) (c : List Nat) (mu : bs_Mm) : Prop := u_r (fun j => bs_iv (mu (x + 22) j)) 0 U ∧ qt U tj (fun j => bs_iv (mu (x + 22) j)) ∧ u_s (fun j => bs_iv (mu (x + 22) j)) (u_z U + qz tj) c ∧ bs_iv (mu (x + 21) 1) = nI (u_z U + qz tj + c.length)
def qw (x : Nat) : List (Nat × Nat) → bs_Mm → Prop
  | [], _ => True
  | o :: W, mu => bs_iv (mu (x + 24) W.length) = nI o.1 ∧ bs_iv (mu (x + 25) W.length) = nI o.2 ∧ o.1 < 1000 ∧ o.2 < 1000 ∧ qw x W mu
/-- how the class holds it -/
def qc (x : Nat) (U : bs_U) (tj : Option (List Nat)) (c : List Nat) (W : List (Nat × Nat)) (kd ne pa : Nat) (mu : bs_Mm) : Prop := qs x U tj c mu ∧ bs_iv (mu (x + 20) 10) = qj U tj ∧ qw x W mu ∧ bs_iv (mu (x + 20) 4) = nI W.length ∧ bs_iv (mu (x + 20) 6) = nI kd ∧ bs_iv (mu (x + 20) 7) = nI ne ∧ bs_iv (mu (x + 20) 8) = nI pa
theorem qw_of {x : Nat} : ∀ (W : List (Nat × Nat)) {mu mu' : bs_Mm}, qw x W mu → (∀ j, j < W.length → mu' (x + 24) j = mu (x + 24) j ∧ mu' (x + 25) j = mu (x + 25) j) → qw x W mu' := by
  intro W
  induction W with
  | nil => intro mu mu' _ _; trivial
  | cons o W ih =>
    intro mu mu' h e
    have l : W.length < (o :: W).length := by rw [List.length_cons]; omega
    exact ⟨by rw [(e _ l).1]; exact h.1, by rw [(e _ l).2]; exact h.2.1, h.2.2.1, h.2.2.2.1, ih h.2.2.2.2 fun j hj => e j (by omega)⟩
theorem qt_cg {U : bs_U} {tj : Option (List Nat)} {st st' : Nat → Int32} (h : qt U tj st) (e : ∀ j, j < u_z U + qz tj → st' j = st j) : qt U tj st' := by
  cases tj with
  | none => trivial
  | some te =>
    have e : ∀ j, j < u_z U + (te.length + 1) → st' j = st j := e
    exact ⟨u_s_cg _ _ h.1 fun j _ h2 => e j (by omega), by rw [e _ (by omega)]; exact h.2⟩
theorem qs_of {x : Nat} {U : bs_U} {tj : Option (List Nat)} {c : List Nat} {mu mu' : bs_Mm} (h : qs x U tj c mu) (e1 : mu' (x + 21) = mu (x + 21)) (e2 : mu' (x + 22) = mu (x + 22)) : qs x U tj c mu' := by
  unfold qs
  rw [e1, e2]
  exact h
/-- what may change -/
def qfr (x : Nat) (mu mu' : bs_Mm) : Prop := ∀ a, (a < x + 20 ∨ x + 25 < a) → mu' a = mu a
theorem qfr_rfl (x : Nat) (mu : bs_Mm) : qfr x mu mu := fun _ _ => rfl
theorem qfr_tr {x : Nat} {mu mu1 mu2 : bs_Mm} (h : qfr x mu mu1) (k : qfr x mu1 mu2) : qfr x mu mu2 := fun a ha => (k a ha).trans (h a ha)
/-- a step is told -/
theorem sq_tell {x i : Nat} {U : bs_U} {tj : Option (List Nat)} {c : List Nat} {mu : bs_Mm} (h : qs x U tj c mu) (hn : u_z U + qz tj + c.length < 201) : ∃ mu', FX7_tell x mu (u_c i) = some mu' ∧ qs x U tj (c ++ [i]) mu' ∧ ∀ a, a ≠ x + 21 → a ≠ x + 22 → mu' a = mu a := by
  obtain ⟨h1, h2, h3, h4⟩ := h
  obtain ⟨m1, hm1⟩ : ∃ y, y = bs_up mu (x + 22) (u_z U + qz tj + c.length) (.int (u_c i)) := ⟨_, rfl⟩
  have e1 : bs_iv (m1 (x + 21) 1) = nI (u_z U + qz tj + c.length) := by rw [hm1, bs_up_f (by omega)]; exact h4
  have old : ∀ j, j < u_z U + qz tj + c.length → ∀ v, bs_up m1 (x + 21) 1 v (x + 22) j = mu (x + 22) j := fun j hj v => by rw [bs_up_f (by omega), hm1, bs_up_j (by omega)]
  refine ⟨bs_up m1 (x + 21) 1 (.int (nI (u_z U + qz tj + c.length + 1))), ?_, ⟨u_r_cg _ _ h1 fun j _ hj => by show bs_iv (bs_up m1 (x + 21) 1 _ (x + 22) j) = _; rw [old j (by omega)], qt_cg h2 fun j hj => by show bs_iv (bs_up m1 (x + 21) 1 _ (x + 22) j) = _; rw [old j (by omega)], (u_s_app c [i] _).mpr ⟨u_s_cg _ _ h3 fun j _ hj => by show bs_iv (bs_up m1 (x + 21) 1 _ (x + 22) j) = _; rw [old j hj], ?_, trivial⟩, ?_⟩, fun a a1 a2 => by rw [bs_up_f a1, hm1, bs_up_f a2]⟩
  · unfold FX7_tell
    rw [h4, if_neg (fun w => by have := (nI_leI (by decide) (by omega)).mp w; omega), fn_in hn (by decide), fg_gd_t, fn_cl (by omega), fg_wr_s, ← hm1, e1, fn_add, fg_wr_s]
  · show bs_iv (bs_up m1 (x + 21) 1 _ (x + 22) (u_z U + qz tj + c.length)) = u_c i
    rw [bs_up_f (by omega), hm1, bs_up_eq]
    rfl
  · rw [bs_up_eq, List.length_append]
    rfl
theorem u_c_op (o : Nat) : u_c (30000 + o) = -(nI o) := by
  unfold u_c
  rw [if_neg (by omega), Nat.add_sub_cancel_left]
def q_ops (W : List (Nat × Nat)) : List Nat := W.map fun o => 30000 + o.1
def q_bg : List (Nat × Nat) → Nat
  | [] => 0
  | o :: W => (if o.1 = 33 then 1 else 0) + q_bg W
/-- those that wait, down to tightness t, are told -/
theorem sq_tellW {x t : Nat} {U : bs_U} {tj : Option (List Nat)} {kd pa : Nat} (ht : 1 ≤ t) : ∀ (Wx W0 : List (Nat × Nat)) (c : List Nat) (ne : Nat) (mu : bs_Mm), qc x U tj c (Wx ++ W0) kd (ne + q_bg Wx) pa mu → (∀ o, o ∈ Wx → t ≤ tg o.1) → (∀ o W, W0 = o :: W → tg o.1 < t) → u_z U + qz tj + c.length + Wx.length < 201 → (Wx ++ W0).length ≤ 200 → ne + q_bg Wx < 1000 → t < 1000 → ∃ mu', FX7_tellWaiting x mu (nI t) = some mu' ∧ qc x U tj (c ++ q_ops Wx) W0 kd ne pa mu' ∧ (∀ k, k ≠ 4 → k ≠ 7 → mu' (x + 20) k = mu (x + 20) k) ∧ qfr x mu mu' := by
  have key : ∀ (Wx W0 : List (Nat × Nat)) (c : List Nat) (ne : Nat) (mu : bs_Mm), qc x U tj c (Wx ++ W0) kd (ne + q_bg Wx) pa mu → (∀ o, o ∈ Wx → t ≤ tg o.1) → (∀ o W, W0 = o :: W → tg o.1 < t) → u_z U + qz tj + c.length + Wx.length < 201 → (Wx ++ W0).length ≤ 200 → ne + q_bg Wx < 1000 → t < 1000 → ∀ k, Wx.length < k → ∃ mu', fg_lp (FX7_tellWaiting_b0 x (nI t)) k mu = some mu' ∧ qc x U tj (c ++ q_ops Wx) W0 kd ne pa mu' ∧ (∀ k, k ≠ 4 → k ≠ 7 → mu' (x + 20) k = mu (x + 20) k) ∧ qfr x mu mu' := by
    intro Wx
    induction Wx with
    | nil =>
      intro W0 c ne mu h h1 h2 h3 h4 h5 h6 k hk
      obtain ⟨k, rfl⟩ : ∃ k2, k = k2 + 1 := ⟨k - 1, by rw [List.length_nil] at hk; omega⟩
      refine ⟨mu, fg_lp_e ?_, by rw [show c ++ q_ops [] = c from List.append_nil c]; exact h, fun _ _ _ => rfl, qfr_rfl x mu⟩
      have h : qc x U tj c W0 kd ne pa mu := h
      have h4 : W0.length ≤ 200 := h4
      unfold FX7_tellWaiting_b0
      rw [h.2.2.2.1]
      cases W0 with
      | nil => rw [if_pos (by rw [List.length_nil]; decide)]
      | cons o W =>
        rw [List.length_cons] at h4 ⊢
        have hw := h.2.2.1
        have tl := h2 o W rfl
        rw [if_neg (fun w => by rw [fn_le0 (by omega)] at w; omega), fn_sub (by omega), Nat.add_sub_cancel, fn_in (show W.length < 200 by omega) (by decide), fg_gd_t, fn_cl (show W.length < 2 ^ 31 by omega), hw.1, sf_tg hw.2.2.1, fg_bd_s, if_pos ((nI_ltI (by omega) (by omega)).mpr tl)]
    | cons o Wx ih =>
      intro W0 c ne mu h h1 h2 h3 h4 h5 h6 k hk
      rw [List.length_cons] at hk h3
      rw [List.cons_append, List.length_cons] at h4
      obtain ⟨k, rfl⟩ : ∃ k2, k = k2 + 1 := ⟨k - 1, by omega⟩
      have tl := h1 o (List.mem_cons_self ..)
      obtain ⟨q1, q2, q3, q4, q5, q6, q7⟩ := h
      have q4 : bs_iv (mu (x + 20) 4) = nI ((Wx ++ W0).length + 1) := by rw [q4, List.cons_append, List.length_cons]
      obtain ⟨w1, w2, w3, w4, w5⟩ := q3
      have w1 : bs_iv (mu (x + 24) (Wx ++ W0).length) = nI o.1 := w1
      obtain ⟨m1, hm1⟩ : ∃ y, y = bs_up mu (x + 20) 4 (.int (nI (Wx ++ W0).length)) := ⟨_, rfl⟩
      have f1 : ∀ a, a ≠ x + 20 → m1 a = mu a := fun a ha => by rw [hm1, bs_up_f ha]
      have e4 : bs_iv (m1 (x + 20) 4) = nI (Wx ++ W0).length := by rw [hm1, bs_up_eq]; rfl
      have e24 : bs_iv (m1 (x + 24) (Wx ++ W0).length) = nI o.1 := by rw [f1 _ (by omega)]; exact w1
      have bg : q_bg (o :: Wx) = (if o.1 = 33 then 1 else 0) + q_bg Wx := rfl
      rw [bg] at q6 h5
      have e7 : bs_iv (m1 (x + 20) 7) = nI (ne + ((if o.1 = 33 then 1 else 0) + q_bg Wx)) := by rw [hm1, bs_up_j (by decide)]; exact q6
      obtain ⟨m2, hm2⟩ : ∃ y, y = bs_up m1 (x + 20) 7 (.int (nI (ne + q_bg Wx))) := ⟨_, rfl⟩
      have f2 : ∀ a, a ≠ x + 20 → m2 a = mu a := fun a ha => by rw [hm2, bs_up_f ha, f1 a ha]
      have e42 : bs_iv (m2 (x + 20) 4) = nI (Wx ++ W0).length := by rw [hm2, bs_up_j (by decide)]; exact e4
      have e242 : bs_iv (m2 (x + 24) (Wx ++ W0).length) = nI o.1 := by rw [f2 _ (by omega)]; exact w1
      obtain ⟨m3, t1, t2, t3⟩ := sq_tell (x := x) (i := 30000 + o.1) (qs_of q1 (f2 _ (by omega)) (f2 _ (by omega))) (by omega)
      rw [u_c_op] at t1
      have gi : fg_in (nI (Wx ++ W0).length) 200 = true := fn_in (by omega) (by decide)
      have ci : (nI (Wx ++ W0).length).toNatClampNeg = (Wx ++ W0).length := fn_cl (by omega)
      have j59 : ∀ d, (if o.1 = 33 then 1 else 0) = d → FX7_tellWaiting_j59_L0 x m1 (nI t) (nI (ne + (d + q_bg Wx))) (nI d) = some (.inl m3) := fun d hd => by
        unfold FX7_tellWaiting_j59_L0
        rw [fn_sub (by omega), show ne + (d + q_bg Wx) - d = ne + q_bg Wx by omega, fg_wr_s, ← hm2, e42, gi, fg_gd_t, ci, e242, t1, fg_bd_s]
      have body : FX7_tellWaiting_b0 x (nI t) mu = some (.inl m3) := by
        unfold FX7_tellWaiting_b0
        rw [q4, if_neg (fun w => by rw [fn_le0 (by omega)] at w; omega), fn_sub (by omega), Nat.add_sub_cancel, gi, fg_gd_t, ci, w1, sf_tg w3, fg_bd_s, if_neg (fun w => by
          have l6 : tg o.1 ≤ 6 := by unfold tg; repeat' split
                                     all_goals omega
          have := (nI_ltI (show tg o.1 < 2 ^ 31 by omega) (by omega)).mp w
          omega), fg_wr_s, ← hm1, e4, gi, fg_gd_t, ci, e24, e7]
        by_cases e : o.1 = 33
        · rw [if_pos (by rw [e])]
          have := j59 1 (if_pos e)
          rw [if_pos e]
          exact this
        · rw [if_neg (fun w => e ((nI_eq (by omega) (by decide)).mp w))]
          have := j59 0 (if_neg e)
          rw [if_neg e]
          exact this
      have m3o : ∀ k, k ≠ 4 → k ≠ 7 → m3 (x + 20) k = mu (x + 20) k := fun k k4 k7 => by rw [t3 _ (by omega) (by omega), hm2, bs_up_j k7, hm1, bs_up_j k4]
      obtain ⟨m4, r1, r2, r3, r4⟩ := ih W0 (c ++ [30000 + o.1]) ne m3 ⟨t2, by rw [m3o 10 (by decide) (by decide)]; exact q2, qw_of _ w5 fun j _ => ⟨by rw [t3 _ (by omega) (by omega), f2 _ (by omega)], by rw [t3 _ (by omega) (by omega), f2 _ (by omega)]⟩, by rw [t3 _ (by omega) (by omega)]; exact e42, by rw [m3o 6 (by decide) (by decide)]; exact q5, by rw [t3 _ (by omega) (by omega), hm2, bs_up_eq]; rfl, by rw [m3o 8 (by decide) (by decide)]; exact q7⟩ (fun o ho => h1 o (List.mem_cons_of_mem _ ho)) h2 (by rw [List.length_append, List.length_singleton]; omega) (by omega) (by omega) h6 k (by omega)
      refine ⟨m4, by rw [fg_lp_s body]; exact r1, ?_, fun k k4 k7 => by rw [r3 k k4 k7, m3o k k4 k7], fun a ha => by rw [r4 a ha, t3 a (by omega) (by omega), f2 a (by omega)]⟩
      have : c ++ q_ops (o :: Wx) = c ++ [30000 + o.1] ++ q_ops Wx := by
        rw [List.append_assoc]
        rfl
      rw [this]
      exact r2
  intro Wx W0 c ne mu h h1 h2 h3 h4 h5 h6
  have ff : fg_fu = 2000000 := rfl
  obtain ⟨mu', k1, k2⟩ := key Wx W0 c ne mu h h1 h2 h3 h4 h5 h6 fg_fu (by omega)
  refine ⟨mu', ?_, k2⟩
  unfold FX7_tellWaiting
  rw [k1, fg_bd_s]
/-- a sign waits -/
theorem sq_await {x o : Nat} {U : bs_U} {tj : Option (List Nat)} {c : List Nat} {W : List (Nat × Nat)} {kd ne pa : Nat} {mu : bs_Mm} (h : qc x U tj c W kd ne pa mu) (hn : W.length < 200) (ho : o < 1000) (hk : kd < 1000) : ∃ mu', FX7_await x mu (nI o) = some mu' ∧ qc x U tj c ((o, kd) :: W) kd ne pa mu' ∧ (∀ k, k ≠ 4 → mu' (x + 20) k = mu (x + 20) k) ∧ qfr x mu mu' := by
  obtain ⟨q1, q2, q3, q4, q5, q6, q7⟩ := h
  obtain ⟨m1, hm1⟩ : ∃ y, y = bs_up mu (x + 24) W.length (.int (nI o)) := ⟨_, rfl⟩
  obtain ⟨m2, hm2⟩ : ∃ y, y = bs_up m1 (x + 25) W.length (.int (nI kd)) := ⟨_, rfl⟩
  have f2 : ∀ a, a ≠ x + 24 → a ≠ x + 25 → m2 a = mu a := fun a h1 h2 => by rw [hm2, bs_up_f h2, hm1, bs_up_f h1]
  have e41 : bs_iv (m1 (x + 20) 4) = nI W.length := by rw [hm1, bs_up_f (by omega)]; exact q4
  have e61 : bs_iv (m1 (x + 20) 6) = nI kd := by rw [hm1, bs_up_f (by omega)]; exact q5
  have e42 : bs_iv (m2 (x + 20) 4) = nI W.length := by rw [f2 _ (by omega) (by omega)]; exact q4
  have gi : fg_in (nI W.length) 200 = true := fn_in hn (by decide)
  have ci : (nI W.length).toNatClampNeg = W.length := fn_cl (by omega)
  have n9 : ∀ a v, a ≠ x + 20 → bs_up m2 (x + 20) 4 v a = m2 a := fun a v ha => bs_up_f ha
  have o9 : ∀ k v, k ≠ 4 → bs_up m2 (x + 20) 4 v (x + 20) k = mu (x + 20) k := fun k v hk => by rw [bs_up_j hk, f2 _ (by omega) (by omega)]
  refine ⟨bs_up m2 (x + 20) 4 (.int (nI (W.length + 1))), ?_, ⟨qs_of q1 (by rw [n9 _ _ (by omega), f2 _ (by omega) (by omega)]) (by rw [n9 _ _ (by omega), f2 _ (by omega) (by omega)]), by rw [o9 10 _ (by decide)]; exact q2, ⟨?_, ?_, ho, hk, qw_of _ q3 fun j hj => ⟨?_, ?_⟩⟩, ?_, by rw [o9 6 _ (by decide)]; exact q5, by rw [o9 7 _ (by decide)]; exact q6, by rw [o9 8 _ (by decide)]; exact q7⟩, fun k hk => o9 k _ hk, fun a ha => by rw [n9 a _ (by omega), f2 a (by omega) (by omega)]⟩
  · unfold FX7_await
    rw [q4, if_neg (fun w => by have := (nI_leI (by decide) (by omega)).mp w; omega), gi, fg_gd_t, ci, fg_wr_s, ← hm1, e41, gi, fg_gd_t, ci, e61, fg_wr_s, ← hm2, e42, fn_add, fg_wr_s]
  · rw [n9 _ _ (by omega), hm2, bs_up_f (by omega), hm1, bs_up_eq]
    rfl
  · rw [n9 _ _ (by omega), hm2, bs_up_eq]
    rfl
  · rw [n9 _ _ (by omega), hm2, bs_up_f (by omega), hm1, bs_up_j (by omega)]
  · rw [n9 _ _ (by omega), hm2, bs_up_j (by omega), hm1, bs_up_f (by omega)]
  · rw [bs_up_eq, List.length_cons]
    rfl
