/-! READING A RULE (own): the class's steps (5): a clause ends; what opens; the beginning -/
theorem u_z_app (U : bs_U) (q : List Nat × List Nat) : u_z (U ++ [q]) = u_z U + ((if q.1 = [] then 0 else q.1.length + 1) + q.2.length + 1) := by
  induction U with
  | nil =>
    show (if q.1 = [] then 0 else q.1.length + 1) + q.2.length + 1 + 0 = 0 + _
    omega
  | cons p U ih =>
    show (if p.1 = [] then 0 else p.1.length + 1) + p.2.length + 1 + u_z (U ++ [q]) = (if p.1 = [] then 0 else p.1.length + 1) + p.2.length + 1 + u_z U + _
    rw [ih]
    omega
theorem u_r_app {st : Nat → Int32} (q : List Nat × List Nat) : ∀ (U : bs_U) (b : Nat), u_r st b U → u_r st (b + u_z U) [q] → u_r st b (U ++ [q]) := by
  intro U
  induction U with
  | nil => intro b _ h; exact h
  | cons p U ih =>
    intro b h k
    have k : u_r st (b + ((if p.1 = [] then 0 else p.1.length + 1) + p.2.length + 1 + u_z U)) [q] := k
    by_cases c : p.1 = []
    · have h := (if_pos c).mp h
      rw [if_pos c] at k
      exact (if_pos c).mpr ⟨h.1, h.2.1, ih _ h.2.2 (by rw [show b + p.2.length + 1 + u_z U = b + (0 + p.2.length + 1 + u_z U) by omega]; exact k)⟩
    · have h := (if_neg c).mp h
      rw [if_neg c] at k
      exact (if_neg c).mpr ⟨h.1, h.2.1, h.2.2.1, h.2.2.2.1, ih _ h.2.2.2.2 (by rw [show b + p.1.length + 1 + p.2.length + 1 + u_z U = b + (p.1.length + 1 + p.2.length + 1 + u_z U) by omega]; exact k)⟩
def qd (tj : Option (List Nat)) : List Nat := match tj with | none => [] | some te => te
set_option maxHeartbeats 1000000 in
theorem sq_endsC {x dg : Nat} {U : bs_U} {tj : Option (List Nat)} {c : List Nat} {Wx : List (Nat × Nat)} {kd ne pa : Nat} {mu : bs_Mm} (hS : qS x U tj c Wx kd (ne + q_bg Wx) pa 4 dg mu) (hk : kd = 0 ∨ kd = 3) (ht : tj ≠ some []) (hx : ∀ w, w ∈ Wx → 1 ≤ tg w.1) (hb : u_z U + qz tj + c.length + Wx.length < 201) (hw : Wx.length ≤ 200) (hne : ne + q_bg Wx < 1000) : ∃ mu', FX7_endsClause x mu = some (nI 1, mu') ∧ qS x (U ++ [(qd tj, c ++ q_ops Wx)]) none [] [] kd ne pa 0 dg mu' ∧ qfr x mu mu' := by
  have nn : Wx ++ [] = Wx := List.append_nil Wx
  obtain ⟨m1, a1, a2, a3, a4⟩ := sq_tellW (x := x) (t := 1) (by decide) Wx [] c ne mu (by rw [nn]; exact hS.1) hx (fun w W e => by cases e) hb (by rw [nn]; exact hw) hne (by decide)
  obtain ⟨q1, q2, q3, q4, q5, q6, q7⟩ := id a2
  obtain ⟨s1, s2, s3, s4⟩ := id q1
  have l1 : (c ++ q_ops Wx).length = c.length + Wx.length := by rw [List.length_append]; unfold q_ops; rw [List.length_map]
  obtain ⟨d, hd⟩ : ∃ y, y = c ++ q_ops Wx := ⟨_, rfl⟩
  rw [← hd] at s3 s4 l1 ⊢
  obtain ⟨sz, hsz⟩ : ∃ y, y = u_z U + qz tj + d.length := ⟨_, rfl⟩
  rw [← hsz] at s4
  obtain ⟨m2, b1, b2, b3, b4, b5⟩ := sq_tellR (x := x) (k := sz) (v := -59) (mu := m1) s4 (by omega)
  have e210 : bs_iv (m2 (x + 20) 10) = qj U tj := by rw [b5 _ (by omega) (by omega)]; exact q2
  have old : ∀ j, j < sz → m2 (x + 22) j = m1 (x + 22) j := fun j hj => b4 j (by omega)
  have fin : ∀ m3 : bs_Mm, (∀ a, a ≠ x + 22 → m3 a = m2 a) → qs x (U ++ [(qd tj, d)]) none [] m3 → FX7_endsClause_j17 x mu = some (nI 1, bs_up (bs_up m3 (x + 20) 10 (.int (-1))) (x + 20) 5 (.int (nI 0))) → ∃ mu', FX7_endsClause x mu = some (nI 1, mu') ∧ qS x (U ++ [(qd tj, d)]) none [] [] kd ne pa 0 dg mu' ∧ qfr x mu mu' := by
    intro m3 f3 hq hj
    have o5 : ∀ k, k ≠ 5 → k ≠ 10 → bs_up (bs_up m3 (x + 20) 10 (.int (-1))) (x + 20) 5 (.int (nI 0)) (x + 20) k = m1 (x + 20) k := fun k k5 k10 => by rw [bs_up_j k5, bs_up_j k10, f3 _ (by omega), b5 _ (by omega) (by omega)]
    have f5 : ∀ a, a ≠ x + 20 → bs_up (bs_up m3 (x + 20) 10 (.int (-1))) (x + 20) 5 (.int (nI 0)) a = m3 a := fun a ha => by rw [bs_up_f ha, bs_up_f ha]
    refine ⟨_, ?_, ⟨⟨qs_of hq (f5 _ (by omega)) (f5 _ (by omega)), ?_, trivial, by rw [o5 4 (by decide) (by decide)]; exact q4, by rw [o5 6 (by decide) (by decide)]; exact q5, by rw [o5 7 (by decide) (by decide)]; exact q6, by rw [o5 8 (by decide) (by decide)]; exact q7⟩, by rw [bs_up_eq]; rfl, by rw [o5 9 (by decide) (by decide), a3 9 (by decide) (by decide)]; exact hS.2.2⟩, fun a ha => by rw [f5 a (by omega), f3 a (by omega), b5 a (by omega) (by omega), a4 a ha]⟩
    · unfold FX7_endsClause
      rw [hS.1.2.2.2.2.1]
      rcases hk with e | e
      · subst e
        rw [if_pos nI_0]
        exact hj
      · subst e
        rw [if_neg (by decide), if_pos rfl]
        exact hj
    · rw [bs_up_j (by decide), bs_up_eq]
      rfl
  cases tj with
  | none =>
    have e210 : bs_iv (m2 (x + 20) 10) = -1 := e210
    have hsz : sz = u_z U + 0 + d.length := hsz
    have s3 : u_s (fun j => bs_iv (m1 (x + 22) j)) (u_z U + 0) d := s3
    rw [Nat.add_zero (u_z U)] at hsz s3
    refine fin m2 (fun _ _ => rfl) ⟨u_r_app _ _ _ (u_r_cg _ _ s1 fun j _ hj => by show bs_iv (m2 (x + 22) j) = _; rw [old j (by omega)]) ?_, trivial, trivial, ?_⟩ ?_
    · rw [Nat.zero_add]
      refine (if_pos rfl).mpr ⟨u_s_cg _ _ s3 fun j _ hj => by
        have hj : j < u_z U + d.length := hj
        show bs_iv (m2 (x + 22) j) = _
        rw [old j (by omega)], ?_, trivial⟩
      show bs_iv (m2 (x + 22) (u_z U + d.length)) = -59
      rw [← hsz, b3]
    · rw [b2, u_z_app, hsz]
      show nI (u_z U + d.length + 1) = nI (u_z U + (0 + d.length + 1) + 0 + 0)
      rw [show u_z U + (0 + d.length + 1) + 0 + 0 = u_z U + d.length + 1 by omega]
    · unfold FX7_endsClause_j17
      rw [a1, fg_bd_s, b1, fg_bd_s, if_pos e210, fg_wr_s, fg_wr_s]
  | some te =>
    have hte : te ≠ [] := fun e => ht (by rw [e])
    have e210 : bs_iv (m2 (x + 20) 10) = nI (u_z U + te.length) := e210
    have hsz : sz = u_z U + (te.length + 1) + d.length := hsz
    have s3 : u_s (fun j => bs_iv (m1 (x + 22) j)) (u_z U + (te.length + 1)) d := s3
    have s2 : u_s (fun j => bs_iv (m1 (x + 22) j)) (u_z U) te ∧ bs_iv (m1 (x + 22) (u_z U + te.length)) = nI 20000 := s2
    obtain ⟨m3, hm3⟩ : ∃ y, y = bs_up m2 (x + 22) (u_z U + te.length) (.int (nI (20000 + (sz + 1)))) := ⟨_, rfl⟩
    have f3 : ∀ a, a ≠ x + 22 → m3 a = m2 a := fun a ha => by rw [hm3, bs_up_f ha]
    have old3 : ∀ j, j < sz → j ≠ u_z U + te.length → m3 (x + 22) j = m1 (x + 22) j := fun j hj hn => by rw [hm3, bs_up_j hn, old j hj]
    refine fin m3 f3 ⟨u_r_app _ _ _ (u_r_cg _ _ s1 fun j _ hj => by show bs_iv (m3 (x + 22) j) = _; rw [old3 j (by omega) (by omega)]) ?_, trivial, trivial, ?_⟩ ?_
    · rw [Nat.zero_add]
      refine (if_neg hte).mpr ⟨u_s_cg _ _ s2.1 fun j _ hj => by
        have hj : j < u_z U + te.length := hj
        show bs_iv (m3 (x + 22) j) = _
        rw [old3 j (by omega) (by omega)], ?_, ?_, ?_, trivial⟩
      · show bs_iv (m3 (x + 22) (u_z U + te.length)) = nI (20000 + (u_z U + te.length + 1 + d.length + 1))
        rw [hm3, bs_up_eq, hsz, show u_z U + (te.length + 1) + d.length + 1 = u_z U + te.length + 1 + d.length + 1 by omega]
        rfl
      · show u_s _ (u_z U + te.length + 1) d
        rw [show u_z U + te.length + 1 = u_z U + (te.length + 1) by omega]
        exact u_s_cg _ _ s3 fun j h1 hj => by show bs_iv (m3 (x + 22) j) = _; rw [old3 j (by omega) (by omega)]
      · show bs_iv (m3 (x + 22) (u_z U + te.length + 1 + d.length)) = -59
        rw [show u_z U + te.length + 1 + d.length = sz by omega, hm3, bs_up_j (by omega), b3]
    · rw [f3 _ (by omega), b2, u_z_app, hsz]
      show nI _ = nI (u_z U + ((if te = [] then 0 else te.length + 1) + d.length + 1) + 0 + 0)
      rw [if_neg hte, show u_z U + (te.length + 1 + d.length + 1) + 0 + 0 = u_z U + (te.length + 1) + d.length + 1 by omega]
    · have e21 : bs_iv (m2 (x + 21) 1) = nI (sz + 1) := b2
      unfold FX7_endsClause_j17
      rw [a1, fg_bd_s, b1, fg_bd_s, e210, if_neg (al_nm (by omega)), fn_in (show u_z U + te.length < 201 by omega) (by decide), fg_gd_t, fn_cl (by omega), e21, fn_add, fg_wr_s, ← hm3, fg_wr_s, fg_wr_s]
theorem rq_semi {x n a dg : Nat} {T : Nat → Nat} {U : bs_U} {tj : Option (List Nat)} {c : List Nat} {Wx : List (Nat × Nat)} {kd ne pa : Nat} {mu : bs_Mm} (hS : qS x U tj c Wx kd (ne + q_bg Wx) pa 4 dg mu) (hT : cT x n T mu) (ha : a < n) (h59 : T a = 59) (hk : kd = 0 ∨ kd = 3) (ht : tj ≠ some []) (hx : ∀ w, w ∈ Wx → 1 ≤ tg w.1) (hb : u_z U + qz tj + c.length + Wx.length < 201) (hw : Wx.length ≤ 200) (hne : ne + q_bg Wx < 1000) : ∃ mu', rq_go x n a mu = rq_go x n (a + 1) mu' ∧ qS x (U ++ [(qd tj, c ++ q_ops Wx)]) none [] [] kd ne pa 0 0 mu' ∧ qfr x mu mu' := by
  obtain ⟨m1, a1, a2, a3⟩ := sq_endsC (qS_9 hS) hk ht hx hb hw hne
  have tk : FX7_takes x mu (nI (T a)) = some (nI 1, m1) := by
    rw [h59, sq_tk4 hS (by decide) (by decide) (by decide)]
    unfold FX7_takesSign
    rw [if_neg (by decide), if_neg (by decide), if_neg (by decide), if_neg (by decide), if_neg (by decide), if_neg (by decide), if_pos rfl, a1, fg_b2_s, fg_dt z01_1, fg_gd_t, fg_b2_s, fg_dt z01_1, fg_gd_t]
  exact ⟨m1, (rq_step hT ha tk).1 (by decide), a2, qfr_tr qfr_9 a3⟩
theorem rq_done {x n dg : Nat} {T : Nat → Nat} {U : bs_U} {tj : Option (List Nat)} {c : List Nat} {Wx : List (Nat × Nat)} {kd ne pa : Nat} {mu : bs_Mm} (hS : qS x U tj c Wx kd (ne + q_bg Wx) pa 4 dg mu) (hT : cT x n T mu) (hk : kd = 0 ∨ kd = 3) (ht : tj ≠ some []) (hx : ∀ w, w ∈ Wx → 1 ≤ tg w.1) (hb : u_z U + qz tj + c.length + Wx.length < 201) (hw : Wx.length ≤ 200) (hne : ne + q_bg Wx < 1000) : ∃ mu', rq_fin x (rq_go x n n mu) = some (-1, mu') ∧ qs x (U ++ [(qd tj, c ++ q_ops Wx)]) none [] mu' ∧ qfr x mu mu' := by
  obtain ⟨m1, a1, a2, a3⟩ := sq_endsC hS hk ht hx hb hw hne
  refine ⟨m1, ?_, a2.1.1, a3⟩
  rw [rq_end hT]
  unfold rq_fin
  rw [fg_l3_l, if_pos hS.2.1, a1, fg_b2_s, if_neg (by decide)]
/-- what opens a unit -/
theorem rq_open {x n a dg : Nat} {T : Nat → Nat} {U : bs_U} {tj : Option (List Nat)} {c : List Nat} {W : List (Nat × Nat)} {kd ne pa : Nat} {mu : bs_Mm} (hS : qS x U tj c W kd ne pa 2 dg mu) (hT : cT x n T mu) (ha : a < n) (ht : T a = 33 ∨ T a = 40) (hw : W.length < 200) (hne : ne ≤ 6) : (ne < 6 → ∃ mu', rq_go x n a mu = rq_go x n (a + 1) mu' ∧ qS x U tj c ((T a, 1) :: W) 1 (ne + 1) (pa + (if T a = 40 then 1 else 0)) 2 0 mu' ∧ qfr x mu mu') ∧ (ne = 6 → rq_F x n a mu a) := by
  have h9 := qS_9 hS
  obtain ⟨m0, hm0⟩ : ∃ y, y = bs_up mu (x + 20) 9 (.int (nI 0)) := ⟨_, rfl⟩
  rw [← hm0] at h9
  have fr0 : qfr x mu m0 := by rw [hm0]; exact qfr_9
  have nd : ¬ (48 ≤ T a ∧ T a ≤ 57) := by omega
  have tk : ∀ v m1, FX7_opensUnit x m0 (nI (T a)) = some (v, m1) → (v = 0 ∨ v = 1) → FX7_takes x mu (nI (T a)) = some (v, m1) := by
    intro v m1 h hv
    rw [sq_tk (hT.2.2 a ha).2.2 nd (by omega), ← hm0, h9.2.1, if_neg (by decide), if_neg (by decide), if_pos rfl]
    rcases ht with e | e
    · rw [if_pos (by rw [e]), h, fg_b2_s, fg_dt hv, fg_gd_t]
    · rw [if_neg (by rw [e]; decide), if_pos (by rw [e]), h, fg_b2_s, fg_dt hv, fg_gd_t]
  obtain ⟨q1, q2, q3, q4, q5, q6, q7⟩ := id h9.1
  refine ⟨fun h6 => ?_, fun h6 => ?_⟩
  · obtain ⟨m1, hm1⟩ : ∃ y, y = bs_up m0 (x + 20) 6 (.int (nI 1)) := ⟨_, rfl⟩
    obtain ⟨m2, hm2⟩ : ∃ y, y = bs_up m1 (x + 20) 7 (.int (nI (ne + 1))) := ⟨_, rfl⟩
    obtain ⟨m3, hm3⟩ : ∃ y, y = bs_up m2 (x + 20) 8 (.int (nI (pa + (if T a = 40 then 1 else 0)))) := ⟨_, rfl⟩
    have f3 : ∀ a, a ≠ x + 20 → m3 a = m0 a := fun a ha => by rw [hm3, bs_up_f ha, hm2, bs_up_f ha, hm1, bs_up_f ha]
    have o3 : ∀ k, k ≠ 6 → k ≠ 7 → k ≠ 8 → m3 (x + 20) k = m0 (x + 20) k := fun k k6 k7 k8 => by rw [hm3, bs_up_j k8, hm2, bs_up_j k7, hm1, bs_up_j k6]
    have e17 : bs_iv (m1 (x + 20) 7) = nI ne := by rw [hm1, bs_up_j (by decide)]; exact q6
    have e28 : bs_iv (m2 (x + 20) 8) = nI pa := by rw [hm2, bs_up_j (by decide), hm1, bs_up_j (by decide)]; exact q7
    obtain ⟨m4, r1, r2, r3, r4⟩ := sq_await (x := x) (o := T a) (U := U) (tj := tj) (c := c) (W := W) (kd := 1) (ne := ne + 1) (pa := pa + (if T a = 40 then 1 else 0)) (mu := m3) ⟨qs_of q1 (f3 _ (by omega)) (f3 _ (by omega)), by rw [o3 10 (by decide) (by decide) (by decide)]; exact q2, qw_of _ q3 fun j _ => ⟨by rw [f3 _ (by omega)], by rw [f3 _ (by omega)]⟩, by rw [o3 4 (by decide) (by decide) (by decide)]; exact q4, by rw [hm3, bs_up_j (by decide), hm2, bs_up_j (by decide), hm1, bs_up_eq]; rfl, by rw [hm3, bs_up_j (by decide), hm2, bs_up_eq]; rfl, by rw [hm3, bs_up_eq]; rfl⟩ hw (by omega) (by decide)
    have op : FX7_opensUnit x m0 (nI (T a)) = some (nI 1, m4) := by
      unfold FX7_opensUnit
      rw [q6, if_pos ((nI_ltI (by omega) (by decide)).mpr h6), fg_wr_s, ← hm1, e17, fn_add, fg_wr_s, ← hm2, e28]
      by_cases e : T a = 40
      · rw [if_pos (by rw [e]), fn_add]
        rw [if_pos e] at hm3
        rw [fg_wr_s, ← hm3, r1, fg_bd_s]
      · rw [if_neg (nI_ne (by omega) (by decide) e), fn_add]
        rw [if_neg e] at hm3
        rw [fg_wr_s, ← hm3, r1, fg_bd_s]
    refine ⟨m4, (rq_step hT ha (tk _ _ op z01_1)).1 (by decide), ⟨r2, by rw [r3 5 (by decide), o3 5 (by decide) (by decide) (by decide)]; exact h9.2.1, by rw [r3 9 (by decide), o3 9 (by decide) (by decide) (by decide)]; exact h9.2.2⟩, fun b hb => by rw [r4 b hb, f3 b (by omega), fr0 b hb]⟩
  · have op : FX7_opensUnit x m0 (nI (T a)) = some (nI 0, m0) := by
      unfold FX7_opensUnit
      rw [q6, if_neg (fun w => by have := (nI_ltI (by omega) (by decide)).mp w; omega)]
    exact rq_F_ref hT ha (tk _ _ op z01_0) fr0
/-- the beginning of a clause -/
theorem rq_w {x n a dg : Nat} {T : Nat → Nat} {U : bs_U} {tj : Option (List Nat)} {c : List Nat} {W : List (Nat × Nat)} {kd ne pa : Nat} {mu : bs_Mm} (hS : qS x U tj c W kd ne pa 0 dg mu) (hT : cT x n T mu) (ha : a < n) (hd : ¬ tdg n T a) (h32 : T a ≠ 32) : (T a = 119 → ∃ mu', rq_go x n a mu = rq_go x n (a + 1) mu' ∧ qS x U tj c W kd ne pa 1 0 mu' ∧ qfr x mu mu') ∧ (T a ≠ 119 → rq_F x n a mu a) := by
  have ta := (hT.2.2 a ha).2.2
  have h9 := qS_9 hS
  obtain ⟨m0, hm0⟩ : ∃ y, y = bs_up mu (x + 20) 9 (.int (nI 0)) := ⟨_, rfl⟩
  rw [← hm0] at h9
  have fr1 : qfr x mu (bs_up m0 (x + 20) 5 (.int (nI 1))) := fun b hb => by rw [bs_up_f (by omega), hm0, bs_up_f (by omega)]
  have tk : ∀ v, (if nI (T a) = nI 119 then (1 : Int32) else 0) = v → FX7_takes x mu (nI (T a)) = some (v, bs_up m0 (x + 20) 5 (.int (nI 1))) := by
    intro v hv
    rw [sq_tk ta (fun w => hd ⟨ha, w⟩) h32, ← hm0, h9.2.1, if_pos rfl, fg_wr_s]
    by_cases e : nI (T a) = nI 119
    · rw [if_pos e] at hv ⊢
      rw [← hv]
      rfl
    · rw [if_neg e] at hv ⊢
      rw [← hv]
      rfl
  refine ⟨fun e => ⟨_, (rq_step hT ha (tk 1 (if_pos (by rw [e])))).1 (by decide), ⟨qc_of h9.1 (fun k k5 _ => bs_up_j k5) (fun b hb => bs_up_f hb), by rw [bs_up_eq]; rfl, by rw [bs_up_j (by decide)]; exact h9.2.2⟩, fr1⟩, fun e => rq_F_ref hT ha (tk 0 (if_neg (nI_ne (by omega) (by decide) e))) fr1⟩
theorem rq_colon {x n a dg : Nat} {T : Nat → Nat} {U : bs_U} {tj : Option (List Nat)} {c : List Nat} {W : List (Nat × Nat)} {kd ne pa : Nat} {mu : bs_Mm} (hS : qS x U tj c W kd ne pa 1 dg mu) (hT : cT x n T mu) (ha : a < n) (hd : ¬ tdg n T a) (h32 : T a ≠ 32) : (T a = 58 → ∃ mu', rq_go x n a mu = rq_go x n (a + 1) mu' ∧ qS x U tj c W 0 ne pa 2 0 mu' ∧ qfr x mu mu') ∧ (T a ≠ 58 → rq_F x n a mu a) := by
  have ta := (hT.2.2 a ha).2.2
  have h9 := qS_9 hS
  obtain ⟨m0, hm0⟩ : ∃ y, y = bs_up mu (x + 20) 9 (.int (nI 0)) := ⟨_, rfl⟩
  rw [← hm0] at h9
  obtain ⟨m1, hm1⟩ : ∃ y, y = bs_up (bs_up m0 (x + 20) 5 (.int (nI 2))) (x + 20) 6 (.int (nI 0)) := ⟨_, rfl⟩
  have f1 : ∀ b, b ≠ x + 20 → m1 b = m0 b := fun b hb => by rw [hm1, bs_up_f hb, bs_up_f hb]
  have o1 : ∀ k, k ≠ 5 → k ≠ 6 → m1 (x + 20) k = m0 (x + 20) k := fun k k5 k6 => by rw [hm1, bs_up_j k6, bs_up_j k5]
  have fr1 : qfr x mu m1 := fun b hb => by rw [f1 b (by omega), hm0, bs_up_f (by omega)]
  have tk : ∀ v, (if nI (T a) = nI 58 then (1 : Int32) else 0) = v → FX7_takes x mu (nI (T a)) = some (v, m1) := by
    intro v hv
    rw [sq_tk ta (fun w => hd ⟨ha, w⟩) h32, ← hm0, h9.2.1, if_neg (by decide), if_pos rfl, fg_wr_s, fg_wr_s, ← hm1]
    by_cases e : nI (T a) = nI 58
    · rw [if_pos e] at hv ⊢
      rw [← hv]
      rfl
    · rw [if_neg e] at hv ⊢
      rw [← hv]
      rfl
  obtain ⟨q1, q2, q3, q4, q5, q6, q7⟩ := id h9.1
  refine ⟨fun e => ⟨m1, (rq_step hT ha (tk 1 (if_pos (by rw [e])))).1 (by decide), ⟨⟨qs_of q1 (f1 _ (by omega)) (f1 _ (by omega)), by rw [o1 10 (by decide) (by decide)]; exact q2, qw_of _ q3 fun j _ => ⟨by rw [f1 _ (by omega)], by rw [f1 _ (by omega)]⟩, by rw [o1 4 (by decide) (by decide)]; exact q4, by rw [hm1, bs_up_eq]; rfl, by rw [o1 7 (by decide) (by decide)]; exact q6, by rw [o1 8 (by decide) (by decide)]; exact q7⟩, by rw [hm1, bs_up_j (by decide), bs_up_eq]; rfl, by rw [o1 9 (by decide) (by decide)]; exact h9.2.2⟩, fr1⟩, fun e => rq_F_ref hT ha (tk 0 (if_neg (nI_ne (by omega) (by decide) e))) fr1⟩
