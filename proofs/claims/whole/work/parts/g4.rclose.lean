/-! READING A RULE (own): the class's steps (4): what closes, asks, ends, opens -/
theorem sq_closes {x o k0 pa' dg : Nat} {U : bs_U} {tj : Option (List Nat)} {c : List Nat} {Wx W0 : List (Nat × Nat)} {kd ne : Nat} {mu : bs_Mm} (ho : o = 40 ∨ o = 91) (h : qc x U tj c (Wx ++ (o, k0) :: W0) kd (ne + 1 + q_bg Wx) (pa' + (if o = 40 then 1 else 0)) mu) (h5 : bs_iv (mu (x + 20) 5) = nI 4) (h9 : bs_iv (mu (x + 20) 9) = nI dg) (hx : ∀ w, w ∈ Wx → 1 ≤ tg w.1) (hb : u_z U + qz tj + c.length + Wx.length < 201) (hw : (Wx ++ (o, k0) :: W0).length ≤ 200) (hne : ne + 1 + q_bg Wx < 1000) : ∃ mu', FX7_closes x mu (nI o) (if o = 40 then nI 5 else -1) = some (nI 1, mu') ∧ qS x U tj (c ++ q_ops Wx) W0 (if o = 40 then 5 else k0) ne pa' 4 dg mu' ∧ qfr x mu mu' := by
  have o1 : o < 1000 := by omega
  obtain ⟨m1, a1, a2, a3, a4⟩ := sq_tellW (t := 1) (by decide) Wx ((o, k0) :: W0) c (ne + 1) mu h hx (fun w W e => by
    have e2 : w = (o, k0) := (List.cons.inj e).1.symm
    rw [e2]
    rcases ho with e | e
    · subst e; exact (by decide : tg 40 < 1)
    · subst e; exact (by decide : tg 91 < 1)) hb hw hne (by decide)
  rw [List.length_append, List.length_cons] at hw
  obtain ⟨q1, q2, q3, q4, q5, q6, q7⟩ := id a2
  have q4 : bs_iv (m1 (x + 20) 4) = nI (W0.length + 1) := q4
  obtain ⟨w1, w2, w3, w4, w5⟩ := id q3
  have w1 : bs_iv (m1 (x + 24) W0.length) = nI o := w1
  have w2 : bs_iv (m1 (x + 25) W0.length) = nI k0 := w2
  obtain ⟨m2, hm2⟩ : ∃ y, y = bs_up m1 (x + 20) 4 (.int (nI W0.length)) := ⟨_, rfl⟩
  obtain ⟨m3, hm3⟩ : ∃ y, y = bs_up m2 (x + 20) 7 (.int (nI ne)) := ⟨_, rfl⟩
  obtain ⟨m4, hm4⟩ : ∃ y, y = bs_up m3 (x + 20) 8 (.int (nI pa')) := ⟨_, rfl⟩
  obtain ⟨m5, hm5⟩ : ∃ y, y = bs_up m4 (x + 20) 6 (.int (nI (if o = 40 then 5 else k0))) := ⟨_, rfl⟩
  have f4 : ∀ a, a ≠ x + 20 → m4 a = m1 a := fun a ha => by rw [hm4, bs_up_f ha, hm3, bs_up_f ha, hm2, bs_up_f ha]
  have f5 : ∀ a, a ≠ x + 20 → m5 a = m1 a := fun a ha => by rw [hm5, bs_up_f ha, f4 a ha]
  have o5 : ∀ k, k ≠ 4 → k ≠ 6 → k ≠ 7 → k ≠ 8 → m5 (x + 20) k = m1 (x + 20) k := fun k k4 k6 k7 k8 => by rw [hm5, bs_up_j k6, hm4, bs_up_j k8, hm3, bs_up_j k7, hm2, bs_up_j k4]
  have e47 : bs_iv (m2 (x + 20) 7) = nI (ne + 1) := by rw [hm2, bs_up_j (by decide)]; exact q6
  have e38 : bs_iv (m3 (x + 20) 8) = nI (pa' + (if o = 40 then 1 else 0)) := by rw [hm3, bs_up_j (by decide), hm2, bs_up_j (by decide)]; exact q7
  have e44 : bs_iv (m4 (x + 20) 4) = nI W0.length := by rw [hm4, bs_up_j (by decide), hm3, bs_up_j (by decide), hm2, bs_up_eq]; rfl
  have gi : fg_in (nI W0.length) 200 = true := fn_in (by omega) (by decide)
  have ci : (nI W0.length).toNatClampNeg = W0.length := fn_cl (by omega)
  have j65 : FX7_closes_j65 x m3 (if o = 40 then nI 5 else -1) (nI (pa' + (if o = 40 then 1 else 0))) (nI (if o = 40 then 1 else 0)) = some (nI 1, m5) := by
    unfold FX7_closes_j65
    rw [fn_sub (by omega), Nat.add_sub_cancel, fg_wr_s, ← hm4]
    rcases ho with e | e
    · subst e
      rw [if_pos rfl, if_neg (by decide), fg_wr_s]
      rw [hm5, if_pos rfl]
    · subst e
      have e25 : bs_iv (m4 (x + 25) W0.length) = nI k0 := by rw [f4 _ (by omega)]; exact w2
      rw [show (if (91 : Nat) = 40 then nI 5 else (-1 : Int32)) = -1 from if_neg (by decide), if_pos rfl, e44, gi, fg_gd_t, ci, e25, fg_wr_s]
      rw [hm5, if_neg (by decide)]
  refine ⟨m5, ?_, ⟨⟨qs_of q1 (f5 _ (by omega)) (f5 _ (by omega)), by rw [o5 10 (by decide) (by decide) (by decide) (by decide)]; exact q2, qw_of _ w5 fun j _ => ⟨by rw [f5 _ (by omega)], by rw [f5 _ (by omega)]⟩, by rw [hm5, bs_up_j (by decide)]; exact e44, by rw [hm5, bs_up_eq]; rfl, by rw [hm5, bs_up_j (by decide), hm4, bs_up_j (by decide), hm3, bs_up_eq]; rfl, by rw [hm5, bs_up_j (by decide), hm4, bs_up_eq]; rfl⟩, by rw [o5 5 (by decide) (by decide) (by decide) (by decide), a3 5 (by decide) (by decide)]; exact h5, by rw [o5 9 (by decide) (by decide) (by decide) (by decide), a3 9 (by decide) (by decide)]; exact h9⟩, fun a ha => by rw [f5 a (by omega), a4 a ha]⟩
  unfold FX7_closes
  rw [show (nI 1 : Int32) = nI 1 from rfl, a1, fg_bd_s, q4, if_neg (fun w => by rw [fn_le0 (by omega)] at w; omega), fn_sub (by omega), Nat.add_sub_cancel, gi, fg_gd_t, ci, w1, if_pos rfl, fg_wr_s, ← hm2, e47, fn_sub (by omega), Nat.add_sub_cancel, fg_wr_s, ← hm3, e38]
  rcases ho with e | e
  · subst e
    rw [if_pos (by decide)]
    exact j65
  · subst e
    rw [if_neg (by decide)]
    exact j65
theorem rq_paren {x n a k0 pa dg : Nat} {T : Nat → Nat} {U : bs_U} {tj : Option (List Nat)} {c : List Nat} {Wx W0 : List (Nat × Nat)} {kd ne : Nat} {mu : bs_Mm} (hS : qS x U tj c (Wx ++ (40, k0) :: W0) kd (ne + 1 + q_bg Wx) (pa + 1) 4 dg mu) (hT : cT x n T mu) (ha : a < n) (ht : T a = 41) (hk : kd = 2 ∨ kd = 5) (hp : pa < 1000) (hx : ∀ w, w ∈ Wx → 1 ≤ tg w.1) (hb : u_z U + qz tj + c.length + Wx.length < 201) (hw : (Wx ++ (40, k0) :: W0).length ≤ 200) (hne : ne + 1 + q_bg Wx < 1000) : ∃ mu', rq_go x n a mu = rq_go x n (a + 1) mu' ∧ qS x U tj (c ++ q_ops Wx) W0 5 ne pa 4 0 mu' ∧ qfr x mu mu' := by
  have h9 := qS_9 hS
  obtain ⟨m1, a1, a2, a3⟩ := sq_closes (x := x) (o := 40) (pa' := pa) (Or.inl rfl) h9.1 h9.2.1 h9.2.2 hx hb hw hne
  have w := sq_whole h9.1.2.2.2.2.1 (show kd < 1000 by omega)
  rw [if_pos hk] at w
  have a1 : FX7_closes x (bs_up mu (x + 20) 9 (.int (nI 0))) (nI 40) (nI 5) = some (nI 1, m1) := a1
  have sg : FX7_takesSign x (bs_up mu (x + 20) 9 (.int (nI 0))) (nI 41) = some (nI 1, m1) := by
    unfold FX7_takesSign
    rw [if_neg (by decide), if_pos rfl, w, fg_bd_s, if_neg (by decide), h9.1.2.2.2.2.2.2, if_neg (fun w => by rw [fn_le0 (by omega)] at w; omega), b2_j a1]
  have tk : FX7_takes x mu (nI (T a)) = some (nI 1, m1) := by
    rw [ht, sq_tk4 hS (by decide) (by decide) (by decide), sg, fg_b2_s, fg_dt z01_1, fg_gd_t]
  exact ⟨m1, (rq_step hT ha tk).1 (by decide), a2, qfr_tr qfr_9 a3⟩
theorem rq_brack {x n a k0 pa dg : Nat} {T : Nat → Nat} {U : bs_U} {tj : Option (List Nat)} {c : List Nat} {Wx W0 : List (Nat × Nat)} {ne : Nat} {mu : bs_Mm} (hS : qS x U tj c (Wx ++ (91, k0) :: W0) 4 (ne + 1 + q_bg Wx) pa 4 dg mu) (hT : cT x n T mu) (ha : a < n) (ht : T a = 93) (hx : ∀ w, w ∈ Wx → 1 ≤ tg w.1) (hb : u_z U + qz tj + c.length + Wx.length < 201) (hw : (Wx ++ (91, k0) :: W0).length ≤ 200) (hne : ne + 1 + q_bg Wx < 1000) : ∃ mu', rq_go x n a mu = rq_go x n (a + 1) mu' ∧ qS x U tj (c ++ q_ops Wx) W0 k0 ne pa 4 0 mu' ∧ qfr x mu mu' := by
  have h9 := qS_9 hS
  obtain ⟨m1, a1, a2, a3⟩ := sq_closes (x := x) (o := 91) (pa' := pa) (Or.inr rfl) h9.1 h9.2.1 h9.2.2 hx hb hw hne
  have a1 : FX7_closes x (bs_up mu (x + 20) 9 (.int (nI 0))) (nI 91) (-1) = some (nI 1, m1) := a1
  have sg : FX7_takesSign x (bs_up mu (x + 20) 9 (.int (nI 0))) (nI 93) = some (nI 1, m1) := by
    unfold FX7_takesSign
    rw [if_neg (by decide), if_neg (by decide), if_neg (by decide), if_neg (by decide), if_neg (by decide), if_neg (by decide), if_neg (by decide), if_neg (by decide), if_neg (by decide), if_neg (by decide), if_neg (by decide), if_pos rfl, h9.1.2.2.2.2.1, if_pos rfl, b2_j a1]
  have tk : FX7_takes x mu (nI (T a)) = some (nI 1, m1) := by
    rw [ht, sq_tk4 hS (by decide) (by decide) (by decide), sg, fg_b2_s, fg_dt z01_1, fg_gd_t]
  exact ⟨m1, (rq_step hT ha tk).1 (by decide), a2, qfr_tr qfr_9 a3⟩
/-- a number is told as it is -/
theorem sq_tellR {x k : Nat} {v : Int32} {mu : bs_Mm} (h : bs_iv (mu (x + 21) 1) = nI k) (hk : k < 201) : ∃ mu', FX7_tell x mu v = some mu' ∧ bs_iv (mu' (x + 21) 1) = nI (k + 1) ∧ bs_iv (mu' (x + 22) k) = v ∧ (∀ j, j ≠ k → mu' (x + 22) j = mu (x + 22) j) ∧ ∀ a, a ≠ x + 21 → a ≠ x + 22 → mu' a = mu a := by
  obtain ⟨m1, hm1⟩ : ∃ y, y = bs_up mu (x + 22) k (.int v) := ⟨_, rfl⟩
  have e1 : bs_iv (m1 (x + 21) 1) = nI k := by rw [hm1, bs_up_f (by omega)]; exact h
  refine ⟨bs_up m1 (x + 21) 1 (.int (nI (k + 1))), ?_, by rw [bs_up_eq]; rfl, by rw [bs_up_f (by omega), hm1, bs_up_eq]; rfl, fun j hj => by rw [bs_up_f (by omega), hm1, bs_up_j hj], fun a a1 a2 => by rw [bs_up_f a1, hm1, bs_up_f a2]⟩
  unfold FX7_tell
  rw [h, if_neg (fun w => by have := (nI_leI (by decide) (by omega)).mp w; omega), fn_in hk (by decide), fg_gd_t, fn_cl (by omega), fg_wr_s, ← hm1, e1, fn_add, fg_wr_s]
/-- the sign ? -/
theorem rq_ask {x n a dg : Nat} {T : Nat → Nat} {U : bs_U} {c : List Nat} {Wx : List (Nat × Nat)} {kd ne : Nat} {mu : bs_Mm} (hS : qS x U none c Wx kd (ne + q_bg Wx) 0 4 dg mu) (hT : cT x n T mu) (ha : a < n) (ht : T a = 63) (hk : kd = 2 ∨ kd = 5) (hx : ∀ w, w ∈ Wx → 1 ≤ tg w.1) (hb : u_z U + c.length + Wx.length < 200) (hw : Wx.length ≤ 200) (hne : ne + q_bg Wx < 1000) : ∃ mu', rq_go x n a mu = rq_go x n (a + 1) mu' ∧ qS x U (some (c ++ q_ops Wx)) [] [] 3 ne 0 3 0 mu' ∧ qfr x mu mu' := by
  have h9 := qS_9 hS
  obtain ⟨m0, hm0⟩ : ∃ y, y = bs_up mu (x + 20) 9 (.int (nI 0)) := ⟨_, rfl⟩
  rw [← hm0] at h9
  have fr0 : qfr x mu m0 := by rw [hm0]; exact qfr_9
  have nn : Wx ++ [] = Wx := List.append_nil Wx
  obtain ⟨m1, a1, a2, a3, a4⟩ := sq_tellW (x := x) (t := 1) (by decide) Wx [] c ne m0 (by rw [nn]; exact h9.1) hx (fun w W e => by cases e) (by show u_z U + 0 + c.length + Wx.length < 201; omega) (by rw [nn]; exact hw) hne (by decide)
  obtain ⟨q1, q2, q3, q4, q5, q6, q7⟩ := id a2
  obtain ⟨s1, s2, s3, s4⟩ := id q1
  have l1 : (c ++ q_ops Wx).length = c.length + Wx.length := by rw [List.length_append]; unfold q_ops; rw [List.length_map]
  have s3 : u_s (fun j => bs_iv (m1 (x + 22) j)) (u_z U) (c ++ q_ops Wx) := s3
  have s4 : bs_iv (m1 (x + 21) 1) = nI (u_z U + (c ++ q_ops Wx).length) := s4
  obtain ⟨sz, hsz⟩ : ∃ y, y = u_z U + (c ++ q_ops Wx).length := ⟨_, rfl⟩
  rw [← hsz] at s4
  obtain ⟨m2, hm2⟩ : ∃ y, y = bs_up m1 (x + 20) 10 (.int (nI sz)) := ⟨_, rfl⟩
  have f2 : ∀ a, a ≠ x + 20 → m2 a = m1 a := fun a ha => by rw [hm2, bs_up_f ha]
  obtain ⟨m3, b1, b2, b3, b4, b5⟩ := sq_tellR (x := x) (k := sz) (v := nI 20000) (mu := m2) (by rw [f2 _ (by omega)]; exact s4) (by omega)
  obtain ⟨m4, hm4⟩ : ∃ y, y = bs_up (bs_up m3 (x + 20) 5 (.int (nI 3))) (x + 20) 6 (.int (nI 3)) := ⟨_, rfl⟩
  have f4 : ∀ a, a ≠ x + 20 → m4 a = m3 a := fun a ha => by rw [hm4, bs_up_f ha, bs_up_f ha]
  have o4 : ∀ k, k ≠ 5 → k ≠ 6 → k ≠ 10 → m4 (x + 20) k = m1 (x + 20) k := fun k k5 k6 k10 => by rw [hm4, bs_up_j k6, bs_up_j k5, b5 _ (by omega) (by omega), hm2, bs_up_j k10]
  have old : ∀ j, j < sz → m4 (x + 22) j = m1 (x + 22) j := fun j hj => by rw [f4 _ (by omega), b4 j (by omega), f2 _ (by omega)]
  have ec : FX7_endsCondition x m0 = some (nI 1, m4) := by
    unfold FX7_endsCondition
    rw [a1, fg_bd_s, s4, fg_wr_s, ← hm2, b1, fg_bd_s, fg_wr_s, fg_wr_s, ← hm4]
  have w := sq_whole h9.1.2.2.2.2.1 (show kd < 1000 by omega)
  rw [if_pos hk] at w
  have sg : FX7_takesSign x m0 (nI 63) = some (nI 1, m4) := by
    unfold FX7_takesSign
    rw [if_neg (by decide), if_neg (by decide), if_neg (by decide), if_neg (by decide), if_neg (by decide), if_neg (by decide), if_neg (by decide), if_neg (by decide), if_neg (by decide), if_neg (by decide), if_pos rfl, w, fg_bd_s, if_neg (by decide), h9.1.2.2.2.2.2.2, if_pos nI_0, b2_j ec]
  have tk : FX7_takes x mu (nI (T a)) = some (nI 1, m4) := by
    rw [ht, sq_tk4 hS (by decide) (by decide) (by decide), ← hm0, sg, fg_b2_s, fg_dt z01_1, fg_gd_t]
  refine ⟨m4, (rq_step hT ha tk).1 (by decide), ⟨⟨⟨u_r_cg _ _ s1 fun j _ hj => by show bs_iv (m4 (x + 22) j) = _; rw [old j (by omega)], ⟨u_s_cg _ _ s3 fun j _ hj => by show bs_iv (m4 (x + 22) j) = _; rw [old j (by omega)], ?_⟩, trivial, ?_⟩, ?_, trivial, by rw [o4 4 (by decide) (by decide) (by decide)]; exact q4, by rw [hm4, bs_up_eq]; rfl, by rw [o4 7 (by decide) (by decide) (by decide)]; exact q6, by rw [o4 8 (by decide) (by decide) (by decide)]; exact q7⟩, by rw [hm4, bs_up_j (by decide), bs_up_eq]; rfl, ?_⟩, fun b hb2 => by rw [f4 b (by omega), b5 b (by omega) (by omega), f2 b (by omega), a4 b hb2, fr0 b hb2]⟩
  · show bs_iv (m4 (x + 22) (u_z U + (c ++ q_ops Wx).length)) = nI 20000
    rw [← hsz, f4 _ (by omega), b3]
  · show bs_iv (m4 (x + 21) 1) = nI (u_z U + ((c ++ q_ops Wx).length + 1) + 0)
    rw [f4 _ (by omega), b2, hsz]
    rfl
  · show bs_iv (m4 (x + 20) 10) = nI (u_z U + (c ++ q_ops Wx).length)
    rw [← hsz, hm4, bs_up_j (by decide), bs_up_j (by decide), b5 _ (by omega) (by omega), hm2, bs_up_eq]
    rfl
  · rw [o4 9 (by decide) (by decide) (by decide), a3 9 (by decide) (by decide)]
    exact h9.2.2
