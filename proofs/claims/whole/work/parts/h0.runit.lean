/-! READING A RULE (own): both sides: a UNIT (1): what is compared; what opens -/
def q_sU (n : Nat) (T : Nat → Nat) (a k : Nat) : Prop := k = 5 ∨ (k = 2 ∧ q_s5 n T a)
def q_sT (n : Nat) (T : Nat → Nat) (a k : Nat) : Prop := ¬ (a < n ∧ T a = 32) ∧ ¬ (a < n ∧ T a = 38) ∧ (k = 5 ∨ (k = 2 ∧ ¬ (a < n ∧ q_ar (T a))))
def q_sC (n : Nat) (T : Nat → Nat) (a k : Nat) : Prop := ¬ (a < n ∧ T a = 32) ∧ ¬ (a < n ∧ q_lo (T a)) ∧ (k = 5 ∨ (k = 2 ∧ ¬ (a < n ∧ q_ar (T a))))
/-- f reads a unit -/
def q_SIU (x m n q ne : Nat) (T : Nat → Nat) (U : bs_U) (tj : Option (List Nat)) (f : bs_Mm → Int32 → Option bs_Mm) : Prop := ∀ c W0 kd pa a s mc mm, gP x m n q ne T U tj c W0 kd pa 2 a s mc mm → (kd = 1 ∨ (kd = 0 ∧ a < n ∧ (T a = 33 ∨ T a = 40))) → (∀ w W, W0 = w :: W → tg w.1 < 4) → ∃ mm', f mm (nI 0) = some mm' ∧ gLe 3 true (q_sU n T) x m n q ne T U tj c W0 kd pa a s mc mm mm'
theorem gYa_up {L : Nat} {B : Bool} {x m n q ne : Nat} {T : Nat → Nat} {U : bs_U} {tj : Option (List Nat)} {c : List Nat} {W0 : List (Nat × Nat)} {kd pa a s a2 : Nat} {mc mm mc2 mm2 : bs_Mm} {a1 kd1 : Nat} {mm1 : bs_Mm} (e1 : rq_go x n a mc = rq_go x n a2 mc2) (e2 : qfr x mc mc2) (e3 : mqr m q s mm mm2) (e4 : a ≤ a2) (h : gYa L B x m n q ne T U tj c W0 kd pa a2 s mc2 mm2 a1 kd1 mm1) : gYa L B x m n q ne T U tj c W0 kd pa a s mc mm a1 kd1 mm1 := by
  obtain ⟨d, c', Wx, dg, mc', h1, h2, h3, h4, h5, h6, h7, h8, h9, h10, h11, h12, h13, h14, h15⟩ := h
  exact ⟨d, c', Wx, dg, mc', h1, h2, h3, h4, h5, h6, h7, h8, h9, by omega, h11, by omega, e1.trans h13, qfr_tr e2 h14, mqr_tr e3 h15 (Nat.le_refl _)⟩
theorem gLe_up {L : Nat} {B : Bool} {Q : Nat → Nat → Prop} {x m n q ne : Nat} {T : Nat → Nat} {U : bs_U} {tj : Option (List Nat)} {c : List Nat} {W0 : List (Nat × Nat)} {kd pa a s a2 : Nat} {mc mm mc2 mm2 : bs_Mm} {t : bs_Mm} (e1 : rq_go x n a mc = rq_go x n a2 mc2) (e2 : qfr x mc mc2) (e3 : mqr m q s mm mm2) (e4 : a ≤ a2) (h : gLe L B Q x m n q ne T U tj c W0 kd pa a2 s mc2 mm2 t) : gLe L B Q x m n q ne T U tj c W0 kd pa a s mc mm t := by
  rcases h with ⟨a1, k1, h1, h2⟩ | h
  · exact Or.inl ⟨a1, k1, gYa_up e1 e2 e3 e4 h1, h2⟩
  · exact Or.inr (gN_up e1 e2 (mqr_le e3 (Nat.zero_le _)) e4 (by omega) h)
theorem sim_sum8 {x m n q ne : Nat} {T : Nat → Nat} {U : bs_U} {tj : Option (List Nat)} (h : ne ≤ 6) : q_SIM x m n q ne T U tj (FX12_sum m (fg_rS m 8)) := sim_rS 9 ne (by omega) h
theorem q_cm_tg {o : Nat} (h : q_cm o) : tg o = 4 ∧ rv_ok (30000 + o) ∧ o ≠ 33 ∧ (o = 60 ∨ o = 61 ∨ o = 62) := by
  rcases h with e | e | e
  · subst e; exact ⟨by decide, Or.inr (Or.inr (Or.inr (Or.inr (Or.inr (Or.inr (Or.inr (Or.inl rfl))))))), by decide, by decide⟩
  · subst e; exact ⟨by decide, Or.inr (Or.inr (Or.inr (Or.inr (Or.inr (Or.inr (Or.inr (Or.inr (Or.inl rfl)))))))), by decide, by decide⟩
  · subst e; exact ⟨by decide, Or.inr (Or.inr (Or.inr (Or.inr (Or.inr (Or.inr (Or.inr (Or.inr (Or.inr (Or.inl rfl))))))))), by decide, by decide⟩
/-- behind the first sum of a comparison -/
theorem sim_cmp {x m n q ne : Nat} {T : Nat → Nat} {U : bs_U} {tj : Option (List Nat)} {c : List Nat} {W0 : List (Nat × Nat)} {kd pa a s a1 : Nat} {mc mm mm1 : bs_Mm} {rU : bs_Mm → Int32 → Option bs_Mm} (hM : gM m n q ne a s T mm) (hpa : pa ≤ ne) (h : gYa 5 false x m n q ne T U tj c W0 kd pa a s mc mm a1 kd mm1) (h5 : q_s5 n T a1) (hk : kd = 1 ∨ (kd = 0 ∧ a1 < n ∧ q_cm (T a1))) (h0 : ∀ w W, W0 = w :: W → tg w.1 < 4) : ∃ mm', FX12_unit_j96 m rU mm1 = some mm' ∧ gLe 3 true (q_sU n T) x m n q ne T U tj c W0 kd pa a s mc mm mm' := by
  obtain ⟨mm2, l1, l2⟩ := gYa_lookN h h5.1
  obtain ⟨d1, e1, e2⟩ := gYa_M h
  obtain ⟨d2, f1, f2⟩ := gYa_M l2
  have n200 := hM.1.2.1
  have ne6 := hM.2.2.2.2.2.2.2.2.1
  have ss := hM.2.2.2.2.2.2.2.2.2
  have ok1 : a1 < n → T a1 ≤ 255 := fun h => (e1.1.2.2 a1 h).2.2
  have tc := fun t h1 h2 => (tch_lt (n := n) (a := a1) (t := t) ok1 h1 h2).2.2
  unfold FX12_unit_j96
  rw [e1.2.2.1, if_pos rfl, l1, fg_b2_s]
  by_cases cc : a1 < n ∧ q_cm (T a1)
  · have ha := cc.1
    have t4 := q_cm_tg cc.2
    have go : FX12_unit_j112 m rU mm2 (tch n T a1) = FX12_unit_j136 m rU mm2 (nI (T a1)) := by
      unfold FX12_unit_j112
      have ev : tch n T a1 = nI (T a1) := if_pos ha
      rcases t4.2.2.2 with e | e | e
      · rw [ev, e, if_neg (by decide), if_pos rfl]
      · rw [ev, e, if_pos rfl]
      · rw [ev, e, if_neg (by decide), if_neg (by decide), if_pos rfl]
    obtain ⟨d, mc2, k1, k2, k3, k4, k5, k6, k7, k8, k9, k10, k11, k12⟩ := gY_op (p2 := 3) (k3 := 2) l2 ha (by omega) (Or.inr (Or.inl ⟨cc.2, by omega, rfl, rfl⟩)) (by omega) (by rw [t4.1]; exact h0)
    obtain ⟨mm3, y1, y2⟩ := sim_sum8 ne6 (c ++ d) ((T a1, kd) :: W0) 2 pa 3 (a1 + 1) (s + u_l d) mc2 _ ⟨k1, k2, k6, by rw [List.length_cons]; omega, by decide, hpa⟩ (Or.inl rfl) (by decide) (fun w W e => by
      have e2 : w = (T a1, kd) := (List.cons.inj e).1.symm
      rw [e2, show tg (T a1, kd).1 = 4 from t4.1]
      decide)
    rw [go]
    unfold FX12_unit_j136
    rw [f1.2.1, fn_add, fg_wr_s, y1, fg_bd_s]
    rcases y2 with ⟨a3, y2, y3⟩ | y2
    · obtain ⟨mm4, z1, z2⟩ := gY_comb (B := true) k4 k5 k7 k9 ss k10 k11 k12 t4.2.1 t4.2.2.1 y2 (by omega) (fun d2 h2 => by
        rcases h2 with ⟨h, _⟩ | ⟨_, h2, h3⟩
        · cases h
        · rcases k3 with ⟨h, _⟩ | ⟨_, h4, h5⟩
          · cases h
          · exact Or.inl ⟨rfl, rv_Bc h4 h2 t4.2.2.2, Or.inl h3⟩)
      exact ⟨mm4, by rw [z1, fg_bd_s], Or.inl ⟨a3, 2, gYa_le z2 (by omega), Or.inr ⟨rfl, y3⟩⟩⟩
    · obtain ⟨mm4, z1, z2⟩ := gN_say (v := nI (T a1)) hM (gN_up (e := 1) k10 k11 (mqr_le k12 (Nat.zero_le _)) (by omega) (by omega) y2)
      exact ⟨mm4, by rw [z1, fg_bd_s], Or.inr z2⟩
  · have k1 : kd = 1 := hk.resolve_right (fun h => cc h.2)
    subst k1
    obtain ⟨d, c', Wx, dg, mc', z1, z2, z3, z4, z5, z6, z7, z8, z9, z10, z11, z12, z13, z14, z15⟩ := l2
    have F : rq_F x n a1 mc' a1 := by
      by_cases e : a1 = n
      · subst e
        exact rq_F_end z2 (Or.inr (by rw [z1.1.2.2.2.2.1]; decide))
      · have a1n := z9.2.2.2.2.2.2.1
        have ha : a1 < n := by omega
        by_cases cd : tdg n T a1
        · exact rq_digN z1 z2 cd (by decide) (Or.inl (z3.resolve_right (fun h => h cd)))
        · exact rq_no z1 z2 ha cd (fun w => h5.1 ⟨ha, w⟩) ⟨fun h => absurd ⟨ha, h⟩ h5.2, fun h => absurd ⟨ha, h⟩ cc, fun _ => by decide, fun _ => Or.inl (by decide), fun _ => Or.inl (by decide), fun _ => by decide, fun _ => by decide⟩ (by decide) (by omega)
    have bd := gN_bad z9 F
    refine ⟨_, ?_, Or.inr (gN_up z13 z14 (mqr_le z15 (Nat.zero_le _)) (by omega) (by omega) bd.2)⟩
    unfold FX12_unit_j112
    rw [if_neg (fun w => by have := (tc 61 (by decide) (by decide)).mp w; exact cc ⟨this.1, Or.inr (Or.inl this.2)⟩), if_neg (fun w => by have := (tc 60 (by decide) (by decide)).mp w; exact cc ⟨this.1, Or.inl this.2⟩), if_neg (fun w => by have := (tc 62 (by decide) (by decide)).mp w; exact cc ⟨this.1, Or.inr (Or.inr this.2)⟩), bd.1, fg_bd_s]
theorem sim_cmpN {x m n q a s : Nat} {T : Nat → Nat} {mc mm mm1 : bs_Mm} {rU : bs_Mm → Int32 → Option bs_Mm} (n200 : n ≤ 200) (h : gN 0 x m n q T a s mc mm mm1) : ∃ mm', FX12_unit_j96 m rU mm1 = some mm' ∧ gN 0 x m n q T a s mc mm mm' := by
  have n9 := gN_9 n200 h
  refine ⟨_, ?_, gN_b2 h⟩
  unfold FX12_unit_j96
  rw [if_neg n9.1]
  unfold FX12_unit_j112
  rw [if_neg (by decide), if_neg (by decide), if_neg (by decide), n9.2, fg_bd_s]
/-- the model opens -/
theorem gM_opens {m n q ne a s : Nat} {T : Nat → Nat} {mm : bs_Mm} (h : gM m n q ne a s T mm) (hn : ne < 6) (ha : a < n) : ∃ mB, FX12_opens m mm = some mB ∧ gM m n q (ne + 1) (a + 1) s T mB ∧ mqr m q 400 mm mB := by
  obtain ⟨mA, hA⟩ : ∃ y, y = bs_up mm m 10 (.int (nI (ne + 1))) := ⟨_, rfl⟩
  have gA : gM m n q (ne + 1) a s T mA := by
    obtain ⟨i1, i2, i3, i4, i5, i6, i7, i8, i9, i10⟩ := id h
    rw [hA]
    exact ⟨mT_of i1 (bs_up_j (by decide)) (bs_up_f (by omega)), by rw [bs_up_j (by decide)]; exact i2, by rw [bs_up_j (by decide)]; exact i3, by rw [bs_up_eq]; rfl, by rw [bs_up_j (by decide)]; exact i5, by rw [bs_up_j (by decide)]; exact i6, i7, i8, by omega, i10⟩
  have fA : mqr m q 400 mm mA := by rw [hA]; exact mqr_m (fun k _ _ k10 _ => bs_up_j k10) fun b hb => bs_up_f hb
  have g := gM_go gA ha
  refine ⟨_, ?_, g.1, mqr_tr fA g.2 (by omega)⟩
  unfold FX12_opens
  rw [h.2.2.2.1, if_neg (nI_ne (by omega) (by decide) (by omega)), fn_add, fg_wr_s, ← hA, gA.2.1, fn_add, fg_wr_s]
/-- the model comes out again -/
theorem gM_deep {m n q ne a s : Nat} {T : Nat → Nat} {mm : bs_Mm} (h : gM m n q (ne + 1) a s T mm) : gM m n q ne a s T (bs_up mm m 10 (.int (nI ne))) ∧ mqr m q 400 mm (bs_up mm m 10 (.int (nI ne))) := by
  obtain ⟨i1, i2, i3, i4, i5, i6, i7, i8, i9, i10⟩ := id h
  exact ⟨⟨mT_of i1 (bs_up_j (by decide)) (bs_up_f (by omega)), by rw [bs_up_j (by decide)]; exact i2, by rw [bs_up_j (by decide)]; exact i3, by rw [bs_up_eq]; rfl, by rw [bs_up_j (by decide)]; exact i5, by rw [bs_up_j (by decide)]; exact i6, i7, i8, by omega, i10⟩, mqr_m (fun k _ _ k10 _ => bs_up_j k10) fun b hb => bs_up_f hb⟩
/-- behind what is denied -/
theorem gY_not {x m n q ne : Nat} {T : Nat → Nat} {U : bs_U} {tj : Option (List Nat)} {c : List Nat} {W0 : List (Nat × Nat)} {kd pa a s : Nat} {mc mm mm1 : bs_Mm} (hM : gM m n q ne a s T mm) {mc2 mm2 : bs_Mm} {ax : Nat} (hgo : rq_go x n a mc = rq_go x n (ax + 1) mc2) (hfr : qfr x mc mc2) (hmf : mqr m q s mm mm2) (hax : a ≤ ax) (h : gLe 3 true (q_sU n T) x m n q (ne + 1) T U tj c ((33, 1) :: W0) 1 pa (ax + 1) s mc2 mm2 mm1) : ∃ mm', (fg_wr mm1 m 10 (.int ((bs_iv (mm1 m 10)) - (nI 1))) (fun mu21 => fg_bd (FX12_say m mu21 (nI 33)) (fun mu23 => some mu23))) = some mm' ∧ gLe 3 true (q_sU n T) x m n q ne T U tj c W0 kd pa a s mc mm mm' := by
  have ss := hM.2.2.2.2.2.2.2.2.2
  rw [fg_wr_s]
  rcases h with ⟨a1, k1, h1, h2⟩ | h
  · obtain ⟨d, c', Wx, dg, mc', z1, z2, z3, z4, z5, z6, z7, z8, z9, z10, z11, z12, z13, z14, z15⟩ := h1
    have gd := gM_deep z9
    have n2 := z9.1.2.1
    have a1n := z9.2.2.2.2.2.2.1
    have e10 : bs_iv (mm1 m 10) - nI 1 = nI ne := by rw [z9.2.2.2.1, fn_sub (by omega), Nat.add_sub_cancel]
    obtain ⟨mm4, t1, t2, t3, t4⟩ := gM_say (v := nI 33) gd.1 (by omega)
    rw [e10, t1, fg_bd_s]
    have lst : u_l [30033] = 1 := rfl
    have low : ∀ j, j < s + u_l d → qcd m q mm4 j = qcd m q mm1 j := fun j hj => (qcd_fr t4 (by omega)).trans (qcd_fr gd.2 (by omega))
    rw [List.length_cons] at z11
    refine ⟨mm4, rfl, Or.inl ⟨a1, k1, ⟨d ++ [30033], c', Wx ++ [(33, 1)], dg, mc', ?_, z2, z3, fun w hw => ?_, ?_, ?_, fun i hi => ?_, (u_t_app _ _ _).mpr ⟨u_t_cg _ _ z8 fun j _ hj => low j hj, ⟨t3, trivial⟩⟩, by rw [u_l_app, lst]; exact t2, by omega, by rw [List.length_append, List.length_singleton]; omega, by rw [u_l_app, lst]; omega, hgo.trans z13, qfr_tr hfr z14, mqr_tr hmf (mqr_tr z15 (mqr_tr (mqr_le gd.2 (show s + u_l d ≤ 400 by omega)) t4 (Nat.le_refl _)) (by omega)) (Nat.le_refl _)⟩, h2⟩⟩
    · rw [List.append_assoc, q_bg_app]
      show qS x U tj c' (Wx ++ (33, 1) :: W0) k1 (ne + (q_bg Wx + 1)) pa 4 dg mc'
      rw [show ne + (q_bg Wx + 1) = ne + 1 + q_bg Wx by omega]
      exact z1
    · rcases List.mem_append.mp hw with e | e
      · exact z4 w e
      · rw [List.mem_singleton.mp e]
        exact (by decide : 3 ≤ tg 33)
    · rw [q_ops_app, ← List.append_assoc, z5, List.append_assoc]
      rfl
    · rcases z6 with ⟨_, h, hh⟩ | ⟨h, _⟩
      · exact Or.inl ⟨rfl, rv_Bn h, hh⟩
      · cases h
    · rcases List.mem_append.mp hi with e | e
      · exact z7 i e
      · rw [List.mem_singleton.mp e]
        exact Or.inr (Or.inl rfl)
  · have h1 : gN 1 x m n q T a s mc mm mm1 := gN_up hgo hfr (mqr_le hmf (Nat.zero_le _)) (show a ≤ ax + 1 by omega) (show s + 1 ≤ s + 2 * (ax + 1 - a) by omega) h
    have h2 := gN_m h1 (mm2 := bs_up mm1 m 10 (.int ((bs_iv (mm1 m 10)) - (nI 1)))) (fun k _ k10 => bs_up_j k10) (fun b hb => bs_up_f hb)
    obtain ⟨mm4, z1, z2⟩ := gN_say (v := nI 33) hM h2
    exact ⟨mm4, by rw [z1, fg_bd_s], Or.inr z2⟩
