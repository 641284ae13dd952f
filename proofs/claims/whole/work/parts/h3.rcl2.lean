/-! READING A RULE (own): both sides: a CLAUSE (2) -/
def gCY (e x m n q : Nat) (T : Nat → Nat) (U : bs_U) (a : Nat) (mc mm mm' : bs_Mm) : Prop := ∃ tj d c' Wx kd' dg mc' a', qS x U tj c' Wx kd' (0 + q_bg Wx) 0 4 dg mc' ∧ cT x n T mc' ∧ gD n T a' dg ∧ (∀ w, w ∈ Wx → 1 ≤ tg w.1) ∧ c' ++ q_ops Wx = d ∧ (kd' = 0 ∨ kd' = 3) ∧ tj ≠ some [] ∧ u_k (qd tj, d) ∧ gM m n q 0 a' (u_y (U ++ [(qd tj, d)])) T mm' ∧ gW m q (U ++ [(qd tj, d)]) mm' ∧ a + e ≤ a' ∧ u_z U + qz tj + d.length + 2 ≤ a' ∧ q_s5 n T a' ∧ (kd' = 0 → ¬ (a' < n ∧ q_cm (T a'))) ∧ rq_go x n a mc = rq_go x n a' mc' ∧ qfr x mc mc' ∧ mqR m q mm mm'
def gCF (x m n q a : Nat) (mc mm mm' : bs_Mm) : Prop := ∃ p, bs_iv (mm' m 9) = nI p ∧ p ≤ n ∧ rq_F x n a mc p ∧ mqR m q mm mm'
theorem gCF_N {e x m n q a s i j : Nat} {T : Nat → Nat} {mc mm mm' : bs_Mm} (h : gN e x m n q T a s mc mm mm') : gCF x m n q a mc mm mm' := by
  obtain ⟨p, s', k1, k2, k3, k4, k5, k6, k7⟩ := h
  exact ⟨p, k1, k3, k4, mqR_of k7⟩
theorem gCF_t {x m n q a k : Nat} {v : Value} {mc mm mm' : bs_Mm} (h : gCF x m n q a mc mm mm') (hk : k < 64) : gCF x m n q a mc mm (bs_up mm' (m + 21) (64 * q + k) v) := by
  obtain ⟨p, k1, k2, k3, k4⟩ := h
  exact ⟨p, by rw [bs_up_f (by omega)]; exact k1, k2, k3, mqR_tr k4 (mqR_tt hk).2⟩
theorem gCF_up {x m n q a a2 : Nat} {mc mm mc2 mm2 mm' : bs_Mm} (h1 : rq_go x n a mc = rq_go x n a2 mc2) (h2 : qfr x mc mc2) (h3 : mqR m q mm mm2) (h : gCF x m n q a2 mc2 mm2 mm') : gCF x m n q a mc mm mm' := by
  obtain ⟨p, k1, k2, k3, k4⟩ := h
  exact ⟨p, k1, k2, rq_F_go h1 h2 k3, mqR_tr h3 k4⟩
theorem gCY_up {e e2 x m n q a a2 : Nat} {T : Nat → Nat} {U : bs_U} {mc mm mc2 mm2 mm' : bs_Mm} (h1 : rq_go x n a mc = rq_go x n a2 mc2) (h2 : qfr x mc mc2) (h3 : mqR m q mm mm2) (ha : a + e ≤ a2 + e2) (h : gCY e2 x m n q T U a2 mc2 mm2 mm') : gCY e x m n q T U a mc mm mm' := by
  obtain ⟨tj, d, c', Wx, kd', dg, mc', a', k1, k2, k3, k4, k5, k6, k7, k8, k9, k10, k11, k12, k13, k14, k15, k16, k17⟩ := h
  exact ⟨tj, d, c', Wx, kd', dg, mc', a', k1, k2, k3, k4, k5, k6, k7, k8, k9, k10, by omega, k12, k13, k14, h1.trans k15, qfr_tr h2 k16, mqR_tr h3 k17⟩
theorem rv_B_nn {c : List Nat} (h : rv_B c) : c ≠ [] := fun e => by
  subst e
  obtain ⟨v, _, h⟩ := h (fun _ => 0)
  obtain ⟨v', h1, _⟩ := h true (fun _ => 0) 0
  have h1 : (some ((fun _ => 0 : Nat → Int64), 0) : Option ((Nat → Int64) × Nat)) = some (v', 0 + 1) := h1
  have h2 : (0 : Nat) = 0 + 1 := congrArg Prod.snd (Option.some.inj h1)
  exact absurd h2 (by decide)
/-- what stands written when the clause begins -/
def gQ (m q : Nat) (U : bs_U) (b : Nat) (mu : bs_Mm) : Prop := gB m q U mu ∧ bs_iv (mu (m + 19) q) = nI (U.length + 1) ∧ bs_iv (mu (m + 20) (64 * q + U.length)) = nI b
theorem gQ_r {m q s b : Nat} {U : bs_U} {mu mu' : bs_Mm} (h : gQ m q U b mu) (k : mqr m q s mu mu') (hs : u_y U ≤ s) : gQ m q U b mu' := ⟨gB_r h.1 k hs, by rw [k.2.1 _ (by omega) (by omega)]; exact h.2.1, by rw [k.2.1 _ (by omega) (by omega)]; exact h.2.2⟩
/-- a sum alone -/
theorem cl_178s {x m n q : Nat} {T : Nat → Nat} {U : bs_U} {a a1 : Nat} {mc mm mm1 : bs_Mm} (hl : U.length < 64) (hQ : gQ m q U (u_y U) mm) (h : gYa 5 false x m n q 0 T U none [] [] 0 0 a (u_y U) mc mm a1 0 mm1) (h5 : q_s5 n T a1) (hn : ¬ (a1 < n ∧ q_cm (T a1))) : ∃ mm', FX12_clause_j178 m mm1 (nI (64 * q + U.length)) (nI 0) = some mm' ∧ gCY 1 x m n q T U a mc mm mm' := by
  obtain ⟨d, c', Wx, dg, mc', z1, z2, z3, z4, z5, z6, z7, z8, z9, z10, z11, z12, z13, z14, z15⟩ := h
  have Q1 := gQ_r hQ z15 (Nat.le_refl _)
  obtain ⟨mm', y1, y2, y3, y4⟩ := cl_end (te := []) z9 Q1.1 trivial z8 Q1.2.1 Q1.2.2 hl
  have nn : Wx ++ [] = Wx := List.append_nil Wx
  rw [nn] at z1
  refine ⟨mm', ?_, none, d, c', Wx, 0, dg, mc', a1, z1, z2, z3, fun w hw => Nat.le_trans (by decide) (z4 w hw), z5, Or.inl rfl, (fun e => by cases e), ⟨(fun i hi => by cases hi), z7, Or.inl rfl, ?_⟩, y2, y3, z10, z11, h5, fun _ => hn, z13, z14, mqR_tr (mqR_of z15) y4⟩
  · unfold FX12_clause_j178
    rw [z9.2.2.1, if_pos rfl, if_pos nI_0]
    exact y1
  · rcases z6 with ⟨h, _⟩ | ⟨_, h, _⟩
    · cases h
    · exact h
/-- behind a fault -/
theorem cl_178F {x m n q a s : Nat} {T : Nat → Nat} {U : bs_U} {l3 : Int32} {mc mm mm1 : bs_Mm} (hl : U.length < 64) (hq : q ≤ 6) (n200 : n ≤ 200) (h : gN 0 x m n q T a s mc mm mm1) : ∃ mm', FX12_clause_j178 m mm1 (nI (64 * q + U.length)) l3 = some mm' ∧ gCF x m n q a mc mm mm' := by
  refine ⟨_, ?_, gCF_t (v := .int (bs_iv (mm1 m 33))) (gCF_N (i := 0) (j := 0) h) hl⟩
  unfold FX12_clause_j178
  rw [if_neg (gN_9 n200 h).1, fn_in (show 64 * q + U.length < 448 by omega) (by decide), fg_gd_t, fn_cl (by omega), fg_wr_s]
set_option maxHeartbeats 1000000 in
/-- a condition, ? and a sum -/
theorem cl_178c {x m n q : Nat} {T : Nat → Nat} {U : bs_U} {a : Nat} {mc mm mm1 : bs_Mm} (hM : gM m n q 0 a (u_y U) T mm) (hl : U.length < 64) (hQ : gQ m q U (u_y U) mm) (h : gLe 1 true (q_sC n T) x m n q 0 T U none [] [] 0 0 a (u_y U) mc mm mm1) : ∃ mm', FX12_clause_j178 m mm1 (nI (64 * q + U.length)) (nI 1) = some mm' ∧ (gCY 1 x m n q T U a mc mm mm' ∨ gCF x m n q a mc mm mm') := by
  have n200 := hM.1.2.1
  have hq := hM.2.2.2.2.2.2.2.1
  have gi : fg_in (nI (64 * q + U.length)) 448 = true := fn_in (by omega) (by decide)
  have ci : (nI (64 * q + U.length)).toNatClampNeg = 64 * q + U.length := fn_cl (by omega)
  rcases h with ⟨a1, k1, h1, h2⟩ | h
  · obtain ⟨mm6, l1, l2⟩ := gYa_lookN h1 h2.1
    have k25 := gYa_kt h1
    obtain ⟨d1, e1, e2⟩ := gYa_M h1
    obtain ⟨d, c', Wx, dg, mc', z1, z2, z3, z4, z5, z6, z7, z8, z9, z10, z11, z12, z13, z14, z15⟩ := l2
    have ok1 : a1 < n → T a1 ≤ 255 := fun h => (z9.1.2.2 a1 h).2.2
    have ll : c'.length + Wx.length = d.length := by
      have := congrArg List.length z5
      rw [List.length_append, List.length_append, q_ops_len, List.length_nil, Nat.zero_add] at this
      exact this
    have bg := q_bg_len Wx
    have a1n := z9.2.2.2.2.2.2.1
    have nn : Wx ++ [] = Wx := List.append_nil Wx
    rw [nn] at z1
    have zB : rv_B d := by
      rcases z6 with ⟨_, h, _⟩ | ⟨h, _⟩
      · exact h
      · cases h
    rw [show ([] : List Nat).length = 0 from rfl, show ([] : List (Nat × Nat)).length = 0 from rfl, show qz none = 0 from rfl] at z11
    unfold FX12_clause_j178
    rw [e1.2.2.1, if_pos rfl, if_neg (by decide), l1, fg_b2_s]
    by_cases c63 : a1 < n ∧ T a1 = 63
    · rw [if_pos ((tch_lt ok1 (by decide) (by decide)).2.2.mpr c63)]
      obtain ⟨mc7, q1, q2, q3⟩ := rq_ask (x := x) (ne := 0) z1 z2 c63.1 c63.2 k25 z4 (by omega) (by omega) (by omega)
      have te : c' ++ q_ops Wx = d := z5
      rw [te] at q2
      have g7 := gM_go z9 c63.1
      obtain ⟨mm7, hm7⟩ : ∃ y, y = bs_up mm6 m 8 (.int (nI (a1 + 1))) := ⟨_, rfl⟩
      rw [← hm7] at g7
      obtain ⟨mm8, hm8⟩ : ∃ y, y = bs_up mm7 (m + 20) (64 * q + U.length) (.int (nI (u_y U + u_l d))) := ⟨_, rfl⟩
      have g8 : gM m n q 0 (a1 + 1) (u_y U + u_l d) T mm8 := by rw [hm8]; exact gM_t g7.1 (by omega)
      have f68 : mqr m q 400 mm6 mm7 := g7.2
      have f78 : mqR m q mm7 mm8 := by rw [hm8]; exact (mqR_tt hl).1
      have us := z9.2.2.2.2.2.2.2.2.2
      have Q8 : gQ m q U (u_y U + u_l d) mm8 := by
        have Q7 := gQ_r (gQ_r hQ z15 (Nat.le_refl _)) f68 (by omega)
        rw [hm8]
        exact ⟨(gB_t Q7.1 (Nat.le_refl _)).1, by rw [bs_up_f (by omega)]; exact Q7.2.1, by rw [bs_up_eq]; rfl⟩
      have cd8 : ∀ j, j < 400 → qcd m q mm8 j = qcd m q mm6 j := fun j hj => by
        rw [hm8]
        show bs_iv (bs_up mm7 (m + 20) _ _ (m + 18) _) = _
        rw [bs_up_f (by omega)]
        exact qcd_fr f68 (by omega)
      obtain ⟨mm9, y1, y2⟩ := sim_sum8 (ne := 0) (tj := some d) (by decide) [] [] 3 0 3 (a1 + 1) (u_y U + u_l d) mc7 mm8 ⟨q2, cT_q z2 q3, g8, by show u_z U + (d.length + 1) + 0 + 0 + 2 ≤ a1 + 1; omega, by decide, by decide⟩ (Or.inl rfl) (by decide) (fun w W e => by cases e)
      have go7 := z13.trans q1
      have fr7 := qfr_tr z14 q3
      have f08 : mqR m q mm mm8 := mqR_tr (mqR_of z15) (mqR_tr (mqR_of f68) f78)
      rw [z9.2.1, fn_add, fg_wr_s, ← hm7, gi, fg_gd_t, ci, g7.1.2.2.2.2.2.1, fg_wr_s, ← hm8, y1, fg_bd_s]
      rcases y2 with ⟨a3, y2, y3⟩ | y2
      · obtain ⟨d2, c2, Wx2, dg2, mc2, x1, x2, x3, x4, x5, x6, x7, x8, x9, x10, x11, x12, x13, x14, x15⟩ := y2
        have Q9 := gQ_r Q8 x15 (by omega)
        obtain ⟨mm', w1, w2, w3, w4⟩ := cl_end (te := d) x9 Q9.1 (u_t_cg _ _ z8 fun j _ hj => by rw [qcd_fr x15 hj, cd8 j (by omega)]) x8 Q9.2.1 Q9.2.2 hl
        have nn2 : Wx2 ++ [] = Wx2 := List.append_nil Wx2
        rw [nn2] at x1
        rw [gi, ci] at w1
        refine ⟨mm', w1, Or.inl ⟨some d, d2, c2, Wx2, 3, dg2, mc2, a3, x1, x2, x3, fun w hw => Nat.le_trans (by decide) (x4 w hw), x5, Or.inr rfl, fun e => rv_B_nn zB (Option.some.inj e), ⟨z7, x7, Or.inr zB, ?_⟩, w2, w3, by omega, x11, y3, fun h => by omega, go7.trans x13, qfr_tr fr7 x14, mqR_tr f08 (mqR_tr (mqR_of x15) w4)⟩⟩
        rcases x6 with ⟨h, _⟩ | ⟨_, h, _⟩
        · cases h
        · exact h
      · refine ⟨_, by rw [fg_gd_t, fg_wr_s], Or.inr (gCF_t (gCF_up go7 fr7 f08 (gCF_N (i := 0) (j := 0) y2)) hl)⟩
    · rw [if_neg (fun w => c63 ((tch_lt ok1 (by decide) (by decide)).2.2.mp w))]
      have F : rq_F x n a1 mc' a1 := by
        by_cases e : a1 = n
        · subst e
          exact rq_F_end z2 (Or.inr (by
            rw [z1.1.2.2.2.2.1]
            exact ⟨nI_ne (by omega) (by decide) (by omega), nI_ne (by omega) (by decide) (by omega)⟩))
        · have ha : a1 < n := by omega
          by_cases cd : tdg n T a1
          · exact rq_digN z1 z2 cd (by decide) (Or.inl (z3.resolve_right (fun h => h cd)))
          · refine rq_no z1 z2 ha cd (fun w => h2.1 ⟨ha, w⟩) ⟨fun h => ?_, fun _ => by omega, fun h => absurd ⟨ha, h⟩ h2.2.1, fun _ => Or.inr rfl, fun h => absurd ⟨ha, h⟩ c63, fun _ => by omega, fun _ => by omega⟩ (by omega) (by omega)
            rcases h2.2.2 with e | e
            · exact e
            · exact absurd ⟨ha, h⟩ e.2
      have bd := gN_bad z9 F
      refine ⟨_, by rw [bd.1, fg_bd_s], Or.inr (gCF_up z13 z14 (mqR_of z15) (gCF_N (i := 0) (j := 0) bd.2))⟩
  · obtain ⟨mm', y1, y2⟩ := cl_178F (l3 := nI 1) (U := U) hl hq n200 h
    exact ⟨mm', y1, Or.inr y2⟩
