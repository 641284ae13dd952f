/-! READING A RULE (own): both sides: a CLAUSE (3) -/
theorem rg_look0 {x m n a dg : Nat} {T : Nat → Nat} {U : bs_U} {tj : Option (List Nat)} {c : List Nat} {W : List (Nat × Nat)} {kd ne pa pl : Nat} {mc mm : bs_Mm} (hS : qS x U tj c W kd ne pa pl dg mc) (hC : cT x n T mc) (hg : gD n T a dg) (hT : mT m n T mm) (h8 : bs_iv (mm m 8) = nI a) (ha : a ≤ n) : ∃ a2 mc2 mm2 dg2, FX12_look m mm = some (tch n T a2, mm2) ∧ qS x U tj c W kd ne pa pl dg2 mc2 ∧ cT x n T mc2 ∧ gD n T a2 dg2 ∧ a ≤ a2 ∧ a2 ≤ n ∧ ¬ (a2 < n ∧ T a2 = 32) ∧ rq_go x n a mc = rq_go x n a2 mc2 ∧ qfr x mc mc2 ∧ bs_iv (mm2 m 8) = nI a2 ∧ (∀ k, k ≠ 8 → mm2 m k = mm m k) ∧ (∀ b, b ≠ m → mm2 b = mm b) ∧ (dg = 0 → dg2 = 0) := by
  obtain ⟨a2, mm2, k1, k2, k3, k4, k5, k6, k7, k8⟩ := tf_look hT h8 ha
  obtain ⟨mc2, r1, r2, r3, r4, r5⟩ := rq_skip (x := x) (a2 - a) a a2 mc (by omega) k3 hC k4
  have C2 : cT x n T mc2 := cT_of hC (r5 _ (by omega)) (r5 _ (by omega))
  have cf : qfr x mc mc2 := fun b hb => r5 b (by omega)
  by_cases c : a < a2
  · exact ⟨a2, mc2, mm2, 0, k1, ⟨qc_of hS.1 (fun k _ k9 => r4 k k9) r5, by rw [r4 5 (by decide)]; exact hS.2.1, r3 c⟩, C2, Or.inl rfl, k2, k3, k5, r1, cf, k6, k7, k8, fun _ => rfl⟩
  · have e : a2 = a := by omega
    have e2 := r2 e
    exact ⟨a2, mc2, mm2, dg, k1, by rw [e2]; exact hS, C2, by rw [e]; exact hg, k2, k3, k5, r1, cf, k6, k7, k8, fun h => h⟩
/-- at the beginning of a clause -/
def gC (x m n q : Nat) (T : Nat → Nat) (U : bs_U) (kd dg a : Nat) (mc mm : bs_Mm) : Prop := qS x U none [] [] kd 0 0 0 dg mc ∧ cT x n T mc ∧ gD n T a dg ∧ mT m n T mm ∧ bs_iv (mm m 8) = nI a ∧ bs_iv (mm m 9) = -1 ∧ bs_iv (mm m 10) = nI 0 ∧ bs_iv (mm m 32) = nI q ∧ bs_iv (mm m 33) = nI (u_y U) ∧ a ≤ n ∧ q ≤ 6 ∧ u_y U ≤ 2 * a ∧ u_z U ≤ a ∧ 4 * U.length ≤ a ∧ gW m q U mm ∧ u_K U ∧ kd < 1000
theorem mqR_8 {m q : Nat} {mu mu' : bs_Mm} (h : ∀ k, k ≠ 8 → k ≠ 9 → mu' m k = mu m k) (f : ∀ b, b ≠ m → mu' b = mu b) : mqR m q mu mu' := mqR_of (s := 0) (mqr_m (fun k k8 k9 _ _ => h k k8 k9) f)
theorem cl_bad {x m n q a a2 : Nat} {mc mm mc2 mm2 : bs_Mm} (hgo : rq_go x n a mc = rq_go x n a2 mc2) (hfr : qfr x mc mc2) (hm : mqR m q mm mm2) (h8 : bs_iv (mm2 m 8) = nI a2) (h9 : bs_iv (mm2 m 9) = -1) (ha : a2 ≤ n) (F : rq_F x n a2 mc2 a2) : ∃ mm', (fg_bd (FX12_bad m mm2) (fun mu46 => some mu46)) = some mm' ∧ gCF x m n q a mc mm mm' := by
  refine ⟨bs_up mm2 m 9 (.int (nI a2)), by rw [tf_bad h9 h8, fg_bd_s], a2, by rw [bs_up_eq]; rfl, ha, rq_F_go hgo hfr F, mqR_tr hm (mqR_8 (fun k _ k9 => bs_up_j k9) fun b hb => bs_up_f hb)⟩
set_option maxHeartbeats 1000000 in
theorem sim_clause {x m n q kd dg a : Nat} {T : Nat → Nat} {U : bs_U} {mc mm : bs_Mm} (h : gC x m n q T U kd dg a mc mm) : ∃ mm', FX12_clause m mm = some mm' ∧ (gCY 3 x m n q T U a mc mm mm' ∨ gCF x m n q a mc mm mm') := by
  obtain ⟨hS, hC, hg, hT, h8, h9, h10, h32, h33, han, hq, hy, hz, hl4, hW, hK, hk⟩ := h
  have n200 := hT.2.1
  have hl : U.length < 64 := by omega
  have ql : fg_in (nI q) 7 = true := fn_in (by omega) (by decide)
  have cq : (nI q).toNatClampNeg = q := fn_cl (by omega)
  have gi : fg_in (nI (64 * q + U.length)) 448 = true := fn_in (by omega) (by decide)
  have ci : (nI (64 * q + U.length)).toNatClampNeg = 64 * q + U.length := fn_cl (by omega)
  obtain ⟨a2, mc2, mm2, dg2, k1, k2, k3, k4, k5, k6, k7, k8, k9, k10, k11, k12, k13⟩ := rg_look0 hS hC hg hT h8 han
  have ok2 : a2 < n → T a2 ≤ 255 := fun h => (hT.2.2 a2 h).2.2
  have m92 : bs_iv (mm2 m 9) = -1 := by rw [k11 9 (by decide)]; exact h9
  have f02 : mqR m q mm mm2 := mqR_8 (fun k h _ => k11 k h) k12
  unfold FX12_clause
  rw [h32, ql, fg_gd_t, k1, fg_b2_s]
  by_cases c119 : a2 < n ∧ T a2 = 119
  · have ha2 := c119.1
    rw [if_pos ((tch_lt ok2 (by decide) (by decide)).2.2.mpr c119)]
    have nd2 : ¬ tdg n T a2 := fun w => by have := w.2; omega
    obtain ⟨mc3, r1, r2, r3⟩ := (rq_w k2 k3 ha2 nd2 (fun w => k7 ⟨ha2, w⟩)).1 c119.2
    obtain ⟨mm3, hm3⟩ : ∃ y, y = bs_up mm2 m 8 (.int (nI (a2 + 1))) := ⟨_, rfl⟩
    have o3 : ∀ k, k ≠ 8 → mm3 m k = mm m k := fun k hk => by rw [hm3, bs_up_j hk, k11 k hk]
    have f3 : ∀ b, b ≠ m → mm3 b = mm b := fun b hb => by rw [hm3, bs_up_f hb, k12 b hb]
    have T3 : mT m n T mm3 := mT_of hT (o3 7 (by decide)) (f3 _ (by omega))
    obtain ⟨a4, mc4, mm4, dg4, l1, l2, l3, l4, l5, l6, l7, l8, l9, l10, l11, l12, l13⟩ := rg_look0 r2 (cT_q k3 r3) (Or.inl rfl) T3 (by rw [hm3, bs_up_eq]; rfl) ha2
    have ok4 : a4 < n → T a4 ≤ 255 := fun h => (hT.2.2 a4 h).2.2
    have o4 : ∀ k, k ≠ 8 → mm4 m k = mm m k := fun k hk => by rw [l11 k hk, o3 k hk]
    have f4 : ∀ b, b ≠ m → mm4 b = mm b := fun b hb => by rw [l12 b hb, f3 b hb]
    have f04 : mqR m q mm mm4 := mqR_8 (fun k h _ => o4 k h) f4
    have go4 := (k8.trans r1).trans l8
    have fr4 := qfr_tr k9 (qfr_tr r3 l9)
    rw [k10, fn_add, fg_wr_s, ← hm3, l1, fg_b2_s]
    by_cases c58 : a4 < n ∧ T a4 = 58
    · have ha4 := c58.1
      rw [if_pos ((tch_lt ok4 (by decide) (by decide)).2.2.mpr c58)]
      have nd4 : ¬ tdg n T a4 := fun w => by have := w.2; omega
      obtain ⟨mc5, s1, s2, s3⟩ := (rq_colon l2 l3 ha4 nd4 (fun w => l7 ⟨ha4, w⟩)).1 c58.2
      obtain ⟨mm5, hm5⟩ : ∃ y, y = bs_up mm4 m 8 (.int (nI (a4 + 1))) := ⟨_, rfl⟩
      have o5 : ∀ k, k ≠ 8 → mm5 m k = mm m k := fun k hk => by rw [hm5, bs_up_j hk, o4 k hk]
      have f5 : ∀ b, b ≠ m → mm5 b = mm b := fun b hb => by rw [hm5, bs_up_f hb, f4 b hb]
      obtain ⟨mm6, hm6⟩ : ∃ y, y = bs_up mm5 (m + 19) q (.int (nI (U.length + 1))) := ⟨_, rfl⟩
      obtain ⟨mm7, hm7⟩ : ∃ y, y = bs_up mm6 (m + 20) (64 * q + U.length) (.int (nI (u_y U))) := ⟨_, rfl⟩
      have e7 : mm7 m = mm5 m := by rw [hm7, bs_up_f (by omega), hm6, bs_up_f (by omega)]
      have g7 : gM m n q 0 (a4 + 1) (u_y U) T mm7 := ⟨mT_of hT (by rw [e7]; exact o5 7 (by decide)) (by rw [hm7, bs_up_f (by omega), hm6, bs_up_f (by omega)]; exact f5 _ (by omega)), by rw [e7, hm5, bs_up_eq]; rfl, by rw [e7, o5 9 (by decide)]; exact h9, by rw [e7, o5 10 (by decide)]; exact h10, by rw [e7, o5 32 (by decide)]; exact h32, by rw [e7, o5 33 (by decide)]; exact h33, ha4, hq, by decide, by omega⟩
      have Q7 : gQ m q U (u_y U) mm7 := by
        have B5 : gB m q U mm5 := gB_r hW.2 (mqr_m (s := u_y U) (fun k k8 _ _ _ => o5 k k8) f5) (Nat.le_refl _)
        have B6 : gB m q U mm6 := u_q_cg _ _ _ B5 (fun j _ => by show bs_iv (mm6 (m + 18) _) = _; rw [hm6, bs_up_f (by omega)]; rfl) fun i _ => ⟨by show bs_iv (mm6 (m + 20) _) = _; rw [hm6, bs_up_f (by omega)], by show bs_iv (mm6 (m + 21) _) = _; rw [hm6, bs_up_f (by omega)]⟩
        rw [hm7]
        exact ⟨(gB_t B6 (Nat.le_refl _)).1, by rw [bs_up_f (by omega), hm6, bs_up_eq]; rfl, by rw [bs_up_eq]; rfl⟩
      have f07 : mqR m q mm mm7 := by
        refine mqR_tr (mqR_8 (fun k h _ => o5 k h) f5) (mqR_tr (mu1 := mm6) ?_ (by rw [hm7]; exact (mqR_tt hl).1))
        rw [hm6]
        exact ⟨fun _ _ _ _ _ _ => by rw [bs_up_f (by omega)], fun a _ _ h _ _ => bs_up_f h, fun _ _ => by rw [bs_up_f (by omega)], fun j hj => bs_up_j hj, fun j hj => by rw [bs_up_f (by omega), bs_up_f (by omega)]; exact ⟨rfl, rfl⟩⟩
      obtain ⟨a8, mc8, mm8, dg8, t1, t2, t3, t4, t5, t6, t7, t8, t9, t10, t11, t12⟩ := rg_look s2 (cT_q l3 s3) (Or.inl rfl) g7
      have d0 : dg8 = 0 := t11 rfl
      subst d0
      have ok8 : a8 < n → T a8 ≤ 255 := fun h => (hT.2.2 a8 h).2.2
      have Q8 := gQ_r Q7 t10 (show u_y U ≤ 400 by omega)
      have go8 := (go4.trans s1).trans t8
      have fr8 := qfr_tr fr4 (qfr_tr s3 t9)
      have f08 := mqR_tr f07 (mqR_of t10)
      have P8 : gP x m n q 0 T U none [] [] 0 0 2 a8 (u_y U) mc8 mm8 := ⟨t2, t3, t5, by show u_z U + 0 + 0 + 0 + 2 ≤ a8; omega, by decide, by decide⟩
      have up : ∀ mm', (gCY 1 x m n q T U a8 mc8 mm8 mm' ∨ gCF x m n q a8 mc8 mm8 mm') → (gCY 3 x m n q T U a mc mm mm' ∨ gCF x m n q a mc mm mm') := fun mm' h => h.imp (fun h => gCY_up go8 fr8 f08 (by omega) h) fun h => gCF_up go8 fr8 f08 h
      have e532 : bs_iv (mm5 m 32) = nI q := by rw [o5 32 (by decide)]; exact h32
      have e519 : bs_iv (mm5 (m + 19) q) = nI U.length := by rw [f5 _ (by omega)]; exact hW.1
      have e633 : bs_iv (mm6 m 33) = nI (u_y U) := by rw [hm6, bs_up_f (by omega), o5 33 (by decide)]; exact h33
      rw [l10, fn_add, fg_wr_s, ← hm5, e532, ql, fg_gd_t, fg_gd_t, cq, e519, fn_add, fg_wr_s, ← hm6, hW.1, fn_mul, fn_add, gi, fg_gd_t, ci, e633, fg_wr_s, ← hm7, t1, fg_b2_s]
      by_cases co : a8 < n ∧ (T a8 = 33 ∨ T a8 = 40)
      · obtain ⟨mm9, y1, y2⟩ := sim_cond (sim_rU 8 0 (by decide) (by decide)) P8 (Or.inr ⟨rfl, co⟩) (fun w W e => by cases e)
        obtain ⟨mm', z1, z2⟩ := cl_178c t5 hl Q8 y2
        refine ⟨mm', ?_, up mm' z2⟩
        have j106 : FX12_clause_j106 m mm8 (nI (64 * q + U.length)) = some mm' := by
          unfold FX12_clause_j106 FX12_clause_j111
          rw [if_neg (by decide), y1, fg_bd_s]
          exact z1
        have ev : tch n T a8 = nI (T a8) := if_pos co.1
        rw [ev]
        rcases co.2 with e | e
        · rw [e, if_pos rfl, j106]
        · rw [e, if_neg (by decide), if_pos rfl, j106]
      · have tc := fun t h1 h2 => (tch_lt (n := n) (a := a8) (t := t) ok8 h1 h2).2.2
        rw [if_neg (fun w => by have := (tc 33 (by decide) (by decide)).mp w; exact co ⟨this.1, Or.inl this.2⟩), if_neg (fun w => by have := (tc 40 (by decide) (by decide)).mp w; exact co ⟨this.1, Or.inr this.2⟩)]
        obtain ⟨mm9, y1, y2⟩ := sim_sum8 (by decide) [] [] 0 0 2 a8 (u_y U) mc8 mm8 P8 (Or.inr ⟨rfl, fun h => ⟨fun w => t7 ⟨h, w⟩, fun w => co ⟨h, Or.inl w⟩, fun w => co ⟨h, Or.inr w⟩⟩⟩) (by decide) (fun w W e => by cases e)
        unfold FX12_clause_j111
        rw [if_pos nI_0, y1, fg_bd_s]
        rcases y2 with ⟨a9, y2, y3⟩ | y2
        · obtain ⟨mmA, v1, v2⟩ := gYa_lookN y2 y3.1
          obtain ⟨d9, e9, _⟩ := gYa_M y2
          have ok9 : a9 < n → T a9 ≤ 255 := fun h => (hT.2.2 a9 h).2.2
          have tc9 := fun t h1 h2 => (tch_lt (n := n) (a := a9) (t := t) ok9 h1 h2).2.2
          rw [e9.2.2.1, if_pos rfl, v1, fg_b2_s]
          unfold FX12_clause_j144
          by_cases cc : a9 < n ∧ q_cm (T a9)
          · obtain ⟨mmB, w1, w2⟩ := sim_cond1 t5 rfl v2 y3 ⟨rfl, cc⟩
            obtain ⟨mm', z1, z2⟩ := cl_178c t5 hl Q8 w2
            refine ⟨mm', ?_, up mm' z2⟩
            have j163 : FX12_clause_j163 m mmA (nI (64 * q + U.length)) = some mm' := by
              unfold FX12_clause_j163 FX12_clause_j168
              rw [if_neg (by decide), w1, fg_bd_s]
              exact z1
            have ev : tch n T a9 = nI (T a9) := if_pos cc.1
            rw [ev]
            rcases cc.2 with e | e | e
            · rw [e, if_neg (by decide), if_pos rfl, j163]
            · rw [e, if_pos rfl, j163]
            · rw [e, if_neg (by decide), if_neg (by decide), if_pos rfl, j163]
          · obtain ⟨mm', z1, z2⟩ := cl_178s hl Q8 v2 y3 cc
            refine ⟨mm', ?_, up mm' (Or.inl z2)⟩
            rw [if_neg (fun w => by have := (tc9 61 (by decide) (by decide)).mp w; exact cc ⟨this.1, Or.inr (Or.inl this.2)⟩), if_neg (fun w => by have := (tc9 60 (by decide) (by decide)).mp w; exact cc ⟨this.1, Or.inl this.2⟩), if_neg (fun w => by have := (tc9 62 (by decide) (by decide)).mp w; exact cc ⟨this.1, Or.inr (Or.inr this.2)⟩)]
            unfold FX12_clause_j168
            rw [if_pos nI_0]
            exact z1
        · obtain ⟨mm', z1, z2⟩ := cl_178F (l3 := nI 0) (U := U) hl hq n200 y2
          refine ⟨mm', ?_, up mm' (Or.inr z2)⟩
          rw [if_neg (gN_9 n200 y2).1]
          unfold FX12_clause_j144
          rw [if_neg (by decide), if_neg (by decide), if_neg (by decide)]
          unfold FX12_clause_j168
          rw [if_pos nI_0]
          exact z1
    · rw [if_neg (fun w => c58 ((tch_lt ok4 (by decide) (by decide)).2.2.mp w))]
      have F : rq_F x n a4 mc4 a4 := by
        by_cases e : a4 = n
        · subst e
          exact rq_F_end l3 (Or.inl (by rw [l2.2.1]; decide))
        · have ha : a4 < n := by omega
          by_cases cd : tdg n T a4
          · exact rq_digN l2 l3 cd (by decide) (Or.inl (l4.resolve_right (fun h => h cd)))
          · exact (rq_colon l2 l3 ha cd (fun w => l7 ⟨ha, w⟩)).2 (fun w => c58 ⟨ha, w⟩)
      obtain ⟨mm', z1, z2⟩ := cl_bad go4 fr4 f04 l10 (by rw [o4 9 (by decide)]; exact h9) l6 F
      exact ⟨mm', z1, Or.inr z2⟩
  · rw [if_neg (fun w => c119 ((tch_lt ok2 (by decide) (by decide)).2.2.mp w))]
    have F : rq_F x n a2 mc2 a2 := by
      by_cases e : a2 = n
      · subst e
        exact rq_F_end k3 (Or.inl (by rw [k2.2.1]; decide))
      · have ha : a2 < n := by omega
        by_cases cd : tdg n T a2
        · exact rq_digN k2 k3 cd (by decide) (Or.inl (k4.resolve_right (fun h => h cd)))
        · exact (rq_w k2 k3 ha cd (fun w => k7 ⟨ha, w⟩)).2 (fun w => c119 ⟨ha, w⟩)
    obtain ⟨mm', z1, z2⟩ := cl_bad k8 k9 f02 k10 m92 k6 F
    exact ⟨mm', z1, Or.inr z2⟩
