/-! READING A RULE (own): both sides read a rule and answer alike -/
theorem sq_begin {x : Nat} {mu : bs_Mm} : ∃ mu', FX7_begin x mu = some mu' ∧ qS x [] none [] [] 0 0 0 0 0 mu' ∧ qfr x mu mu' := by
  unfold FX7_begin
  simp only [fg_wr_s]
  refine ⟨_, rfl, ⟨⟨⟨trivial, trivial, trivial, ?_⟩, ?_, trivial, ?_, ?_, ?_, ?_⟩, ?_, ?_⟩, fun a ha => ?_⟩
  · rw [bs_up_f (by omega), bs_up_f (by omega), bs_up_f (by omega), bs_up_f (by omega), bs_up_f (by omega), bs_up_f (by omega), bs_up_f (by omega), bs_up_eq]
    rfl
  · rw [bs_up_eq]
    rfl
  · rw [bs_up_j (by decide), bs_up_j (by decide), bs_up_j (by decide), bs_up_j (by decide), bs_up_j (by decide), bs_up_j (by decide), bs_up_eq]
    rfl
  · rw [bs_up_j (by decide), bs_up_j (by decide), bs_up_j (by decide), bs_up_j (by decide), bs_up_eq]
    rfl
  · rw [bs_up_j (by decide), bs_up_j (by decide), bs_up_j (by decide), bs_up_eq]
    rfl
  · rw [bs_up_j (by decide), bs_up_j (by decide), bs_up_eq]
    rfl
  · rw [bs_up_j (by decide), bs_up_j (by decide), bs_up_j (by decide), bs_up_j (by decide), bs_up_j (by decide), bs_up_eq]
    rfl
  · rw [bs_up_j (by decide), bs_up_eq]
    rfl
  · rw [bs_up_f (by omega), bs_up_f (by omega), bs_up_f (by omega), bs_up_f (by omega), bs_up_f (by omega), bs_up_f (by omega), bs_up_f (by omega), bs_up_f (by omega)]
def gRL (x m n q : Nat) (T : Nat → Nat) (mc0 mm0 : bs_Mm) (r : Nat) (st : bs_Mm) : Prop := (∃ U e, gCY e x m n q T U 0 mc0 mm0 st ∧ u_K U ∧ 4 * U.length + 3 ≤ e ∧ e ≤ n ∧ r = n + 1 - e) ∨ (gCF x m n q 0 mc0 mm0 st ∧ r = 0)
def gRE (x m n q : Nat) (mc0 mm0 t : bs_Mm) : Prop := ∃ v mc' mm', FX12_readRule_j70 m t = some (v, mm') ∧ rq_fin x (rq_go x n 0 mc0) = some (v, mc') ∧ qfr x mc0 mc' ∧ mqR m q mm0 mm' ∧ (v = -1 → ∃ U, u_K U ∧ qs x U none [] mc' ∧ mUv m q U mm' ∧ u_z U ≤ 201) ∧ (v = -1 ∨ ∃ p, p ≤ n ∧ v = nI p)
theorem qz_qd {tj : Option (List Nat)} (h : tj ≠ some []) : (if qd tj = [] then 0 else (qd tj).length + 1) = qz tj := by
  cases tj with
  | none => rfl
  | some te => exact if_neg fun e => h (by rw [show te = [] from e])
theorem gCY_n {e x m n q : Nat} {T : Nat → Nat} {U : bs_U} {a : Nat} {mc mm mm' : bs_Mm} (h : gCY e x m n q T U a mc mm mm') : a + e ≤ n := by
  obtain ⟨tj, d, c', Wx, kd', dg, mc', a', k1, k2, k3, k4, k5, k6, k7, k8, k9, k10, k11, k12⟩ := h
  have := k9.2.2.2.2.2.2.1
  omega
/-- a fault: the answer -/
theorem gRE_F {x m n q : Nat} {mc0 mm0 t : bs_Mm} (n200 : n ≤ 200) (h : gCF x m n q 0 mc0 mm0 t) : gRE x m n q mc0 mm0 t := by
  obtain ⟨p, k1, k2, ⟨mc', k3, k4⟩, k5⟩ := h
  refine ⟨nI p, mc', t, ?_, k3, k4, k5, fun w => absurd w (al_nm (by omega)), Or.inr ⟨p, k2, rfl⟩⟩
  unfold FX12_readRule_j70
  rw [k1, if_neg (al_nm (by omega))]
set_option maxHeartbeats 1000000 in
theorem rr_step {x m n q : Nat} {T : Nat → Nat} {mc0 mm0 st : bs_Mm} {l1 : Int32} {r : Nat} (n200 : n ≤ 200) (hI : gRL x m n q T mc0 mm0 r st) : (∃ s' r', FX12_readRule_b36 m l1 st = some (.inl s') ∧ r' < r ∧ gRL x m n q T mc0 mm0 r' s') ∨ ∃ t, FX12_readRule_b36 m l1 st = some (.inr t) ∧ gRE x m n q mc0 mm0 t := by
  rcases hI with ⟨U, e, h, hK, he, hen, hr⟩ | ⟨h, hr⟩
  · obtain ⟨tj, d, c', Wx, kd', dg, mc', a', k1, k2, k3, k4, k5, k6, k7, k8, k9, k10, k11, k12, k13, k14, k15, k16, k17⟩ := h
    obtain ⟨a2, mc2, mm2, dg2, l1', l2, l3, l4, l5, l6, l7, l8, l9, l10, l11, l12⟩ := rg_look k1 k2 k3 k9
    have ea : a2 = a' := by
      have := l5.2.2.2.2.2.2.1
      by_cases d : a' < a2
      · exact absurd ⟨by omega, l12 a' (Nat.le_refl _) d⟩ k13.1
      · omega
    subst ea
    have ok2 : a2 < n → T a2 ≤ 255 := fun h => (l5.1.2.2 a2 h).2.2
    have tc := fun t h1 h2 => (tch_lt (n := n) (a := a2) (t := t) ok2 h1 h2).2.2
    have ll : c'.length + Wx.length = d.length := by
      have := congrArg List.length k5
      rw [List.length_append, q_ops_len] at this
      exact this
    have bg := q_bg_len Wx
    have a2n := l5.2.2.2.2.2.2.1
    have q6 := l5.2.2.2.2.2.2.2.1
    have yy := l5.2.2.2.2.2.2.2.2.2
    have go2 := k15.trans l8
    have fr2 := qfr_tr k16 l9
    have mf2 := mqR_tr k17 (mqR_of l10)
    have uK : u_K (U ++ [(qd tj, d)]) := fun p hp => by
      rcases List.mem_append.mp hp with h | h
      · exact hK p h
      · rw [List.mem_singleton.mp h]
        exact k8
    have W2 : gW m q (U ++ [(qd tj, d)]) mm2 := ⟨by rw [l10.2.1 _ (by omega) (by omega)]; exact k10.1, gB_r k10.2 l10 (by omega)⟩
    have uz : u_z (U ++ [(qd tj, d)]) = u_z U + (qz tj + d.length + 1) := by rw [u_z_app, qz_qd k7]
    have ul : (U ++ [(qd tj, d)]).length = U.length + 1 := by rw [List.length_append, List.length_singleton]
    by_cases c59 : a2 < n ∧ T a2 = 59
    · obtain ⟨mc3, s1, s2, s3⟩ := rq_semi (x := x) (ne := 0) l2 l3 c59.1 c59.2 k6 k7 k4 (by omega) (by omega) (by omega)
      rw [k5] at s2
      have g3 := gM_go l5 c59.1
      obtain ⟨mm3, hm3⟩ : ∃ y, y = bs_up mm2 m 8 (.int (nI (a2 + 1))) := ⟨_, rfl⟩
      rw [← hm3] at g3
      obtain ⟨i1, i2, i3, i4, i5, i6, i7, i8, i9, i10⟩ := g3.1
      have gc : gC x m n q T (U ++ [(qd tj, d)]) kd' 0 (a2 + 1) mc3 mm3 := ⟨s2, cT_q l3 s3, Or.inl rfl, i1, i2, i3, i4, i5, i6, i7, i8, by omega, by omega, by omega, ⟨by rw [g3.2.2.1 _ (by omega) (by omega)]; exact W2.1, gB_r W2.2 g3.2 (by omega)⟩, uK, by omega⟩
      obtain ⟨mm4, t1, t2⟩ := sim_clause gc
      have body : FX12_readRule_b36 m l1 st = some (.inl mm4) := by
        unfold FX12_readRule_b36
        rw [k9.2.2.1, if_pos rfl, l1', fg_b2_s, if_pos ((tc 59 (by decide) (by decide)).mpr c59), l5.2.1, fn_add, fg_wr_s, ← hm3, t1, fg_bd_s]
      have go3 := go2.trans s1
      have fr3 := qfr_tr fr2 s3
      have mf3 := mqR_tr mf2 (mqR_of g3.2)
      rcases t2 with t2 | t2
      · have t3 := gCY_up (e := a2 + 4) go3 fr3 mf3 (show 0 + (a2 + 4) ≤ a2 + 1 + 3 by omega) t2
        have t4 := gCY_n t3
        exact Or.inl ⟨mm4, n + 1 - (a2 + 4), body, by omega, Or.inl ⟨_, a2 + 4, t3, uK, by omega, by omega, rfl⟩⟩
      · exact Or.inl ⟨mm4, 0, body, by omega, Or.inr ⟨gCF_up go3 fr3 mf3 t2, rfl⟩⟩
    · have body : FX12_readRule_b36 m l1 st = some (.inr mm2) := by
        unfold FX12_readRule_b36
        rw [k9.2.2.1, if_pos rfl, l1', fg_b2_s, if_neg (fun w => c59 ((tc 59 (by decide) (by decide)).mp w))]
      obtain ⟨a3, mc3, mm3, dg3, v1, v2, v3, v4, v5, v6, v7, v8, v9, v10, v11, v12⟩ := rg_look l2 l3 l4 l5
      have ea : a3 = a2 := by
        have := v5.2.2.2.2.2.2.1
        by_cases d : a2 < a3
        · exact absurd ⟨by omega, v12 a2 (Nat.le_refl _) d⟩ k13.1
        · omega
      subst ea
      have go3 := go2.trans v8
      have fr3 := qfr_tr fr2 v9
      have mf3 := mqR_tr mf2 (mqR_of v10)
      refine Or.inr ⟨mm2, body, ?_⟩
      by_cases en : a3 = n
      · subst en
        obtain ⟨mc4, s1, s2, s3⟩ := rq_done (x := x) (ne := 0) v2 v3 k6 k7 k4 (by omega) (by omega) (by omega)
        rw [k5] at s2
        refine ⟨-1, mc4, mm3, ?_, by rw [go3]; exact s1, qfr_tr fr3 s3, mf3, fun _ => ⟨_, uK, s2, ⟨by rw [v10.2.1 _ (by omega) (by omega)]; exact W2.1, gB_r W2.2 v10 (by omega), by omega, by omega⟩, by omega⟩, Or.inl rfl⟩
        unfold FX12_readRule_j70
        rw [l5.2.2.1, if_pos rfl, v1, fg_b2_s, if_pos (show tch a3 T a3 = -1 from if_neg (by omega)), v5.2.2.1]
      · have ha : a3 < n := by omega
        have F : rq_F x n a3 mc3 a3 := by
          by_cases cd : tdg n T a3
          · exact rq_digN v2 v3 cd (by decide) (Or.inl (v4.resolve_right (fun h => h cd)))
          · refine rq_no v2 v3 ha cd (fun w => v7 ⟨ha, w⟩) ⟨fun h => absurd ⟨ha, h⟩ k13.2, fun h => ⟨fun w => k14 w ⟨ha, h⟩, by omega⟩, fun _ => by omega, fun _ => Or.inr rfl, fun _ => Or.inl (by omega), fun _ => by omega, fun h => absurd ⟨ha, h⟩ c59⟩ (by omega) (by omega)
        obtain ⟨mcF, F1, F2⟩ := rq_F_go go3 fr3 F
        have evn : ¬ tch n T a3 = -1 := by
          unfold tch
          rw [if_pos ha]
          exact al_nm (by have := ok2 ha; omega)
        refine ⟨nI a3, mcF, bs_up mm3 m 9 (.int (nI a3)), ?_, F1, F2, mqR_tr mf3 (mqR_8 (fun k _ k9 => bs_up_j k9) fun b hb => bs_up_f hb), fun w => absurd w (al_nm (by omega)), Or.inr ⟨a3, a2n, rfl⟩⟩
        unfold FX12_readRule_j70
        rw [l5.2.2.1, if_pos rfl, v1, fg_b2_s, if_neg evn, tf_bad v5.2.2.1 v5.2.1, fg_bd_s, bs_up_eq]
        rfl
  · refine Or.inr ⟨st, ?_, gRE_F n200 h⟩
    obtain ⟨p, k1, k2, k3⟩ := h
    unfold FX12_readRule_b36
    rw [k1, if_neg (al_nm (by omega))]
/-- READING A RULE: both sides answer the same -/
theorem sim_readRule {x m n q : Nat} {T : Nat → Nat} {mc mm : bs_Mm} (hq : q ≤ 6) (hC : cT x n T mc) (hT : mT m n T mm) : ∃ v mc' mm', FX7_read x mc = some (v, mc') ∧ FX12_readRule m mm (nI q) = some (v, mm') ∧ qfr x mc mc' ∧ mqR m q mm mm' ∧ (v = -1 → ∃ U, u_K U ∧ qs x U none [] mc' ∧ mUv m q U mm' ∧ u_z U ≤ 201) ∧ (v = -1 ∨ ∃ p, p ≤ n ∧ v = nI p) := by
  have n200 := hT.2.1
  obtain ⟨mc0, b1, b2, b3⟩ := sq_begin (x := x) (mu := mc)
  obtain ⟨m1, hm1⟩ : ∃ y, y = bs_up (bs_up (bs_up (bs_up (bs_up mm m 32 (.int (nI q))) m 8 (.int (nI 0))) m 9 (.int (-1))) m 10 (.int (nI 0))) m 33 (.int (nI 0)) := ⟨_, rfl⟩
  obtain ⟨m2, hm2⟩ : ∃ y, y = bs_up m1 (m + 19) q (.int (nI 0)) := ⟨_, rfl⟩
  have o1 : ∀ k, k ≠ 8 → k ≠ 9 → k ≠ 10 → k ≠ 32 → k ≠ 33 → m1 m k = mm m k := fun k k8 k9 k10 k32 k33 => by rw [hm1, bs_up_j k33, bs_up_j k10, bs_up_j k9, bs_up_j k8, bs_up_j k32]
  have f1 : ∀ b, b ≠ m → m1 b = mm b := fun b hb => by rw [hm1, bs_up_f hb, bs_up_f hb, bs_up_f hb, bs_up_f hb, bs_up_f hb]
  have e2 : m2 m = m1 m := by rw [hm2, bs_up_f (by omega)]
  have f02 : mqR m q mm m2 := ⟨fun k k8 k9 k10 k32 k33 => by rw [e2]; exact o1 k k8 k9 k10 k32 k33, fun a h1 h2 h3 h4 h5 => by rw [hm2, bs_up_f h3, f1 a h1], fun j _ => by rw [hm2, bs_up_f (by omega), f1 _ (by omega)], fun j hj => by rw [hm2, bs_up_j hj, f1 _ (by omega)], fun j _ => by rw [hm2, bs_up_f (by omega), bs_up_f (by omega), f1 _ (by omega), f1 _ (by omega)]; exact ⟨rfl, rfl⟩⟩
  have gc : gC x m n q T [] 0 0 0 mc0 m2 := ⟨b2, cT_q hC b3, Or.inl rfl, mT_of hT (by rw [e2]; exact o1 7 (by decide) (by decide) (by decide) (by decide) (by decide)) (by rw [hm2, bs_up_f (by omega), f1 _ (by omega)]), by rw [e2, hm1, bs_up_j (by decide), bs_up_j (by decide), bs_up_j (by decide), bs_up_eq]; rfl, by rw [e2, hm1, bs_up_j (by decide), bs_up_j (by decide), bs_up_eq]; rfl, by rw [e2, hm1, bs_up_j (by decide), bs_up_eq]; rfl, by rw [e2, hm1, bs_up_j (by decide), bs_up_j (by decide), bs_up_j (by decide), bs_up_j (by decide), bs_up_eq]; rfl, by rw [e2, hm1, bs_up_eq]; rfl, Nat.zero_le _, hq, Nat.zero_le _, Nat.zero_le _, Nat.zero_le _, ⟨by rw [hm2, bs_up_eq]; rfl, trivial⟩, (fun p hp => by cases hp), by decide⟩
  obtain ⟨m3, t1, t2⟩ := sim_clause gc
  obtain ⟨r0, i1, i2⟩ : ∃ r, gRL x m n q T mc0 m2 r m3 ∧ r < fg_fu := by
    rcases t2 with t2 | t2
    · have t4 := gCY_n t2
      exact ⟨n + 1 - 3, Or.inl ⟨[], 3, t2, fun p hp => (by cases hp), Nat.le_refl _, by omega, rfl⟩, fg_fu_lt (by omega)⟩
    · exact ⟨0, Or.inr ⟨t2, rfl⟩, fg_fu_lt (by omega)⟩
  obtain ⟨t, s1, v, mc', mm', s2, s3, s4, s5, s6, s7⟩ := fg_lp_i (body := FX12_readRule_b36 m (nI q)) (gRL x m n q T mc0 m2) (gRE x m n q mc0 m2) (fun r st hI => rr_step n200 hI) fg_fu r0 m3 i1 i2
  refine ⟨v, mc', mm', ?_, ?_, qfr_tr b3 s4, mqR_tr f02 s5, s6, s7⟩
  · have ff : fg_fu = 2000000 := rfl
    have ext : ∀ (a : Nat) (b : Nat) (st : Int32 × bs_Mm) (t : bs_Mm ⊕ (Int32 × bs_Mm)), a ≤ b → fg_lp (FX7_read_b6 x) a st = some t → fg_lp (FX7_read_b6 x) b st = some t := by
      intro a
      induction a with
      | zero => intro b st t _ h; cases h
      | succ a ih =>
        intro b st t hb h
        obtain ⟨b, rfl⟩ : ∃ b2, b = b2 + 1 := ⟨b - 1, by omega⟩
        obtain ⟨o, o1, o2, o3⟩ := fg_lpE h
        cases o with
        | inl s' => exact (fg_lp_s o1).trans (ih b s' t (by omega) (o2 s' rfl))
        | inr t' => rw [fg_lp_e o1, o3 t' rfl]
    unfold FX7_read
    rw [b1, fg_bd_s]
    cases e : rq_go x n 0 mc0 with
    | none => rw [e] at s3; cases s3
    | some t =>
      rw [e] at s3
      have e : fg_lp (FX7_read_b6 x) (n + 1 - 0) (nI 0, mc0) = some t := e
      rw [ext _ fg_fu _ _ (by omega) e]
      exact s3
  · unfold FX12_readRule
    rw [fg_wr_s, fg_wr_s, fg_wr_s, fg_wr_s, fg_wr_s, ← hm1, fn_in (show q < 7 by omega) (by decide), fg_gd_t, fn_cl (by omega), fg_wr_s, ← hm2, t1, fg_bd_s, s1, fg_bd_s]
    exact s2
