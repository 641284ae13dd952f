/-! READING A FIGURE (own): MOVES, both sides (2) -/
theorem rf_M_n {m f c : Nat} {s : rf_S} {mu mu1 : bs_Mm} (hf : f ≤ 12) (hok : rf_ok s) (hM : rf_M m f s mu1) (hc : c < 8) (h9 : bs_iv (mu1 m 9) = -1) : ∃ mu2, (if (bs_iv (mu1 (m + 16) c)) = (-1) then some (bs_up mu1 (m + 16) c (.int (bs_iv (mu1 m 24)))) else FX12_joinTo m mu1 (bs_iv (mu1 (m + 16) c)) (bs_iv (mu1 m 24))) = some mu2 ∧ rf_M m f (rf_N s c) mu2 ∧ mu2 m = mu1 m ∧ mfr m f mu1 mu2 := by
  have q0 := g_bn hok.1
  have q2 : g_np (rf_g s) ≤ 30 := q0.2.2.1
  have w5 := hok.2.2.2.2.1
  obtain ⟨M1, M2, M3, M4, M5, M6, M7, M8, M9, M10⟩ := id hM
  have nm := M6 c hc
  unfold rf_N
  rw [nm]
  cases e : rf_n s c with
  | none =>
    have ev : rf_nr none = -1 := rfl
    rw [if_pos ev, M8]
    have fF : ∀ a, a ≠ m + 16 → bs_up mu1 (m + 16) c (.int (nI (rf_w s))) a = mu1 a := fun a ha => bs_up_f ha
    refine ⟨_, rfl, ⟨mB_of M1 (fF _ (by omega)) (fF _ (by omega)) (fF _ (by omega)) (fF _ (by omega)) (fF _ (by omega)), by rw [fF _ (by omega)]; exact M2, fun b hb => by rw [fF _ (by omega)]; exact M3 b hb, by rw [fF _ (by omega)]; exact M4, mh_of M5 (fF _ (by omega)), fun i hi => ?_, by rw [fF _ (by omega)]; exact M7, by rw [fF _ (by omega)]; exact M8, by rw [fF _ (by omega)]; exact M9, by rw [fF _ (by omega)]; exact M10⟩, fF _ (by omega), fun k _ _ _ _ _ => by rw [fF _ (by omega)], mKp_up (mKp_rfl m f mu1) (Or.inr ⟨by omega, by omega⟩) (fun h => by omega) (fun h => by omega) fun h1 h2 => by omega⟩
    show bs_iv (bs_up mu1 (m + 16) c (.int (nI (rf_w s))) (m + 16) i) = rf_nr (if i = c then some (rf_w s) else rf_n s i)
    by_cases d : i = c
    · subst d
      rw [bs_up_eq, if_pos rfl]
      rfl
    · rw [bs_up_j d, if_neg d]
      exact M6 i hi
  | some p =>
    have hp := hok.2.2.2.1 _ p hc e
    have ev : rf_nr (some p) = nI p := rfl
    obtain ⟨mF, t1, t2, t3⟩ := tf_joinR (m := m) (n := g_np (rf_g s)) (r := rf_r s) (p := p) (q := rf_w s) (mu := mu1) (by omega) hok.2.2.2.2.2.2.2.1 M5 hp w5
    rw [ev, if_neg (al_nm (by omega)), M8, t1]
    refine ⟨mF, rfl, ⟨mB_of M1 (t3 _ (by omega)) (t3 _ (by omega)) (t3 _ (by omega)) (t3 _ (by omega)) (t3 _ (by omega)), by rw [t3 _ (by omega)]; exact M2, fun b hb => by rw [t3 _ (by omega)]; exact M3 b hb, by rw [t3 _ (by omega)]; exact M4, t2, fun i hi => by rw [t3 _ (by omega)]; exact M6 i hi, by rw [t3 _ (by omega)]; exact M7, by rw [t3 _ (by omega)]; exact M8, by rw [t3 _ (by omega)]; exact M9, by rw [t3 _ (by omega)]; exact M10⟩, t3 _ (by omega), ⟨fun k _ _ _ _ _ => by rw [t3 _ (by omega)], fun a h1 _ => t3 a (by omega), fun a k h1 _ => by rw [t3 a (by omega)], fun k _ => by rw [t3 _ (by omega)], fun a k h1 h2 _ => by rw [t3 a (by omega)]⟩⟩
/-- one turn of moves' loop: from a good place on -/
def sim_T (x m f n : Nat) (l : Int32) (T : Nat → Nat) (s : rf_S) (a : Nat) (mc mm : bs_Mm) (r : Nat) (st : Int32 × Int32 × bs_Mm) : Prop := mfr m f mm st.2.2 ∧ ∃ k, st.1 = nI k ∧ k ≤ 300 ∧ ((∃ s1 a1 mc1, st.2.1 = nI 1 ∧ k ≤ a1 ∧ gS x m f n l T s1 (decide (k = 0)) a1 mc1 st.2.2 ∧ rf_x s s1 ∧ a ≤ a1 ∧ rd_go x n l a mc = rd_go x n l a1 mc1 ∧ cfr x mc mc1 ∧ r = n - a1 + 2) ∨ (∃ s1 a1 mc1, st.2.1 = nI 0 ∧ gS x m f n l T s1 (decide (k = 0)) a1 mc1 st.2.2 ∧ rf_x s s1 ∧ rd_st n T a1 ∧ a ≤ a1 ∧ rd_go x n l a mc = rd_go x n l a1 mc1 ∧ cfr x mc mc1 ∧ r = 1) ∨ (∃ p, (st.2.1 = nI 0 ∨ st.2.1 = nI 1) ∧ bs_iv (st.2.2 m 9) = nI p ∧ p ≤ n ∧ rd_F x n l a mc p ∧ r = 1))
def sim_U (x m f n : Nat) (l : Int32) (T : Nat → Nat) (s : rf_S) (a : Nat) (mc mm : bs_Mm) (t : Int32 × bs_Mm) : Prop := mfr m f mm t.2 ∧ ∃ k, t.1 = nI k ∧ k ≤ 300 ∧ ((∃ s1 a1 mc1, gS x m f n l T s1 (decide (k = 0)) a1 mc1 t.2 ∧ rf_x s s1 ∧ rd_st n T a1 ∧ a ≤ a1 ∧ rd_go x n l a mc = rd_go x n l a1 mc1 ∧ cfr x mc mc1) ∨ (∃ p, bs_iv (t.2 m 9) = nI p ∧ p ≤ n ∧ rd_F x n l a mc p))
theorem tch_lt {n a t : Nat} {T : Nat → Nat} (hT : a < n → T a ≤ 255) (ht : 0 < t) (ht2 : t < 1000) : (tch n T a < nI t ↔ ¬ (a < n ∧ t ≤ T a)) ∧ (nI t < tch n T a ↔ a < n ∧ t < T a) ∧ (tch n T a = nI t ↔ a < n ∧ T a = t) := by
  unfold tch
  by_cases c : a < n
  · have k := hT c
    rw [if_pos c]
    refine ⟨⟨fun h w => ?_, fun h => ?_⟩, ⟨fun h => ⟨c, (nI_ltI (by omega) (by omega)).mp h⟩, fun h => (nI_ltI (by omega) (by omega)).mpr h.2⟩, ⟨fun h => ⟨c, (nI_eq (by omega) (by omega)).mp h⟩, fun h => by rw [h.2]⟩⟩
    · have := (nI_ltI (by omega) (by omega)).mp h
      omega
    · refine (nI_ltI (by omega) (by omega)).mpr ?_
      by_cases d : T a < t
      · exact d
      · exact (h ⟨c, by omega⟩).elim
  · rw [if_neg c]
    have m1 : (-1 : Int32) < 0 := by decide
    have z : (0 : Int32) < nI t := by rw [fn_0lt (by omega)]; exact ht
    refine ⟨⟨fun _ h => c h.1, fun _ => Int32.lt_trans m1 z⟩, ⟨fun h => ?_, fun h => (c h.1).elim⟩, ⟨fun h => ?_, fun h => (c h.1).elim⟩⟩
    · exact (Int32.lt_irrefl (Int32.lt_trans h (Int32.lt_trans m1 z))).elim
    · rw [h] at m1
      exact (Int32.lt_irrefl (Int32.lt_trans m1 z)).elim
set_option maxHeartbeats 2000000 in
theorem sim_turn {x m f n j : Nat} {l : Int32} {T : Nat → Nat} {s : rf_S} {a : Nat} {mc mm : bs_Mm} (hf : f ≤ 12) (n200 : n ≤ 200) (hj : rf_d s + (j + 1) = 8) (ih : ∀ s a mc mm, rf_d s + j = 8 → gS x m f n l T s true a mc mm → ∃ mm', FX12_moves m (fg_rA m j) mm = some mm' ∧ sim_E x m f n l T s a mc mm mm') {r : Nat} {st : Int32 × Int32 × bs_Mm} (hI : sim_T x m f n l T s a mc mm r st) : (∃ st' r', FX12_moves_b4 m (fg_rA m (j + 1)) st = some (.inl st') ∧ r' < r ∧ sim_T x m f n l T s a mc mm r' st') ∨ ∃ t, FX12_moves_b4 m (fg_rA m (j + 1)) st = some (.inr t) ∧ sim_U x m f n l T s a mc mm t := by
  obtain ⟨cv, mv, mm1⟩ := st
  obtain ⟨hfr, k, e1, k300, hI⟩ := hI
  have e1 : cv = nI k := e1
  subst e1
  have hfr : mfr m f mm mm1 := hfr
  rcases hI with ⟨s1, a1, mc1, e2, ka, g1, x1, la, go1, fr1, hr⟩ | ⟨s1, a1, mc1, e2, g1, x1, st1, la, go1, fr1, hr⟩ | ⟨p, e2, p1, p2, p3, hr⟩
  · have e2 : mv = nI 1 := e2
    subst e2
    have g1 : gS x m f n l T s1 (decide (k = 0)) a1 mc1 mm1 := g1
    have a1n := g1.2.2.2.2.2.2.2.1
    have g9 := g1.2.2.2.2.2.1
    obtain ⟨a2, mc2, mm2, l1, g2, l2, l3, l4, l5, l6⟩ := gS_look g1
    obtain ⟨i1, i2, i3, i4, i5, i6, i7, i8, i9⟩ := id g2
    have t2 := i5.2.1
    have go2 := go1.trans l4
    have fr2 : cfr x mc mc2 := cfr_tr fr1 l5
    have mf2 := mfr_tr hfr l6
    have ok1 : a2 < n → T a2 ≤ 255 := fun h => (i5.2.2 a2 h).2.2
    have d0 : decide (k + 1 = 0) = false := decide_eq_false (by omega)
    have body : ∀ q, (fg_b2 (FX12_look m mm1) (fun v3 mu2 => fg_bd (FX12_isDigit m mu2 v3) (fun v5 => if v5 = 0 then (if v3 < (nI 97) then (FX12_moves_j106_L4 m (fg_rA m (j + 1)) mu2 (nI k) (nI 1) v3) else (if (nI 104) < v3 then (FX12_moves_j106_L4 m (fg_rA m (j + 1)) mu2 (nI k) (nI 1) v3) else (fg_wr mu2 m 8 (.int ((bs_iv (mu2 m 8)) + (nI 1))) (fun mu8 => fg_gd (fg_in (v3 - (nI 97)) 8) (if (bs_iv (mu8 (m + 16) (v3 - (nI 97)).toNatClampNeg)) = (-1) then (fg_gd (fg_in (v3 - (nI 97)) 8) (fg_wr mu8 (m + 16) (v3 - (nI 97)).toNatClampNeg (.int (bs_iv (mu8 m 24))) (fun mu14 => if (nI 1 : Int32) = 0 then (some (.inl (((nI k) + (nI 0)), (nI 1), mu14))) else (some (.inl (((nI k) + (nI 1)), (nI 1), mu14)))))) else (fg_gd (fg_in (v3 - (nI 97)) 8) (fg_bd (FX12_joinTo m mu8 (bs_iv (mu8 (m + 16) (v3 - (nI 97)).toNatClampNeg)) (bs_iv (mu8 m 24))) (fun mu12 => if (nI 1 : Int32) = 0 then (some (.inl (((nI k) + (nI 0)), (nI 1), mu12))) else (some (.inl (((nI k) + (nI 1)), (nI 1), mu12))))))))))) else (fg_bd (FX12_bubble m mu2) (fun mu16 => if (nI 1 : Int32) = 0 then (some (.inl (((nI k) + (nI 0)), (nI 1), mu16))) else (some (.inl (((nI k) + (nI 1)), (nI 1), mu16))))))) = q → FX12_moves_b4 m (fg_rA m (j + 1)) (nI k, nI 1, mm1) = q) := by
      intro q hq
      unfold FX12_moves_b4
      rw [if_neg (show ¬ (nI 1 : Int32) = 0 by decide), g9, if_pos rfl]
      exact hq
    have n10 : ¬ (nI 1 : Int32) = 0 := by decide
    by_cases cd : tdg n T a2
    · have h80 : bs_iv (mc2 (x + 9) 8) = nI 0 := i9.resolve_right (fun h => h cd)
      obtain ⟨mm3, b1, b2, b3⟩ := rm_bub hf i1 i3 i5 i6 i7 cd
      have q0 := g_bn i1.1
      have stp : FX12_moves_b4 m (fg_rA m (j + 1)) (nI k, nI 1, mm1) = some (.inl (nI (k + 1), nI 1, mm3)) := by
        apply body
        rw [l1, fg_b2_s, (tf_isD ok1).1 cd, fg_bd_s, if_neg (by decide), b1, fg_bd_s, if_neg n10, fn_add]
      have mf3 := mfr_tr mf2 b2
      rcases b3 with ⟨v, b, y1, y2, y3, y4⟩ | ⟨p, y1, y2⟩
      · obtain ⟨mc3, c1, c2, c3⟩ := rc_digY i1 i2 i4 h80 cd y1
        have bn : a2 < b ∧ b ≤ n ∧ ¬ tdg n T b := by
          have c := cd.1
          rcases y1.2.2.2 with ⟨z1, z2, z3⟩ | ⟨z1, z2, z3, z4⟩
          · subst z1
            exact ⟨by omega, by omega, z3⟩
          · subst z1
            have := z3.1
            exact ⟨by omega, by omega, z4⟩
        refine Or.inl ⟨_, n - b + 2, stp, by omega, mf3, k + 1, rfl, by omega, Or.inl ⟨rf_B s1 v, b, mc3, rfl, by omega, ?_, ⟨x1.1, x1.2.1, x1.2.2.1, x1.2.2.2⟩, by omega, go2.trans c1, cfr_tr fr2 c3, rfl⟩⟩
        rw [d0]
        exact ⟨rf_ok_B i1 y1.1 y1.2.1 y1.2.2.1, c2, y4, cT_fr i4 c3, mT_fr i5 b2, y2, y3, bn.2.1, Or.inr bn.2.2⟩
      · have pn : p ≤ n := by
          have c := cd.1
          rcases y1 with ⟨_, z⟩ | ⟨_, _, _, z⟩ | ⟨_, z1, _, z⟩ | ⟨_, _, _, z1, z⟩
          · omega
          · omega
          · have := z1.1
            omega
          · have := z1.1
            omega
        exact Or.inl ⟨_, 1, stp, by omega, mf3, k + 1, rfl, by omega, Or.inr (Or.inr ⟨p, Or.inr rfl, y2, pn, rd_F_go go2 fr2 (rc_digN i1 i2 i4 h80 cd y1), rfl⟩)⟩
    · by_cases cn : a2 < n ∧ 97 ≤ T a2 ∧ T a2 ≤ 104
      · have tt := ok1 cn.1
        have ch : tch n T a2 = nI (T a2) := if_pos cn.1
        obtain ⟨mm3, hm3⟩ : ∃ y, y = bs_up mm2 m 8 (.int (nI (a2 + 1))) := ⟨_, rfl⟩
        have o3 : ∀ k, k ≠ 8 → mm3 m k = mm2 m k := fun k hk => by rw [hm3, bs_up_j hk]
        have f3 : ∀ c, c ≠ m → mm3 c = mm2 c := fun c hc => by rw [hm3, bs_up_f hc]
        have M3 : rf_M m f s1 mm3 := rf_M_of i3 (fun k k1 _ => o3 k k1) f3
        have m39 : bs_iv (mm3 m 9) = -1 := by rw [o3 9 (by decide)]; exact i6
        have mf3 := mfr_m mf2 (fun j j1 _ _ _ _ => o3 j j1) f3
        obtain ⟨mm4, w1, w2, w3, w4⟩ := rf_M_n (mu := mm2) hf i1 M3 (show T a2 - 97 < 8 by omega) m39
        obtain ⟨mc3, c1, c2, c3, c4⟩ := rc_name i1 i2 i4 cn.1 cn.2.1 cn.2.2
        have stp : FX12_moves_b4 m (fg_rA m (j + 1)) (nI k, nI 1, mm1) = some (.inl (nI (k + 1), nI 1, mm4)) := by
          apply body
          rw [l1, fg_b2_s, (tf_isD ok1).2 cd, fg_bd_s, if_pos nI_0, if_neg (fun w => ((tch_lt ok1 (by decide) (by decide)).1.mp w) ⟨cn.1, cn.2.1⟩), if_neg (fun w => by have := ((tch_lt ok1 (by decide) (by decide)).2.1.mp w).2; omega), i7, fn_add, fg_wr_s, ← hm3, ch, fn_sub cn.2.1, fn_in (show T a2 - 97 < 8 by omega) (by decide), fg_gd_t, fg_gd_t, fg_gd_t, fn_cl (show T a2 - 97 < 2 ^ 31 by omega)]
          by_cases u : bs_iv (mm3 (m + 16) (T a2 - 97)) = -1
          · rw [if_pos u] at w1
            rw [if_pos u, fg_wr_s, Option.some.inj w1, if_neg n10, fn_add]
          · rw [if_neg u] at w1
            rw [if_neg u, w1, fg_bd_s, if_neg n10, fn_add]
        have mf4 := mfr_tr mf3 w4
        have q9 : bs_iv (mm4 m 9) = -1 := by rw [w3]; exact m39
        have q8 : bs_iv (mm4 m 8) = nI (a2 + 1) := by rw [w3, hm3, bs_up_eq]; rfl
        refine Or.inl ⟨_, n - (a2 + 1) + 2, stp, by have := cn.1; omega, mf4, k + 1, rfl, by omega, Or.inl ⟨rf_N s1 (T a2 - 97), a2 + 1, mc3, rfl, by omega, ?_, ?_, by omega, go2.trans c1, cfr_tr fr2 c4, rfl⟩⟩
        · rw [d0]
          exact ⟨rf_ok_N i1 (by omega), c2, w2, cT_fr i4 c4, mT_fr (mT_of i5 (o3 7 (by decide)) (f3 _ (by omega))) w4, q9, q8, cn.1, Or.inl c3⟩
        · refine rf_x_tr x1 ?_
          unfold rf_N
          cases rf_n s1 (T a2 - 97) with
          | none => exact ⟨rfl, rfl, rfl, fun _ _ => rfl⟩
          | some p => exact ⟨rfl, rfl, rfl, fun _ _ => rfl⟩
      · have nn : ∀ q, FX12_moves_j106_L4 m (fg_rA m (j + 1)) mm2 (nI k) (nI 1) (tch n T a2) = q → FX12_moves_b4 m (fg_rA m (j + 1)) (nI k, nI 1, mm1) = q := by
          intro q hq
          apply body
          rw [l1, fg_b2_s, (tf_isD ok1).2 cd, fg_bd_s, if_pos nI_0]
          by_cases u : tch n T a2 < nI 97
          · rw [if_pos u]
            exact hq
          · rw [if_neg u]
            by_cases u2 : nI 104 < tch n T a2
            · rw [if_pos u2]
              exact hq
            · exfalso
              have v1 : a2 < n ∧ 97 ≤ T a2 := by
                by_cases w : a2 < n ∧ 97 ≤ T a2
                · exact w
                · exact (u ((tch_lt ok1 (by decide) (by decide)).1.mpr w)).elim
              have v2 : ¬ (a2 < n ∧ 104 < T a2) := fun w => u2 ((tch_lt ok1 (by decide) (by decide)).2.1.mpr w)
              exact cn ⟨v1.1, v1.2, by
                by_cases w : T a2 ≤ 104
                · exact w
                · exact (v2 ⟨v1.1, by omega⟩).elim⟩
        by_cases c40 : a2 < n ∧ T a2 = 40
        · have ch : tch n T a2 = nI 40 := (tch_lt ok1 (by decide) (by decide)).2.2.mpr c40
          have d1 : rf_d s1 = rf_d s := x1.2.2.1
          obtain ⟨mm3, b1, b2, b3⟩ := sim_nested (j := j) hf g2 c40.1 c40.2 (by omega) ih
          have stp : FX12_moves_b4 m (fg_rA m (j + 1)) (nI k, nI 1, mm1) = some (.inl (nI (k + 1), nI 1, mm3)) := by
            apply nn
            unfold FX12_moves_j106_L4
            rw [if_pos ch, b1, fg_bd_s, if_neg n10, fn_add]
          have mf3 := mfr_tr mf2 b2
          rcases b3 with ⟨s3, a3, mc3, g3, x3, y1, y2, y3⟩ | ⟨p, y1, y2, y3⟩
          · have a3n := g3.2.2.2.2.2.2.2.1
            refine Or.inl ⟨_, n - a3 + 2, stp, by omega, mf3, k + 1, rfl, by omega, Or.inl ⟨s3, a3, mc3, rfl, by omega, ?_, rf_x_tr x1 x3, by omega, go2.trans y2, cfr_tr fr2 y3, rfl⟩⟩
            rw [d0]
            exact g3
          · exact Or.inl ⟨_, 1, stp, by omega, mf3, k + 1, rfl, by omega, Or.inr (Or.inr ⟨p, Or.inr rfl, y1, y2, rd_F_go go2 fr2 y3, rfl⟩)⟩
        · have ch : ¬ tch n T a2 = nI 40 := fun w => c40 ((tch_lt ok1 (by decide) (by decide)).2.2.mp w)
          have stp : FX12_moves_b4 m (fg_rA m (j + 1)) (nI k, nI 1, mm1) = some (.inl (nI k, nI 0, mm2)) := by
            apply nn
            unfold FX12_moves_j106_L4
            rw [if_neg ch, if_pos nI_0, fn_add]
            rfl
          exact Or.inl ⟨_, 1, stp, by omega, mf2, k, rfl, by omega, Or.inr (Or.inl ⟨s1, a2, mc2, rfl, g2, x1, ⟨l3, cd, cn, c40⟩, by omega, go2, fr2, rfl⟩)⟩
  · have e2 : mv = nI 0 := e2
    subst e2
    refine Or.inr ⟨(nI k, mm1), ?_, hfr, k, rfl, k300, Or.inl ⟨s1, a1, mc1, g1, x1, st1, la, go1, fr1⟩⟩
    unfold FX12_moves_b4
    rw [if_pos nI_0]
  · have p1 : bs_iv (mm1 m 9) = nI p := p1
    refine Or.inr ⟨(nI k, mm1), ?_, hfr, k, rfl, k300, Or.inr ⟨p, p1, p2, p3⟩⟩
    unfold FX12_moves_b4
    by_cases u : mv = 0
    · rw [if_pos u]
    · rw [if_neg u, p1]
      exact if_neg (al_nm (by omega))
