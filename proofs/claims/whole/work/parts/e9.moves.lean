/-! READING A FIGURE (own): MOVES, both sides step by step -/
def gS (x m f n : Nat) (l : Int32) (T : Nat → Nat) (s : rf_S) (due : Bool) (a : Nat) (mc mm : bs_Mm) : Prop := rf_ok s ∧ rc_S x s due l mc ∧ rf_M m f s mm ∧ cT x n T mc ∧ mT m n T mm ∧ bs_iv (mm m 9) = -1 ∧ bs_iv (mm m 8) = nI a ∧ a ≤ n ∧ (bs_iv (mc (x + 9) 8) = nI 0 ∨ ¬ tdg n T a)
def rf_x (s s' : rf_S) : Prop := g_nb (rf_g s') = g_nb (rf_g s) ∧ g_so (rf_g s') = g_so (rf_g s) ∧ rf_d s' = rf_d s ∧ ∀ k, k < rf_d s → rf_k s' k = rf_k s k
theorem rf_x_rfl (s : rf_S) : rf_x s s := ⟨rfl, rfl, rfl, fun _ _ => rfl⟩
theorem rf_x_tr {s t u : rf_S} (h : rf_x s t) (k : rf_x t u) : rf_x s u := ⟨k.1.trans h.1, k.2.1.trans h.2.1, k.2.2.1.trans h.2.2.1, fun j hj => (k.2.2.2 j (by have := h.2.2.1; omega)).trans (h.2.2.2 j hj)⟩
/-- both look at the next sign that is no blank -/
theorem gS_look {x m f n a : Nat} {l : Int32} {T : Nat → Nat} {s : rf_S} {due : Bool} {mc mm : bs_Mm} (h : gS x m f n l T s due a mc mm) : ∃ a' mc' mm', FX12_look m mm = some (tch n T a', mm') ∧ gS x m f n l T s due a' mc' mm' ∧ a ≤ a' ∧ ¬ (a' < n ∧ T a' = 32) ∧ rd_go x n l a mc = rd_go x n l a' mc' ∧ cfr x mc mc' ∧ mfr m f mm mm' := by
  obtain ⟨h1, h2, h3, h4, h5, h6, h7, h8, h9⟩ := h
  obtain ⟨a', mm', k1, k2, k3, k4, k5, k6, k7, k8⟩ := tf_look h5 h7 h8
  obtain ⟨mc', c1, c2, c3, c4, c5⟩ := rd_skip (l := l) (a' - a) a a' mc (by omega) k3 h4 k4
  have fc : cfr x mc mc' := fun c hc => c5 c (by omega)
  refine ⟨a', mc', mm', k1, ⟨h1, ⟨rf_c_of h2.1 (c4 6 (by decide)) (c4 7 (by decide)) c5, by rw [c4 5 (by decide)]; exact h2.2.1, by rw [c4 10 (by decide)]; exact h2.2.2.1, by rw [c4 4 (by decide)]; exact h2.2.2.2⟩, rf_M_of h3 (fun k k1 _ => k7 k k1) k8, cT_fr h4 fc, mT_of h5 (k7 7 (by decide)) (k8 _ (by omega)), by rw [k7 9 (by decide)]; exact h6, k6, k3, ?_⟩, k2, k5, c1, fc, mfr_m (mfr_rfl m f mm) (fun j j1 _ _ _ _ => k7 j j1) k8⟩
  by_cases e : a' = a
  · subst e
    rw [c2 rfl]
    exact h9
  · exact Or.inl (c3 (by omega))
def sim_E (x m f n : Nat) (l : Int32) (T : Nat → Nat) (s : rf_S) (a : Nat) (mc mm mm' : bs_Mm) : Prop := mfr m f mm mm' ∧ ((∃ s' a' mc', gS x m f n l T s' false a' mc' mm' ∧ rf_x s s' ∧ rd_st n T a' ∧ a ≤ a' ∧ rd_go x n l a mc = rd_go x n l a' mc' ∧ cfr x mc mc') ∨ ∃ p, bs_iv (mm' m 9) = nI p ∧ p ≤ n ∧ rd_F x n l a mc p)
theorem mh_of {m n : Nat} {r : Nat → Nat} {mu mu' : bs_Mm} (h : mh_ok m n r mu) (e : mu' (m + 15) = mu (m + 15)) : mh_ok m n r mu' := by
  unfold mh_ok
  rw [e]
  exact h
set_option maxHeartbeats 1000000 in
theorem sim_nested {x m f n a j : Nat} {l : Int32} {T : Nat → Nat} {s : rf_S} {due : Bool} {mc mm : bs_Mm} (hf : f ≤ 12) (hS : gS x m f n l T s due a mc mm) (ha : a < n) (h40 : T a = 40) (hj : rf_d s + (j + 1) = 8) (ih : ∀ s a mc mm, rf_d s + j = 8 → gS x m f n l T s true a mc mm → ∃ mm', FX12_moves m (fg_rA m j) mm = some mm' ∧ sim_E x m f n l T s a mc mm mm') : ∃ mm', FX12_nested m (fg_rA m (j + 1)) mm = some mm' ∧ mfr m f mm mm' ∧ ((∃ s' a' mc', gS x m f n l T s' false a' mc' mm' ∧ rf_x s s' ∧ a < a' ∧ rd_go x n l a mc = rd_go x n l a' mc' ∧ cfr x mc mc') ∨ ∃ p, bs_iv (mm' m 9) = nI p ∧ p ≤ n ∧ rd_F x n l a mc p) := by
  obtain ⟨h1, h2, h3, h4, h5, h6, h7, h8, h9⟩ := id hS
  have t2 := h5.2.1
  have d6 := h1.2.2.2.2.2.1
  have op := rc_open h1 h2 h4 ha h40
  have e10 := h3.2.2.2.2.2.2.2.2.2
  unfold FX12_nested
  rw [e10]
  by_cases c : rf_d s = 6
  · rw [if_pos (by rw [c]), tf_bad h6 h7, fg_bd_s]
    exact ⟨_, rfl, mfr_m (mfr_rfl m f mm) (fun j _ j2 _ _ _ => bs_up_j j2) (fun a ha => bs_up_f ha), Or.inr ⟨a, by rw [bs_up_eq]; rfl, h8, op.2 c⟩⟩
  · obtain ⟨mc1, k1, k2, k3, k4⟩ := op.1 (by omega)
    obtain ⟨mA, hA⟩ : ∃ y, y = bs_up mm m 10 (.int (nI (rf_d s + 1))) := ⟨_, rfl⟩
    have A8 : bs_iv (mA m 8) = nI a := by rw [hA, bs_up_j (by decide)]; exact h7
    obtain ⟨mB, hB⟩ : ∃ y, y = bs_up mA m 8 (.int (nI (a + 1))) := ⟨_, rfl⟩
    have oB : ∀ k, k ≠ 8 → k ≠ 10 → mB m k = mm m k := fun k b1 b2 => by rw [hB, bs_up_j b1, hA, bs_up_j b2]
    have fB : ∀ c, c ≠ m → mB c = mm c := fun c hc => by rw [hB, bs_up_f hc, hA, bs_up_f hc]
    have frB : mfr m f mm mB := mfr_m (mfr_rfl m f mm) (fun j b1 _ b3 _ _ => oB j b1 b3) fB
    have MB : rf_M m f (rf_O s) mB := by
      obtain ⟨M1, M2, M3, M4, M5, M6, M7, M8, M9, M10⟩ := h3
      refine ⟨mB_of M1 (fB _ (by omega)) (fB _ (by omega)) (fB _ (by omega)) (fB _ (by omega)) (fB _ (by omega)), by rw [fB _ (by omega)]; exact M2, fun b hb => by rw [fB _ (by omega)]; exact M3 b hb, by rw [fB _ (by omega)]; exact M4, mh_of M5 (fB _ (by omega)), fun i hi => by rw [fB _ (by omega)]; exact M6 i hi, by rw [oB 23 (by decide) (by decide)]; exact M7, by rw [oB 24 (by decide) (by decide)]; exact M8, by rw [oB 25 (by decide) (by decide)]; exact M9, ?_⟩
      rw [hB, bs_up_j (by decide), hA, bs_up_eq]
      rfl
    have gB : gS x m f n l T (rf_O s) true (a + 1) mc1 mB := ⟨rf_ok_O h1 (by omega), k2, MB, cT_fr h4 k4, mT_fr h5 frB, by rw [oB 9 (by decide) (by decide)]; exact h6, by rw [hB, bs_up_eq]; rfl, by omega, Or.inl k3⟩
    have hw : bs_iv (mB m 24) = nI (rf_w s) := by rw [oB 24 (by decide) (by decide)]; exact h3.2.2.2.2.2.2.2.1
    obtain ⟨mC, r1, r2, r3⟩ := ih (rf_O s) (a + 1) mc1 mB (show rf_d s + 1 + j = 8 by omega) gB
    have r1 : fg_rA m (j + 1) mB = some mC := r1
    rw [if_neg (fun w => c ((nI_eq (by omega) (by decide)).mp w)), fn_add, fg_wr_s, ← hA, A8, fn_add, fg_wr_s, ← hB, r1, fg_bd_s, hw]
    have frC := mfr_tr frB r2
    -- what stands behind ) when the fault is told
    have bad : ∀ (mD : bs_Mm) (p : Nat), mfr m f mm mD → bs_iv (mD m 9) = nI p → p ≤ n → rd_F x n l a mc p → ∃ mm', FX12_nested_j64 m (fg_rA m (j + 1)) mD (nI (rf_w s)) = some mm' ∧ mfr m f mm mm' ∧ ((∃ s' a' mc', gS x m f n l T s' false a' mc' mm' ∧ rf_x s s' ∧ a < a' ∧ rd_go x n l a mc = rd_go x n l a' mc' ∧ cfr x mc mc') ∨ ∃ p, bs_iv (mm' m 9) = nI p ∧ p ≤ n ∧ rd_F x n l a mc p) := by
      intro mD p fD eD hp hF
      obtain ⟨mE, hE⟩ : ∃ y, y = bs_up (bs_up mD m 8 (.int ((bs_iv (mD m 8)) + (nI 1)))) m 10 (.int ((bs_iv (bs_up mD m 8 (.int ((bs_iv (mD m 8)) + (nI 1))) m 10)) - (nI 1))) := ⟨_, rfl⟩
      have e9 : bs_iv (mE m 9) = nI p := by rw [hE, bs_up_j (by decide), bs_up_j (by decide)]; exact eD
      refine ⟨mE, ?_, mfr_m fD (fun j b1 _ b3 _ _ => by rw [hE, bs_up_j b3, bs_up_j b1]) (fun c hc => by rw [hE, bs_up_f hc, bs_up_f hc]), Or.inr ⟨p, e9, hp, hF⟩⟩
      unfold FX12_nested_j64
      rw [fg_wr_s, fg_wr_s, ← hE, e9, if_neg (al_nm (by omega))]
    rcases r3 with ⟨s4, a4, mc4, g4, x4, st4, le4, go4, fr4⟩ | ⟨p, p1, p2, p3⟩
    · obtain ⟨i1, i2, i3, i4, i5, i6, i7, i8, i9⟩ := id g4
      obtain ⟨a5, mc5, mm5, q1, q2, q3, q4, q5, q6, q7⟩ := gS_look g4
      have e5 : a5 = a4 := by
        by_cases u : a4 < a5
        · -- a blank would stand at a4
          exfalso
          obtain ⟨b', mm', z1, z2, z3, z4, z5, z6, z7, z8⟩ := tf_look i5 i7 i8
          have zz : tch n T b' = tch n T a5 ∧ mm' = mm5 := by
            rw [z1] at q1
            have := Option.some.inj q1
            exact ⟨congrArg (fun w => w.1) this, congrArg (fun w => w.2) this⟩
          have b8 : bs_iv (mm5 m 8) = nI b' := by rw [← zz.2]; exact z6
          have a8 := q2.2.2.2.2.2.2.1
          rw [a8] at b8
          have a5n := q2.2.2.2.2.2.2.2.1
          have : a5 = b' := (nI_eq (by omega) (by omega)).mp b8
          exact st4.1 ⟨by omega, z4 a4 (Nat.le_refl _) (by omega)⟩
        · omega
      subst e5
      obtain ⟨i1, i2, i3, i4, i5, i6, i7, i8, i9⟩ := id q2
      have frm5 := mfr_tr frC q7
      have goA : rd_go x n l a mc = rd_go x n l a5 mc5 := k1.trans (go4.trans q5)
      have frA : cfr x mc mc5 := cfr_tr k4 (cfr_tr fr4 q6)
      have d4 : rf_d s4 = rf_d s + 1 := x4.2.2.1
      have kd : rf_k s4 (rf_d s) = rf_w s := by
        rw [x4.2.2.2 (rf_d s) (show rf_d s < rf_d s + 1 by omega)]
        exact bs_fn_s
      rw [g4.2.2.2.2.2.1, if_pos rfl, q1, fg_b2_s]
      by_cases c41 : a5 < n ∧ T a5 = 41
      · have ch : tch n T a5 = nI 41 := by
          unfold tch
          rw [if_pos c41.1, c41.2]
        obtain ⟨mc6, y1, y2, y3, y4⟩ := (rc_close i1 i2 i4 c41.1 c41.2).1 rfl (by omega)
        obtain ⟨mE, hE⟩ : ∃ y, y = bs_up (bs_up mm5 m 8 (.int (nI (a5 + 1)))) m 10 (.int (nI (rf_d s))) := ⟨_, rfl⟩
        have oE : ∀ k, k ≠ 8 → k ≠ 10 → mE m k = mm5 m k := fun k b1 b2 => by rw [hE, bs_up_j b2, bs_up_j b1]
        have fE : ∀ c, c ≠ m → mE c = mm5 c := fun c hc => by rw [hE, bs_up_f hc, bs_up_f hc]
        obtain ⟨M1, M2, M3, M4, M5, M6, M7, M8, M9, M10⟩ := i3
        have q0 := g_bn i1.1
        have np60 : g_np (rf_g s4) ≤ 60 := by have : g_np (rf_g s4) ≤ 30 := q0.2.2.1; omega
        have wn : rf_w s < g_np (rf_g s4) := by rw [← kd]; exact i1.2.2.2.2.2.2.1 _ (by omega)
        obtain ⟨mF, t1, t2', t3⟩ := tf_joinR (m := m) (n := g_np (rf_g s4)) (r := rf_r s4) (p := rf_w s) (q := rf_w s4) (mu := mE) np60 i1.2.2.2.2.2.2.2.1 (mh_of M5 (fE _ (by omega))) wn i1.2.2.2.2.1
        have e24 : bs_iv (mE m 24) = nI (rf_w s4) := by rw [oE 24 (by decide) (by decide)]; exact M8
        have e9 : bs_iv (mE m 9) = -1 := by rw [oE 9 (by decide) (by decide)]; exact i6
        have up10 : ∀ v, bs_iv (bs_up mm5 m 8 v m 10) = nI (rf_d s + 1) := fun v => by rw [bs_up_j (by decide), ← d4]; exact M10
        have jr : FX12_nested_j64 m (fg_rA m (j + 1)) mm5 (nI (rf_w s)) = some mF := by
          unfold FX12_nested_j64
          rw [i7, fn_add, fg_wr_s, up10, fn_sub (by omega), Nat.add_sub_cancel, fg_wr_s, ← hE, e9, if_pos rfl, e24, t1, fg_bd_s]
        have MF : rf_M m f (rf_C s4) mF := by
          have er : rf_r (rf_C s4) = rf_m (rf_r s4) (rf_w s) (rf_w s4) := by
            show rf_m (rf_r s4) (rf_k s4 (rf_d s4 - 1)) (rf_w s4) = _
            rw [d4, Nat.add_sub_cancel, kd]
          have fF : ∀ c, c ≠ m → c ≠ m + 15 → mF c = mm5 c := fun c c1 c2 => by rw [t3 c c2, fE c c1]
          have mF0 : mF m = mE m := t3 _ (by omega)
          refine ⟨mB_of M1 (fF _ (by omega) (by omega)) (fF _ (by omega) (by omega)) (fF _ (by omega) (by omega)) (fF _ (by omega) (by omega)) (fF _ (by omega) (by omega)), by rw [fF _ (by omega) (by omega)]; exact M2, fun b hb => by rw [fF _ (by omega) (by omega)]; exact M3 b hb, by rw [fF _ (by omega) (by omega)]; exact M4, by rw [er]; exact t2', fun i hi => by rw [fF _ (by omega) (by omega)]; exact M6 i hi, by rw [mF0, oE 23 (by decide) (by decide)]; exact M7, by rw [mF0, oE 24 (by decide) (by decide)]; exact M8, by rw [mF0, oE 25 (by decide) (by decide)]; exact M9, ?_⟩
          show bs_iv (mF m 10) = nI (rf_d s4 - 1)
          rw [mF0, hE, bs_up_eq, d4, Nat.add_sub_cancel]
          rfl
        have frF : mfr m f mm mF := by
          refine mfr_tr (mfr_m frm5 (fun j b1 _ b3 _ _ => oE j b1 b3) fE) ⟨fun k _ _ _ _ _ => by rw [t3 _ (by omega)], fun a h1 _ => t3 a (by omega), fun a k h1 _ => by rw [t3 a (by omega)], fun k _ => by rw [t3 _ (by omega)], fun a k h1 h2 _ => by rw [t3 a (by omega)]⟩
        refine ⟨mF, ?_, frF, Or.inl ⟨rf_C s4, a5 + 1, mc6, ⟨rf_ok_C i1 (by omega), y2, MF, cT_fr i4 y4, mT_fr h5 frF, by rw [t3 _ (by omega)]; exact e9, by rw [t3 _ (by omega), hE, bs_up_j (by decide), bs_up_eq]; rfl, by omega, Or.inl y3⟩, ⟨x4.1, x4.2.1, show rf_d s4 - 1 = rf_d s by omega, fun k hk => ?_⟩, by omega, goA.trans y1, cfr_tr frA y4⟩⟩
        · rw [if_pos ch]
          exact jr
        · show rf_k s4 k = rf_k s k
          rw [x4.2.2.2 k (show k < rf_d s + 1 by omega)]
          exact bs_fn_n (by omega)
      · have nch : ¬ tch n T a5 = nI 41 := by
          unfold tch
          by_cases u : a5 < n
          · have tt := (i5.2.2 a5 u).2.2
            rw [if_pos u]
            exact fun w => c41 ⟨u, (nI_eq (by omega) (by decide)).mp w⟩
          · rw [if_neg u]
            decide
        rw [if_neg nch, tf_bad i6 i7, fg_bd_s]
        exact bad _ a5 (mfr_m frm5 (fun j _ j2 _ _ _ => bs_up_j j2) (fun a ha => bs_up_f ha)) (by rw [bs_up_eq]; rfl) i8 (rd_F_go goA frA (rc_deep i1 i2 i4 i8 st4 (by omega) c41))
    · rw [p1, if_neg (al_nm (by omega))]
      exact bad mC p frC p1 p2 (rd_F_go k1 k4 p3)
