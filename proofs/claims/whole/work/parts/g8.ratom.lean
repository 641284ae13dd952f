/-! READING A RULE (own): both sides: an ATOM -/
def gP (x m n q ne : Nat) (T : Nat → Nat) (U : bs_U) (tj : Option (List Nat)) (c : List Nat) (W0 : List (Nat × Nat)) (kd pa pl a s : Nat) (mc mm : bs_Mm) : Prop := qS x U tj c W0 kd ne pa pl 0 mc ∧ cT x n T mc ∧ gM m n q ne a s T mm ∧ u_z U + qz tj + c.length + W0.length + 2 ≤ a ∧ kd < 1000 ∧ pa ≤ ne
def q_hp (n : Nat) (T : Nat → Nat) (a pl : Nat) : Prop := pl = 3 ∨ (pl = 2 ∧ (a < n → T a ≠ 32 ∧ T a ≠ 33 ∧ T a ≠ 40))
def q_s5 (n : Nat) (T : Nat → Nat) (a : Nat) : Prop := ¬ (a < n ∧ T a = 32) ∧ ¬ (a < n ∧ q_ar (T a))
def q_s6 (n : Nat) (T : Nat → Nat) (a : Nat) : Prop := ¬ (a < n ∧ T a = 32) ∧ ¬ (a < n ∧ (T a = 42 ∨ T a = 47))
/-- f reads a sum -/
def q_SIM (x m n q ne : Nat) (T : Nat → Nat) (U : bs_U) (tj : Option (List Nat)) (f : bs_Mm → Option bs_Mm) : Prop := ∀ c W0 kd pa pl a s mc mm, gP x m n q ne T U tj c W0 kd pa pl a s mc mm → q_hp n T a pl → kd ≤ 4 → (∀ w W, W0 = w :: W → tg w.1 < 5) → ∃ mm', f mm = some mm' ∧ ((∃ a', gYa 5 false x m n q ne T U tj c W0 kd pa a s mc mm a' kd mm' ∧ q_s5 n T a') ∨ gN 0 x m n q T a s mc mm mm')
theorem q_K {n a : Nat} {T : Nat → Nat} (h : tdg n T a) : ∃ k, k < 4 ∧ (∀ i, i < k + 1 → tdg n T (a + i)) ∧ (¬ tdg n T (a + (k + 1)) ∨ k = 3) := by
  have a0 : tdg n T (a + 0) := h
  by_cases c1 : tdg n T (a + 1)
  · by_cases c2 : tdg n T (a + 2)
    · by_cases c3 : tdg n T (a + 3)
      · refine ⟨3, by decide, fun i hi => ?_, Or.inr rfl⟩
        have e : i = 0 ∨ i = 1 ∨ i = 2 ∨ i = 3 := by omega
        rcases e with e | e | e | e
        · subst e; exact a0
        · subst e; exact c1
        · subst e; exact c2
        · subst e; exact c3
      · refine ⟨2, by decide, fun i hi => ?_, Or.inl c3⟩
        have e : i = 0 ∨ i = 1 ∨ i = 2 := by omega
        rcases e with e | e | e
        · subst e; exact a0
        · subst e; exact c1
        · subst e; exact c2
    · refine ⟨1, by decide, fun i hi => ?_, Or.inl c2⟩
      have e : i = 0 ∨ i = 1 := by omega
      rcases e with e | e
      · subst e; exact a0
      · subst e; exact c1
  · refine ⟨0, by decide, fun i hi => ?_, Or.inl c1⟩
    have e : i = 0 := by omega
    subst e
    exact a0
def q_um (m a : Nat) (mu : bs_Mm) : Nat → bs_Mm
  | 0 => mu
  | k + 1 => bs_up (q_um m a mu k) m 8 (.int (nI (a + k + 1)))
theorem q_um_g {m n q ne a s : Nat} {T : Nat → Nat} {mu : bs_Mm} (h : gM m n q ne a s T mu) : ∀ k, (∀ i, i < k → tdg n T (a + i)) → gM m n q ne (a + k) s T (q_um m a mu k) ∧ mqr m q 400 mu (q_um m a mu k) := by
  intro k
  induction k with
  | zero => intro _; exact ⟨h, mqr_rfl m q 400 mu⟩
  | succ k ih =>
    intro hd
    obtain ⟨i1, i2⟩ := ih fun i hi => hd i (by omega)
    have g := gM_go i1 (hd k (by omega)).1
    exact ⟨g.1, mqr_tr i2 g.2 (Nat.le_refl _)⟩
theorem tf_isL {m n a : Nat} {T : Nat → Nat} {mu : bs_Mm} (hT : a < n → T a ≤ 255) : (a < n ∧ q_il (T a) → FX12_isLetter m mu (tch n T a) = some (nI 1)) ∧ (¬ (a < n ∧ q_il (T a)) → FX12_isLetter m mu (tch n T a) = some (nI 0)) := by
  have e := fun t h1 h2 => (tch_lt (n := n) (a := a) (t := t) hT h1 h2).2.2
  unfold FX12_isLetter
  refine ⟨fun h => ?_, fun h => ?_⟩
  · obtain ⟨ha, h⟩ := h
    have ev : tch n T a = nI (T a) := if_pos ha
    rw [ev]
    rcases h with h | h | h | h | h
    · rw [h]; rfl
    · rw [h]; rfl
    · rw [h]; rfl
    · rw [h]; rfl
    · rw [h]; rfl
  · unfold q_il at h
    rw [if_neg (fun w => h (by have := (e 108 (by decide) (by decide)).mp w; exact ⟨this.1, by omega⟩)), if_neg (fun w => h (by have := (e 104 (by decide) (by decide)).mp w; exact ⟨this.1, by omega⟩)), if_neg (fun w => h (by have := (e 107 (by decide) (by decide)).mp w; exact ⟨this.1, by omega⟩)), if_neg (fun w => h (by have := (e 115 (by decide) (by decide)).mp w; exact ⟨this.1, by omega⟩)), if_neg (fun w => h (by have := (e 97 (by decide) (by decide)).mp w; exact ⟨this.1, by omega⟩))]
theorem u_ch_q {t : Nat} (h : q_il t) : u_ch (10000 + q_lt t) = t ∧ q_lt t < 5 := by
  rcases h with h | h | h | h | h
  · subst h; decide
  · subst h; decide
  · subst h; decide
  · subst h; decide
  · subst h; decide
/-- an operand of one step -/
theorem gY_one {x m n q ne i a2 dg s kd pa a : Nat} {T : Nat → Nat} {U : bs_U} {tj : Option (List Nat)} {c : List Nat} {W0 : List (Nat × Nat)} {v : Int32} {mc mm mc2 mm2 : bs_Mm} (hM : gM m n q ne a s T mm) (hi : i < 10005) (hv : v = if i < 10000 then nI i else nI (u_ch i)) (h1 : qS x U tj (c ++ [i]) W0 kd ne pa 4 dg mc2) (h2 : cT x n T mc2) (h3 : gD n T a2 dg) (h4 : gM m n q ne a2 s T mm2) (h5 : a < a2) (h6 : u_z U + qz tj + c.length + W0.length + 2 ≤ a) (h7 : rq_go x n a mc = rq_go x n a2 mc2) (h8 : qfr x mc mc2) (h9 : mqr m q 400 mm mm2) : ∃ mm', (fg_bd (FX12_say m mm2 (if i < 10000 then nI 0 else nI 1)) (fun mu30 => fg_bd (FX12_say m mu30 v) (fun mu32 => some mu32))) = some mm' ∧ gYa 7 false x m n q ne T U tj c W0 kd pa a s mc mm a2 kd mm' := by
  have n2 := h4.1.2.1
  have a2n := h4.2.2.2.2.2.2.1
  have ss := hM.2.2.2.2.2.2.2.2.2
  obtain ⟨mm3, t1, t2, t3, t4⟩ := gM_say (v := if i < 10000 then nI 0 else nI 1) h4 (by omega)
  obtain ⟨mm4, r1, r2, r3, r4⟩ := gM_say (v := v) t2 (by omega)
  have ul : u_l [i] = 2 := by
    show (if i < 20000 then 2 else 1) + 0 = 2
    rw [if_pos (by omega)]
  refine ⟨mm4, by rw [t1, fg_bd_s, r1, fg_bd_s], [i], c ++ [i], [], dg, mc2, h1, h2, h3, (fun w hw => by cases hw), List.append_nil _, Or.inr ⟨rfl, rv_S1 (by omega), rfl⟩, fun j hj => by rw [List.mem_singleton.mp hj]; exact Or.inl hi, (if_pos (by omega)).mpr ⟨by rw [qcd_fr r4 (by omega), t3], by rw [r3, hv], trivial⟩, by rw [ul]; exact r2, h5, by rw [List.length_singleton]; omega, by rw [ul]; omega, h7, h8, mqr_tr (mqr_le h9 (by omega)) (mqr_tr t4 r4 (by omega)) (by omega)⟩
set_option maxHeartbeats 1000000 in
theorem sim_atom {x m n q ne : Nat} {T : Nat → Nat} {U : bs_U} {tj : Option (List Nat)} {c : List Nat} {W0 : List (Nat × Nat)} {kd pa pl a s : Nat} {mc mm : bs_Mm} {rS : bs_Mm → Option bs_Mm} (hrS : ne < 6 → q_SIM x m n q (ne + 1) T U tj rS) (hP : gP x m n q ne T U tj c W0 kd pa pl a s mc mm) (hp : q_hp n T a pl) : ∃ mm', FX12_atom m rS mm = some mm' ∧ ((∃ a', gYa 7 false x m n q ne T U tj c W0 kd pa a s mc mm a' kd mm') ∨ gN 0 x m n q T a s mc mm mm') := by
  obtain ⟨hS, hC, hM, hB, hk, hpa⟩ := hP
  have h9 := hM.2.2.1
  have n200 := hM.1.2.1
  have ne6 : ne ≤ 6 := hM.2.2.2.2.2.2.2.2.1
  have ss := hM.2.2.2.2.2.2.2.2.2
  obtain ⟨a2, mc2, mm2, dg2, k1, k2, k3, k4, k5, k6, k7, k8, k9, k10, k11, k12⟩ := rg_look hS hC (Or.inl rfl) hM
  have d0 : dg2 = 0 := k11 rfl
  subst d0
  have a2n := k5.2.2.2.2.2.2.1
  have n32 : a2 < n → T a2 ≠ 32 := fun h w => k7 ⟨h, w⟩
  have hp2 : pl = 3 ∨ (pl = 2 ∧ (a2 < n → T a2 ≠ 33 ∧ T a2 ≠ 40)) := by
    rcases hp with e | ⟨e1, e2⟩
    · exact Or.inl e
    · refine Or.inr ⟨e1, fun h => ?_⟩
      by_cases d : a < a2
      · exact absurd (k12 a (Nat.le_refl _) d) (e2 (by omega)).1
      · have : a2 = a := by omega
        rw [this] at h ⊢
        exact (e2 h).2
  have ok2 : a2 < n → T a2 ≤ 255 := fun h => (k5.1.2.2 a2 h).2.2
  have pl23 : pl = 2 ∨ pl = 3 := by omega
  have m4 := mqr_le k10 (show 0 ≤ 400 by omega)
  unfold FX12_atom
  rw [h9, if_pos rfl, k1, fg_b2_s]
  unfold FX12_atom_j16
  by_cases cd : tdg n T a2
  · rw [(tf_isD ok2).1 cd, fg_bd_s, if_neg (by decide)]
    obtain ⟨k, e1, e2, e3⟩ := q_K cd
    obtain ⟨mc3, r1, r2, r3⟩ := rq_num (x := x) k2 k3 pl23 (by omega) k e1 e2
    have C3 := cT_q k3 r3
    have um := q_um_g k5
    have eT : ∀ i, i < k + 1 → tch n T (a2 + i) = nI (T (a2 + i)) := fun i hi => if_pos (e2 i hi).1
    have okT : ∀ i, a2 + i < n → T (a2 + i) ≤ 255 := fun i hi => (k5.1.2.2 _ hi).2.2
    have vb : ∀ i, i ≤ k + 1 → q_v T a2 i + 1 ≤ 10 ^ 4 := fun i hi => Nat.le_trans (q_v_le (n := n) i fun j hj => e2 j (by omega)) (Nat.pow_le_pow_right (by decide) (by omega))
    have turn : ∀ i, i < k + 1 → FX12_atom_b28 m rS (tch n T a2) (nI (q_v T a2 i), nI i, q_um m a2 mm2 i) = some (.inl (nI (q_v T a2 (i + 1)), nI (i + 1), q_um m a2 mm2 (i + 1))) := by
      intro i hi
      have g := (um i fun j hj => e2 j (by omega)).1
      have gd := (e2 i hi).2
      have gn := (e2 i hi).1
      have he := tf_here g.1 g.2.1 (by omega)
      have v1 := vb i (by omega)
      unfold FX12_atom_b28
      rw [he, fg_bd_s, (tf_isD (okT i)).1 (e2 i hi), fg_bd_s, if_neg (by decide), if_neg (nI_ne (by omega) (by decide) (by omega)), fg_bd_s]
      show (fg_wr (q_um m a2 mm2 i) m 8 (.int (bs_iv (q_um m a2 mm2 i m 8) + nI 1)) fun mu24 => some (Sum.inl (nI 10 * nI (q_v T a2 i) + tch n T (a2 + i) - nI 48, nI i + nI 1, mu24))) = _
      rw [g.2.1, fn_add, fg_wr_s, eT i hi, fn_mul, fn_add, fn_sub (by omega), fn_add]
      show some (Sum.inl (nI (10 * q_v T a2 i + T (a2 + i) - 48), nI (i + 1), _)) = some (Sum.inl (nI (10 * q_v T a2 i + (T (a2 + i) - 48)), nI (i + 1), _))
      rw [show 10 * q_v T a2 i + T (a2 + i) - 48 = 10 * q_v T a2 i + (T (a2 + i) - 48) by omega]
      rfl
    have g := um (k + 1) e2
    have okN : a2 + (k + 1) < n → T (a2 + (k + 1)) ≤ 255 := okT (k + 1)
    have he := tf_here g.1.1 g.1.2.1 (by omega)
    have ff : fg_fu = 2000000 := rfl
    have a4n := g.1.2.2.2.2.2.2.1
    by_cases cn : tdg n T (a2 + (k + 1))
    · have k3' : k = 3 := e3.resolve_left (fun h => h cn)
      have F : rq_F x n (a2 + (k + 1)) mc3 (a2 + (k + 1)) := rq_digN r2 C3 cn (by decide) (Or.inr (by omega))
      have bd := gN_bad g.1 F
      have lp : fg_lp (FX12_atom_b28 m rS (tch n T a2)) fg_fu (nI 0, nI 0, mm2) = some (.inr (bs_up (q_um m a2 mm2 (k + 1)) m 9 (.int (nI (a2 + (k + 1)))))) := by
        refine fg_lp_n (fun i => (nI (q_v T a2 i), nI i, q_um m a2 mm2 i)) _ (k + 1) rfl turn ?_ (by omega)
        unfold FX12_atom_b28
        rw [he, fg_bd_s, (tf_isD okN).1 cn, fg_bd_s, if_neg (by decide), if_pos (by rw [k3']), bd.1, fg_bd_s]
      refine ⟨_, by rw [lp, fg_l3_r], Or.inr (gN_up (k8.trans r1) (qfr_tr k9 r3) (mqr_tr m4 g.2 (by omega)) (by omega) (by omega) bd.2)⟩
    · have lp : fg_lp (FX12_atom_b28 m rS (tch n T a2)) fg_fu (nI 0, nI 0, mm2) = some (.inl (nI (q_v T a2 (k + 1)), q_um m a2 mm2 (k + 1))) := by
        refine fg_lp_n (fun i => (nI (q_v T a2 i), nI i, q_um m a2 mm2 i)) _ (k + 1) rfl turn ?_ (by omega)
        unfold FX12_atom_b28
        rw [he, fg_bd_s, (tf_isD okN).2 cn, fg_bd_s, if_pos nI_0]
      have vl := vb (k + 1) (Nat.le_refl _)
      obtain ⟨mm', t1, t2⟩ := gY_one (i := q_v T a2 (k + 1)) (v := nI (q_v T a2 (k + 1))) hM (by omega) (if_pos (by omega)).symm r2 C3 (Or.inr cn) g.1 (by omega) hB (k8.trans r1) (qfr_tr k9 r3) (mqr_tr k10 g.2 (by omega))
      rw [if_pos (show q_v T a2 (k + 1) < 10000 by omega)] at t1
      refine ⟨mm', by rw [lp, fg_l3_l]; exact t1, Or.inl ⟨_, t2⟩⟩
  · rw [(tf_isD ok2).2 cd, fg_bd_s, if_pos nI_0]
    by_cases cl : a2 < n ∧ q_il (T a2)
    · have ha2 := cl.1
      obtain ⟨mc3, r1, r2, r3⟩ := (rq_atom k2 k3 ha2 (hp2.imp id fun h => ⟨h.1, h.2 ha2⟩) cd (n32 ha2) (by omega) (by omega) hk ne6).1 cl.2
      have uc := u_ch_q cl.2
      have g := gM_go k5 ha2
      have ev : tch n T a2 = nI (T a2) := if_pos ha2
      obtain ⟨mm', t1, t2⟩ := gY_one (i := 10000 + q_lt (T a2)) (v := nI (T a2)) hM (by omega) (by rw [if_neg (by omega), uc.1]) r2 (cT_q k3 r3) (Or.inl rfl) g.1 (by omega) hB (k8.trans r1) (qfr_tr k9 r3) (mqr_tr k10 g.2 (by omega))
      rw [if_neg (show ¬ 10000 + q_lt (T a2) < 10000 by omega)] at t1
      refine ⟨mm', ?_, Or.inl ⟨_, t2⟩⟩
      rw [(tf_isL ok2).1 cl, fg_bd_s, if_neg (by decide), k5.2.1, fn_add, fg_wr_s, ev]
      exact t1
    · rw [(tf_isL ok2).2 cl, fg_bd_s, if_pos nI_0]
      have F : ¬ (a2 < n ∧ T a2 = 91 ∧ ne < 6) → rq_F x n a2 mc2 a2 := fun h => by
        by_cases e : a2 = n
        · subst e
          refine rq_F_end k3 (Or.inl ?_)
          rw [k2.2.1]
          exact nI_ne (by omega) (by decide) (by omega)
        · have ha2 : a2 < n := by omega
          refine (rq_atom k2 k3 ha2 (hp2.imp id fun h => ⟨h.1, h.2 ha2⟩) cd (n32 ha2) (by omega) (by omega) hk ne6).2.2 ?_
          by_cases e91 : T a2 = 91
          · exact Or.inl ⟨e91, by have : ¬ ne < 6 := fun w => h ⟨ha2, e91, w⟩
                                  omega⟩
          · exact Or.inr ⟨e91, fun w => cl ⟨ha2, w⟩⟩
      have up : ∀ mm', gN 0 x m n q T a2 s mc2 mm2 mm' → gN 0 x m n q T a s mc mm mm' := fun mm' h => gN_up k8 k9 m4 k6 (by omega) h
      by_cases c91 : a2 < n ∧ T a2 = 91
      · have ha2 := c91.1
        rw [if_pos ((tch_lt ok2 (by decide) (by decide)).2.2.mpr c91)]
        unfold FX12_opens
        rw [k5.2.2.2.1]
        by_cases c6 : ne = 6
        · have bd := gN_bad k5 (F (fun h => by omega))
          have n9 := gN_9 n200 bd.2
          refine ⟨_, ?_, Or.inr (up _ bd.2)⟩
          rw [if_pos (by rw [c6]), bd.1, fg_bd_s, fg_bd_s, if_neg n9.1]
        · have ne5 : ne < 6 := by omega
          rw [if_neg (nI_ne (by omega) (by decide) c6), fn_add, fg_wr_s]
          obtain ⟨mA, hA⟩ : ∃ y, y = bs_up mm2 m 10 (.int (nI (ne + 1))) := ⟨_, rfl⟩
          have gA : gM m n q (ne + 1) a2 s T mA := by
            obtain ⟨i1, i2, i3, i4, i5, i6, i7, i8, i9, i10⟩ := id k5
            rw [hA]
            exact ⟨mT_of i1 (bs_up_j (by decide)) (bs_up_f (by omega)), by rw [bs_up_j (by decide)]; exact i2, by rw [bs_up_j (by decide)]; exact i3, by rw [bs_up_eq]; rfl, by rw [bs_up_j (by decide)]; exact i5, by rw [bs_up_j (by decide)]; exact i6, i7, i8, by omega, i10⟩
          have fA : mqr m q 400 mm2 mA := by rw [hA]; exact mqr_m (fun k _ _ k10 _ => bs_up_j k10) fun b hb => bs_up_f hb
          have g := gM_go gA ha2
          obtain ⟨mB, hB2⟩ : ∃ y, y = bs_up mA m 8 (.int (nI (a2 + 1))) := ⟨_, rfl⟩
          rw [← hB2] at g
          obtain ⟨mc3, r1, r2, r3⟩ := (rq_atom k2 k3 ha2 (hp2.imp id fun h => ⟨h.1, h.2 ha2⟩) cd (n32 ha2) (by omega) (by omega) hk ne6).2.1 c91.2 ne5
          have C3 := cT_q k3 r3
          obtain ⟨mmS, y1, y2⟩ := hrS ne5 c ((91, kd) :: W0) 4 pa 3 (a2 + 1) s mc3 mB ⟨r2, C3, g.1, by rw [List.length_cons]; omega, by decide, by omega⟩ (Or.inl rfl) (by decide) (fun w W e => by
            have e2 : w = (91, kd) := (List.cons.inj e).1.symm
            rw [e2]
            exact (by decide : tg 91 < 5))
          have go3 : rq_go x n a mc = rq_go x n (a2 + 1) mc3 := k8.trans r1
          have fr3 := qfr_tr k9 r3
          have mf3 : mqr m q 400 mm mB := mqr_tr k10 (mqr_tr fA g.2 (by omega)) (by omega)
          rw [← hA, gA.2.1, fn_add, fg_wr_s, ← hB2, fg_bd_s, g.1.2.2.1, if_pos rfl, y1, fg_bd_s]
          rcases y2 with ⟨a3, y2, y3⟩ | y2
          · -- the sum is read
            obtain ⟨a4, mm4, l1, l2, l3, l4, l5⟩ := gYa_look y2
            have a43 : a4 = a3 := by
              by_cases d : a3 < a4
              · have a4n := l2
                obtain ⟨d', c', Wx, dg, mc', -, -, -, -, -, -, -, -, h9, -⟩ := a4n
                exact absurd ⟨by have := h9.2.2.2.2.2.2.1; omega, l5 a3 (Nat.le_refl _) d⟩ y3.1
              · omega
            rw [a43] at l1 l2 l4
            obtain ⟨d, c', Wx, dg, mc', z1, z2, z3, z4, z5, z6, z7, z8, z9, z10, z11, z12, z13, z14, z15⟩ := l2
            have ok3 : a3 < n → T a3 ≤ 255 := fun h => (z9.1.2.2 a3 h).2.2
            have ll : c'.length + Wx.length = c.length + d.length := by
              have := congrArg List.length z5
              rw [List.length_append, List.length_append, q_ops_len] at this
              exact this
            have bg := q_bg_len Wx
            rw [List.length_cons] at z11
            have a3n := z9.2.2.2.2.2.2.1
            have nS : bs_iv (mmS m 9) = -1 := by
              obtain ⟨_, _, _, _, _, -, -, -, -, -, -, -, -, h9, -⟩ := y2
              exact h9.2.2.1
            unfold FX12_sign
            rw [nS, if_pos rfl, l1, fg_b2_s]
            by_cases c93 : a3 < n ∧ T a3 = 93
            · rw [if_pos ((tch_lt ok3 (by decide) (by decide)).2.2.mpr c93)]
              have e6 : kd = kd := rfl
              obtain ⟨mc5, q1, q2, q3⟩ := rq_brack (x := x) z1 z2 c93.1 c93.2 (fun w hw => Nat.le_trans (by decide) (z4 w hw)) (by omega) (by rw [List.length_append, List.length_cons]; omega) (by omega)
              have g5 := gM_go z9 c93.1
              obtain ⟨mC, hC2⟩ : ∃ y, y = bs_up mm4 m 8 (.int (nI (a3 + 1))) := ⟨_, rfl⟩
              rw [← hC2] at g5
              unfold FX12_sign_j20
              rw [z9.2.1, fn_add, fg_wr_s, ← hC2, g5.1.2.2.2.1, fn_sub (by omega), Nat.add_sub_cancel, fg_wr_s]
              obtain ⟨mD, hD⟩ : ∃ y, y = bs_up mC m 10 (.int (nI ne)) := ⟨_, rfl⟩
              have fD : mqr m q 400 mC mD := by rw [hD]; exact mqr_m (fun k _ _ k10 _ => bs_up_j k10) fun b hb => bs_up_f hb
              have gD' : gM m n q ne (a3 + 1) (s + u_l d) T mD := by
                obtain ⟨i1, i2, i3, i4, i5, i6, i7, i8, i9, i10⟩ := id g5.1
                rw [hD]
                exact ⟨mT_of i1 (bs_up_j (by decide)) (bs_up_f (by omega)), by rw [bs_up_j (by decide)]; exact i2, by rw [bs_up_j (by decide)]; exact i3, by rw [bs_up_eq]; rfl, by rw [bs_up_j (by decide)]; exact i5, by rw [bs_up_j (by decide)]; exact i6, i7, i8, ne6, i10⟩
              have zs := z9.2.2.2.2.2.2.2.2.2
              have fCD := mqr_tr g5.2 fD (Nat.le_refl _)
              refine ⟨mD, by rw [← hD, fg_bd_s], Or.inl ⟨a3 + 1, d, c' ++ q_ops Wx, [], 0, mc5, q2, cT_q z2 q3, Or.inl rfl, (fun w hw => by cases hw), by rw [show q_ops [] = [] from rfl, List.append_nil]; exact z5, ?_, z7, u_t_cg _ _ z8 fun j _ hj => qcd_fr fCD (by omega), gD', by omega, by omega, by omega, go3.trans (z13.trans q1), qfr_tr fr3 (qfr_tr z14 q3), mqr_tr (mqr_le mf3 (by omega)) (mqr_tr z15 fCD (by omega)) (Nat.le_refl _)⟩⟩
              rcases z6 with ⟨h, _⟩ | ⟨_, h, _⟩
              · cases h
              · exact Or.inr ⟨rfl, h, rfl⟩
            · rw [if_neg (fun w => c93 ((tch_lt ok3 (by decide) (by decide)).2.2.mp w))]
              have F3 : rq_F x n a3 mc' a3 := by
                by_cases e : a3 = n
                · subst e
                  exact rq_F_end z2 (Or.inr (by rw [z1.1.2.2.2.2.1]; decide))
                · have ha3 : a3 < n := by omega
                  by_cases cd3 : tdg n T a3
                  · exact rq_digN z1 z2 cd3 (by decide) (Or.inl (z3.resolve_right (fun h => h cd3)))
                  · refine rq_no z1 z2 ha3 cd3 (fun w => l4 ⟨ha3, w⟩) ⟨fun h => absurd ⟨ha3, h⟩ y3.2, fun _ => by decide, fun _ => by decide, fun _ => Or.inl (by decide), fun _ => Or.inl (by decide), fun h => absurd ⟨ha3, h⟩ c93, fun _ => by decide⟩ (by decide) (by omega)
              have bd := gN_bad z9 F3
              have up3 := gN_up (e := 0) (go3.trans z13) (qfr_tr fr3 z14) (mqr_tr (mqr_le mf3 (show 0 ≤ 400 by omega)) (mqr_le z15 (Nat.zero_le _)) (Nat.le_refl 0)) (show a ≤ a3 by omega) (show s + u_l d + 0 ≤ s + 2 * (a3 - a) by omega) bd.2
              rw [bd.1, fg_bd_s]
              unfold FX12_sign_j20
              rw [fg_wr_s, fg_wr_s, fg_bd_s]
              exact ⟨_, rfl, Or.inr (gN_m up3 (fun k k8 k10 => by rw [bs_up_j k10, bs_up_j k8]) (fun b hb => by rw [bs_up_f hb, bs_up_f hb]))⟩
          · -- a fault in the sum
            have n9 := gN_9 n200 y2
            have up3 := gN_up (e := 0) go3 fr3 (mqr_le mf3 (show 0 ≤ 400 by omega)) (show a ≤ a2 + 1 by omega) (show s + 0 ≤ s + 2 * (a2 + 1 - a) by omega) y2
            unfold FX12_sign
            rw [if_neg n9.1]
            unfold FX12_sign_j20
            rw [fg_wr_s, fg_wr_s, fg_bd_s]
            exact ⟨_, rfl, Or.inr (gN_m up3 (fun k k8 k10 => by rw [bs_up_j k10, bs_up_j k8]) (fun b hb => by rw [bs_up_f hb, bs_up_f hb]))⟩
      · rw [if_neg (fun w => c91 ((tch_lt ok2 (by decide) (by decide)).2.2.mp w))]
        have bd := gN_bad k5 (F (fun h => c91 ⟨h.1, h.2.1⟩))
        exact ⟨_, by rw [bd.1, fg_bd_s], Or.inr (up _ bd.2)⟩
