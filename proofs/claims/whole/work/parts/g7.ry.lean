/-! READING A RULE (own): both sides: an operand is read; a sign joins two -/
def gYa (L : Nat) (B : Bool) (x m n q ne : Nat) (T : Nat → Nat) (U : bs_U) (tj : Option (List Nat)) (c : List Nat) (W0 : List (Nat × Nat)) (kd pa a s : Nat) (mc mm : bs_Mm) (a' kd' : Nat) (mm' : bs_Mm) : Prop := ∃ d c' Wx dg mc', qS x U tj c' (Wx ++ W0) kd' (ne + q_bg Wx) pa 4 dg mc' ∧ cT x n T mc' ∧ gD n T a' dg ∧ (∀ w, w ∈ Wx → L ≤ tg w.1) ∧ c' ++ q_ops Wx = c ++ d ∧ ((B = true ∧ rv_B d ∧ (kd' = 2 ∨ kd' = 5)) ∨ (B = false ∧ rv_S d ∧ kd' = kd)) ∧ rv_ko d ∧ u_t (qcd m q mm') s d ∧ gM m n q ne a' (s + u_l d) T mm' ∧ a < a' ∧ u_z U + qz tj + c.length + d.length + W0.length + 2 ≤ a' ∧ u_l d + 2 * a ≤ 2 * a' ∧ rq_go x n a mc = rq_go x n a' mc' ∧ qfr x mc mc' ∧ mqr m q s mm mm'
theorem u_l_2 : ∀ d : List Nat, u_l d ≤ 2 * d.length := by
  intro d
  induction d with
  | nil => exact Nat.le_refl _
  | cons i d ih =>
    show (if i < 20000 then 2 else 1) + u_l d ≤ 2 * (d.length + 1)
    by_cases h : i < 20000
    · rw [if_pos h]; omega
    · rw [if_neg h]; omega
theorem gYa_look {L : Nat} {B : Bool} {x m n q ne : Nat} {T : Nat → Nat} {U : bs_U} {tj : Option (List Nat)} {c : List Nat} {W0 : List (Nat × Nat)} {kd pa a s : Nat} {mc mm : bs_Mm} {a1 kd1 : Nat} {mm1 : bs_Mm} (h : gYa L B x m n q ne T U tj c W0 kd pa a s mc mm a1 kd1 mm1) : ∃ a2 mm2, FX12_look m mm1 = some (tch n T a2, mm2) ∧ gYa L B x m n q ne T U tj c W0 kd pa a s mc mm a2 kd1 mm2 ∧ a1 ≤ a2 ∧ ¬ (a2 < n ∧ T a2 = 32) ∧ (∀ i, a1 ≤ i → i < a2 → T i = 32) := by
  obtain ⟨d, c', Wx, dg, mc', h1, h2, h3, h4, h5, h6, h7, h8, h9, h10, h11, h12, h13, h14, h15⟩ := h
  obtain ⟨a2, mc2, mm2, dg2, k1, k2, k3, k4, k5, k6, k7, k8, k9, k10, k11, k12⟩ := rg_look h1 h2 h3 h9
  refine ⟨a2, mm2, k1, ⟨d, c', Wx, dg2, mc2, k2, k3, k4, h4, h5, h6, h7, u_t_cg _ _ h8 fun j _ hj => qcd_fr k10 ?_, k5, by omega, by omega, by omega, h13.trans k8, qfr_tr h14 k9, mqr_tr h15 k10 ?_⟩, k6, k7, k12⟩
  · have a1n := h9.2.2.2.2.2.2.1
    have n2 := h9.1.2.1
    have := h9.2.2.2.2.2.2.2.2.2
    omega
  · have a1n := h9.2.2.2.2.2.2.1
    have n2 := h9.1.2.1
    have := h9.2.2.2.2.2.2.2.2.2
    omega
theorem q_ops_len (W : List (Nat × Nat)) : (q_ops W).length = W.length := by unfold q_ops; rw [List.length_map]
theorem q_bg_len : ∀ W : List (Nat × Nat), q_bg W ≤ W.length := by
  intro W
  induction W with
  | nil => exact Nat.le_refl _
  | cons o W ih =>
    show (if o.1 = 33 then 1 else 0) + q_bg W ≤ W.length + 1
    by_cases h : o.1 = 33
    · rw [if_pos h]; omega
    · rw [if_neg h]; omega
theorem q_bg_app (A C : List (Nat × Nat)) : q_bg (A ++ C) = q_bg A + q_bg C := by
  induction A with
  | nil => exact (Nat.zero_add _).symm
  | cons o A ih =>
    show (if o.1 = 33 then 1 else 0) + q_bg (A ++ C) = (if o.1 = 33 then 1 else 0) + q_bg A + q_bg C
    rw [ih]
    omega
theorem q_ops_app (A C : List (Nat × Nat)) : q_ops (A ++ C) = q_ops A ++ q_ops C := List.map_append ..
/-- a sign behind an operand -/
theorem gY_op {L : Nat} {B : Bool} {x m n q ne : Nat} {T : Nat → Nat} {U : bs_U} {tj : Option (List Nat)} {c : List Nat} {W0 : List (Nat × Nat)} {kd pa a s : Nat} {mc mm : bs_Mm} {a1 kd1 p2 k3 : Nat} {mm1 : bs_Mm} (h : gYa L B x m n q ne T U tj c W0 kd pa a s mc mm a1 kd1 mm1) (ha : a1 < n) (hk : kd1 < 1000) (hj : q_jn (T a1) kd1 p2 k3) (hL : tg (T a1) ≤ L) (h0 : ∀ w W, W0 = w :: W → tg w.1 < tg (T a1)) : ∃ d mc2, qS x U tj (c ++ d) ((T a1, kd1) :: W0) k3 ne pa p2 0 mc2 ∧ cT x n T mc2 ∧ ((B = true ∧ rv_B d ∧ (kd1 = 2 ∨ kd1 = 5)) ∨ (B = false ∧ rv_S d ∧ kd1 = kd)) ∧ rv_ko d ∧ u_t (qcd m q (bs_up mm1 m 8 (.int (nI (a1 + 1))))) s d ∧ gM m n q ne (a1 + 1) (s + u_l d) T (bs_up mm1 m 8 (.int (nI (a1 + 1)))) ∧ a < a1 ∧ u_z U + qz tj + (c ++ d).length + (W0.length + 1) + 2 ≤ a1 + 1 ∧ u_l d + 2 * a ≤ 2 * a1 ∧ rq_go x n a mc = rq_go x n (a1 + 1) mc2 ∧ qfr x mc mc2 ∧ mqr m q s mm (bs_up mm1 m 8 (.int (nI (a1 + 1)))) := by
  obtain ⟨d, c', Wx, dg, mc', h1, h2, h3, h4, h5, h6, h7, h8, h9, h10, h11, h12, h13, h14, h15⟩ := h
  have n2 := h9.1.2.1
  have ss := h9.2.2.2.2.2.2.2.2.2
  have ne6 := h9.2.2.2.2.2.2.2.2.1
  have ll : c'.length + Wx.length = c.length + d.length := by
    have := congrArg List.length h5
    rw [List.length_append, List.length_append, q_ops_len] at this
    exact this
  have bg := q_bg_len Wx
  obtain ⟨mc2, k1, k2, k3'⟩ := rq_join (x := x) h1 h2 ha hj (fun w hw => Nat.le_trans hL (h4 w hw)) h0 (by omega) (by rw [List.length_append]; omega) (by omega) hk (by omega)
  have g := gM_go h9 ha
  rw [h5] at k2
  exact ⟨d, mc2, k2, cT_q h2 k3', h6, h7, u_t_cg _ _ h8 fun j _ hj => qcd_fr g.2 (by omega), g.1, h10, by rw [List.length_append]; omega, h12, h13.trans k1, qfr_tr h14 k3', mqr_tr h15 g.2 (by omega)⟩
/-- both operands are read -/
theorem gY_comb {L2 : Nat} {B B2 : Bool} {x m n q ne : Nat} {T : Nat → Nat} {U : bs_U} {tj : Option (List Nat)} {c : List Nat} {W0 : List (Nat × Nat)} {kd pa a s : Nat} {mc mm : bs_Mm} {o a1 kd1 k3 a3 kd3 : Nat} {d : List Nat} {mc2 mm2 mm3 : bs_Mm} (hko : rv_ko d) (hut : u_t (qcd m q mm2) s d) (ha1 : a < a1) (hul : u_l d + 2 * a ≤ 2 * a1) (hss : s + 4 ≤ 2 * a) (hgo : rq_go x n a mc = rq_go x n (a1 + 1) mc2) (hfr : qfr x mc mc2) (hmf : mqr m q s mm mm2) (ho : rv_ok (30000 + o)) (ho33 : o ≠ 33) (h : gYa L2 B2 x m n q ne T U tj (c ++ d) ((o, kd1) :: W0) k3 pa (a1 + 1) (s + u_l d) mc2 mm2 a3 kd3 mm3) (hL : tg o ≤ L2) (hres : ∀ d2, ((B2 = true ∧ rv_B d2 ∧ (kd3 = 2 ∨ kd3 = 5)) ∨ (B2 = false ∧ rv_S d2 ∧ kd3 = k3)) → ((B = true ∧ rv_B (d ++ (d2 ++ [30000 + o])) ∧ (kd3 = 2 ∨ kd3 = 5)) ∨ (B = false ∧ rv_S (d ++ (d2 ++ [30000 + o])) ∧ kd3 = kd))) : ∃ mm4, FX12_say m mm3 (nI o) = some mm4 ∧ gYa (tg o) B x m n q ne T U tj c W0 kd pa a s mc mm a3 kd3 mm4 := by
  obtain ⟨d2, c', Wx, dg, mc', h1, h2, h3, h4, h5, h6, h7, h8, h9, h10, h11, h12, h13, h14, h15⟩ := h
  obtain ⟨mm4, t1, t2, t3, t4⟩ := gM_say (v := nI o) h9 (by omega)
  have n2 := h9.1.2.1
  have a3n := h9.2.2.2.2.2.2.1
  have lst : u_l [30000 + o] = 1 := by
    show (if 30000 + o < 20000 then 2 else 1) + 0 = 1
    rw [if_neg (by omega)]
  have ul : u_l (d ++ (d2 ++ [30000 + o])) = u_l d + (u_l d2 + 1) := by rw [u_l_app, u_l_app, lst]
  have low : ∀ j, j < s + u_l d + u_l d2 → qcd m q mm4 j = qcd m q mm3 j := fun j hj => qcd_fr t4 (by omega)
  have low2 : ∀ j, j < s + u_l d → qcd m q mm3 j = qcd m q mm2 j := fun j hj => qcd_fr h15 hj
  rw [List.length_append, List.length_cons] at h11
  refine ⟨mm4, t1, d ++ (d2 ++ [30000 + o]), c', Wx ++ [(o, kd1)], dg, mc', ?_, h2, h3, fun w hw => ?_, ?_, hres d2 h6, fun i hi => ?_, (u_t_app _ _ _).mpr ⟨u_t_cg _ _ hut fun j _ hj => by rw [low j (by omega), low2 j hj], (u_t_app _ _ _).mpr ⟨u_t_cg _ _ h8 fun j _ hj => low j hj, (if_neg (by omega)).mpr ⟨by rw [Nat.add_sub_cancel_left, t3], trivial⟩⟩⟩, ?_, by omega, ?_, by rw [ul]; omega, hgo.trans h13, qfr_tr hfr h14, mqr_tr hmf (mqr_tr h15 t4 (by omega)) (by omega)⟩
  · rw [List.append_assoc, q_bg_app]
    show qS x U tj c' (Wx ++ (o, kd1) :: W0) kd3 (ne + (q_bg Wx + ((if o = 33 then 1 else 0) + 0))) pa 4 dg mc'
    rw [if_neg ho33]
    exact h1
  · rcases List.mem_append.mp hw with e | e
    · exact Nat.le_trans hL (h4 w e)
    · rw [List.mem_singleton.mp e]
      exact Nat.le_refl _
  · rw [q_ops_app, ← List.append_assoc, h5, ← List.append_assoc, ← List.append_assoc]
    rfl
  · rcases List.mem_append.mp hi with e | e
    · exact hko i e
    · rcases List.mem_append.mp e with e | e
      · exact h7 i e
      · rw [List.mem_singleton.mp e]
        exact ho
  · rw [ul, show s + (u_l d + (u_l d2 + 1)) = s + u_l d + u_l d2 + 1 by omega]
    exact t2
  · rw [List.length_append, List.length_append, List.length_singleton]
    omega
