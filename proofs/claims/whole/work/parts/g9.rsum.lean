/-! READING A RULE (own): both sides: TERM and SUM -/
theorem gYa_le {L L' : Nat} {B : Bool} {x m n q ne : Nat} {T : Nat → Nat} {U : bs_U} {tj : Option (List Nat)} {c : List Nat} {W0 : List (Nat × Nat)} {kd pa a s : Nat} {mc mm : bs_Mm} {a1 kd1 : Nat} {mm1 : bs_Mm} (h : gYa L B x m n q ne T U tj c W0 kd pa a s mc mm a1 kd1 mm1) (hL : L' ≤ L) : gYa L' B x m n q ne T U tj c W0 kd pa a s mc mm a1 kd1 mm1 := by
  obtain ⟨d, c', Wx, dg, mc', h1, h2, h3, h4, h5⟩ := h
  exact ⟨d, c', Wx, dg, mc', h1, h2, h3, fun w hw => Nat.le_trans hL (h4 w hw), h5⟩
theorem gYa_M {L : Nat} {B : Bool} {x m n q ne : Nat} {T : Nat → Nat} {U : bs_U} {tj : Option (List Nat)} {c : List Nat} {W0 : List (Nat × Nat)} {kd pa a s : Nat} {mc mm : bs_Mm} {a1 kd1 : Nat} {mm1 : bs_Mm} (h : gYa L B x m n q ne T U tj c W0 kd pa a s mc mm a1 kd1 mm1) : ∃ d, gM m n q ne a1 (s + u_l d) T mm1 ∧ a < a1 := by
  obtain ⟨d, c', Wx, dg, mc', h1, h2, h3, h4, h5, h6, h7, h8, h9, h10, h11⟩ := h
  exact ⟨d, h9, h10⟩
theorem gYa_lookN {L : Nat} {B : Bool} {x m n q ne : Nat} {T : Nat → Nat} {U : bs_U} {tj : Option (List Nat)} {c : List Nat} {W0 : List (Nat × Nat)} {kd pa a s : Nat} {mc mm : bs_Mm} {a1 kd1 : Nat} {mm1 : bs_Mm} (h : gYa L B x m n q ne T U tj c W0 kd pa a s mc mm a1 kd1 mm1) (hn : ¬ (a1 < n ∧ T a1 = 32)) : ∃ mm2, FX12_look m mm1 = some (tch n T a1, mm2) ∧ gYa L B x m n q ne T U tj c W0 kd pa a s mc mm a1 kd1 mm2 := by
  obtain ⟨a2, mm2, k1, k2, k3, k4, k5⟩ := gYa_look h
  obtain ⟨d, k6, k7⟩ := gYa_M k2
  have a2n := k6.2.2.2.2.2.2.1
  have e : a2 = a1 := by
    by_cases d : a1 < a2
    · exact absurd ⟨by omega, k5 a1 (Nat.le_refl _) d⟩ hn
    · omega
  rw [e] at k1 k2
  exact ⟨mm2, k1, k2⟩
theorem q_ar_tg {o : Nat} (h : q_ar o) : 5 ≤ tg o ∧ tg o ≤ 6 ∧ rv_ok (30000 + o) ∧ o ≠ 33 ∧ o ≠ 38 ∧ o ≠ 124 := by
  rcases h with e | e | e | e
  · subst e; exact ⟨by decide, by decide, Or.inr (Or.inr (Or.inr (Or.inl rfl))), by decide, by decide, by decide⟩
  · subst e; exact ⟨by decide, by decide, Or.inr (Or.inr (Or.inr (Or.inr (Or.inl rfl)))), by decide, by decide, by decide⟩
  · subst e; exact ⟨by decide, by decide, Or.inr (Or.inr (Or.inr (Or.inr (Or.inr (Or.inl rfl))))), by decide, by decide, by decide⟩
  · subst e; exact ⟨by decide, by decide, Or.inr (Or.inr (Or.inr (Or.inr (Or.inr (Or.inr (Or.inl rfl)))))), by decide, by decide, by decide⟩
/-- a sign of reckoning and its second operand -/
theorem gY_arith {L L2 o : Nat} {x m n q ne : Nat} {T : Nat → Nat} {U : bs_U} {tj : Option (List Nat)} {c : List Nat} {W0 : List (Nat × Nat)} {kd pa a s : Nat} {mc mm : bs_Mm} {a1 : Nat} {mm1 : bs_Mm} {f : bs_Mm → Option bs_Mm} {Q : Nat → Prop} (hf : ∀ c a s mc mm, gP x m n q ne T U tj c ((o, kd) :: W0) kd pa 3 a s mc mm → ∃ mm', f mm = some mm' ∧ ((∃ a', gYa L2 false x m n q ne T U tj c ((o, kd) :: W0) kd pa a s mc mm a' kd mm' ∧ Q a') ∨ gN 0 x m n q T a s mc mm mm')) (ho : q_ar o) (hL2 : tg o ≤ L2) (hM : gM m n q ne a s T mm) (h : gYa L false x m n q ne T U tj c W0 kd pa a s mc mm a1 kd mm1) (hL : tg o ≤ L) (ha : a1 < n) (hT : T a1 = o) (h0 : ∀ w W, W0 = w :: W → tg w.1 < tg o) (hk : kd ≤ 4) (hpa : pa ≤ ne) : ∃ mm4, (fg_bd (f (bs_up mm1 m 8 (.int (nI (a1 + 1))))) (fun mu11 => fg_bd (FX12_say m mu11 (nI o)) (fun mu13 => (some (.inl mu13) : Option (bs_Mm ⊕ bs_Mm))))) = some (.inl mm4) ∧ ((∃ a3, a1 < a3 ∧ gYa (tg o) false x m n q ne T U tj c W0 kd pa a s mc mm a3 kd mm4 ∧ Q a3) ∨ gN 0 x m n q T a s mc mm mm4) := by
  subst hT
  have q6 := q_ar_tg ho
  obtain ⟨d, mc2, k1, k2, k3, k4, k5, k6, k7, k8, k9, k10, k11, k12⟩ := gY_op (p2 := 3) (k3 := kd) h ha (by omega) (Or.inl ⟨ho, by omega, rfl, rfl⟩) hL h0
  have ss := hM.2.2.2.2.2.2.2.2.2
  obtain ⟨mm3, y1, y2⟩ := hf (c ++ d) (a1 + 1) (s + u_l d) mc2 _ ⟨k1, k2, k6, by rw [List.length_cons]; omega, by omega, hpa⟩
  rcases y2 with ⟨a3, y2, y3⟩ | y2
  · obtain ⟨dd, hd1, hd2⟩ := gYa_M y2
    obtain ⟨mm4, z1, z2⟩ := gY_comb (B := false) k4 k5 k7 k9 ss k10 k11 k12 q6.2.2.1 q6.2.2.2.1 y2 hL2 (fun d2 h2 => by
      rcases h2 with ⟨h, _⟩ | ⟨_, h2, h3⟩
      · cases h
      · rcases k3 with ⟨h, _⟩ | ⟨_, h4, h5⟩
        · cases h
        · exact Or.inr ⟨rfl, rv_So h4 h2 ⟨q6.2.2.2.2.1, q6.2.2.2.2.2, q6.2.2.2.1⟩, h3⟩)
    exact ⟨mm4, by rw [y1, fg_bd_s, z1, fg_bd_s], Or.inl ⟨a3, by omega, z2, y3⟩⟩
  · obtain ⟨mm4, z1, z2⟩ := gN_say (v := nI (T a1)) hM (gN_up (e := 1) k10 k11 (mqr_le k12 (Nat.zero_le _)) (by omega) (by omega) y2)
    exact ⟨mm4, by rw [y1, fg_bd_s, z1, fg_bd_s], Or.inr z2⟩
def gLe (L : Nat) (B : Bool) (Q : Nat → Nat → Prop) (x m n q ne : Nat) (T : Nat → Nat) (U : bs_U) (tj : Option (List Nat)) (c : List Nat) (W0 : List (Nat × Nat)) (kd pa a s : Nat) (mc mm : bs_Mm) (t : bs_Mm) : Prop := (∃ a1 k1, gYa L B x m n q ne T U tj c W0 kd pa a s mc mm a1 k1 t ∧ Q a1 k1) ∨ gN 0 x m n q T a s mc mm t
def gLp (L : Nat) (B : Bool) (Q : Nat → Nat → Prop) (x m n q ne : Nat) (T : Nat → Nat) (U : bs_U) (tj : Option (List Nat)) (c : List Nat) (W0 : List (Nat × Nat)) (kd pa a s : Nat) (mc mm : bs_Mm) (r : Nat) (st : bs_Mm) : Prop := (∃ a1 k1, gYa L B x m n q ne T U tj c W0 kd pa a s mc mm a1 k1 st ∧ Q a1 k1 ∧ r = n - a1 + 1) ∨ (gN 0 x m n q T a s mc mm st ∧ r = 0)
theorem gLp_0 {L : Nat} {B : Bool} {Q : Nat → Nat → Prop} {x m n q ne : Nat} {T : Nat → Nat} {U : bs_U} {tj : Option (List Nat)} {c : List Nat} {W0 : List (Nat × Nat)} {kd pa a s : Nat} {mc mm : bs_Mm} {t : bs_Mm} (hn : n ≤ 200) (h : gLe L B Q x m n q ne T U tj c W0 kd pa a s mc mm t) : ∃ r, gLp L B Q x m n q ne T U tj c W0 kd pa a s mc mm r t ∧ r < fg_fu := by
  rcases h with ⟨a1, k1, h1, h2⟩ | h
  · exact ⟨n - a1 + 1, Or.inl ⟨a1, k1, h1, h2, rfl⟩, fg_fu_lt (by omega)⟩
  · exact ⟨0, Or.inr ⟨h, rfl⟩, fg_fu_lt (by omega)⟩
theorem gYa_kd {L : Nat} {x m n q ne : Nat} {T : Nat → Nat} {U : bs_U} {tj : Option (List Nat)} {c : List Nat} {W0 : List (Nat × Nat)} {kd pa a s : Nat} {mc mm : bs_Mm} {a1 kd1 : Nat} {mm1 : bs_Mm} (h : gYa L false x m n q ne T U tj c W0 kd pa a s mc mm a1 kd1 mm1) : kd1 = kd := by
  obtain ⟨d, c', Wx, dg, mc', h1, h2, h3, h4, h5, h6, h7⟩ := h
  rcases h6 with ⟨h, _⟩ | ⟨_, _, h⟩
  · cases h
  · exact h
theorem sim_term {x m n q ne : Nat} {T : Nat → Nat} {U : bs_U} {tj : Option (List Nat)} {c : List Nat} {W0 : List (Nat × Nat)} {kd pa pl a s : Nat} {mc mm : bs_Mm} {rS : bs_Mm → Option bs_Mm} (hrS : ne < 6 → q_SIM x m n q (ne + 1) T U tj rS) (hP : gP x m n q ne T U tj c W0 kd pa pl a s mc mm) (hp : q_hp n T a pl) (hk : kd ≤ 4) (h0 : ∀ w W, W0 = w :: W → tg w.1 < 6) : ∃ mm', FX12_term m rS mm = some mm' ∧ ((∃ a', gYa 6 false x m n q ne T U tj c W0 kd pa a s mc mm a' kd mm' ∧ q_s6 n T a') ∨ gN 0 x m n q T a s mc mm mm') := by
  have hM := hP.2.2.1
  have n200 := hM.1.2.1
  have hpa := hP.2.2.2.2.2
  obtain ⟨mm2, y1, y2⟩ := sim_atom hrS hP hp
  obtain ⟨r0, i1, i2⟩ := gLp_0 (L := 6) (B := false) (Q := fun _ _ => True) n200 (t := mm2) (by
    rcases y2 with ⟨a1, y2⟩ | y2
    · exact Or.inl ⟨a1, kd, gYa_le y2 (by decide), trivial⟩
    · exact Or.inr y2)
  refine Exists.elim (fg_lp_i (body := FX12_term_b4 m rS) (gLp 6 false (fun _ _ => True) x m n q ne T U tj c W0 kd pa a s mc mm) (fun t => (∃ a', gYa 6 false x m n q ne T U tj c W0 kd pa a s mc mm a' kd t ∧ q_s6 n T a') ∨ gN 0 x m n q T a s mc mm t) (fun r st hI => ?_) fg_fu r0 mm2 i1 i2) (fun t ht => ?_)
  · rcases hI with ⟨a1, k1, h1, -, hr⟩ | ⟨h1, hr⟩
    · have ek := gYa_kd h1
      rw [ek] at h1
      obtain ⟨a2, mm4, l1, l2, l3, l4, l5⟩ := gYa_look h1
      obtain ⟨dd, hd1, hd2⟩ := gYa_M h1
      obtain ⟨de, he1, he2⟩ := gYa_M l2
      have ok2 : a2 < n → T a2 ≤ 255 := fun h => (he1.1.2.2 a2 h).2.2
      have a2n := he1.2.2.2.2.2.2.1
      have j30 : ∀ mm5, gYa 6 false x m n q ne T U tj c W0 kd pa a s mc mm a2 kd mm5 → a2 < n → (T a2 = 42 ∨ T a2 = 47) → ∃ mm6, FX12_term_j30_L4 m rS mm5 = some (.inl mm6) ∧ ((∃ a3, a2 < a3 ∧ gYa 6 false x m n q ne T U tj c W0 kd pa a s mc mm a3 kd mm6 ∧ True) ∨ gN 0 x m n q T a s mc mm mm6) := by
        intro mm5 h5 ha2 ht
        obtain ⟨mm6, r1, r2⟩ := gYa_lookN h5 l4
        have t6 : tg (T a2) = 6 := by
          rcases ht with e | e
          · rw [e]; rfl
          · rw [e]; rfl
        obtain ⟨df, hf1, hf2⟩ := gYa_M r2
        obtain ⟨mm7, s1, s2⟩ := gY_arith (L2 := 7) (o := T a2) (f := FX12_atom m rS) (Q := fun _ => True) (fun c a s mc mm hP2 => by
          obtain ⟨mm', e1, e2⟩ := sim_atom hrS hP2 (Or.inl rfl)
          refine ⟨mm', e1, ?_⟩
          rcases e2 with ⟨a', e2⟩ | e2
          · exact Or.inl ⟨a', e2, trivial⟩
          · exact Or.inr e2) (by unfold q_ar; omega) (by omega) hM r2 (by omega) ha2 rfl (by rw [t6]; exact h0) hk hpa
        rw [t6] at s2
        refine ⟨mm7, ?_, s2⟩
        unfold FX12_term_j30_L4
        rw [r1, fg_b2_s, hf1.2.1, fn_add, fg_wr_s, show tch n T a2 = nI (T a2) from if_pos ha2]
        exact s1
      unfold FX12_term_b4
      rw [hd1.2.2.1, if_pos rfl, l1, fg_b2_s]
      by_cases c42 : a2 < n ∧ T a2 = 42
      · rw [if_pos ((tch_lt ok2 (by decide) (by decide)).2.2.mpr c42)]
        obtain ⟨mm6, s1, s2⟩ := j30 mm4 l2 c42.1 (Or.inl c42.2)
        rcases s2 with ⟨a3, s3, s4, -⟩ | s2
        · exact Or.inl ⟨mm6, n - a3 + 1, s1, by omega, Or.inl ⟨a3, _, s4, trivial, rfl⟩⟩
        · exact Or.inl ⟨mm6, 0, s1, by omega, Or.inr ⟨s2, rfl⟩⟩
      · rw [if_neg (fun w => c42 ((tch_lt ok2 (by decide) (by decide)).2.2.mp w))]
        obtain ⟨mm5, r1, r2⟩ := gYa_lookN l2 l4
        rw [r1, fg_b2_s]
        by_cases c47 : a2 < n ∧ T a2 = 47
        · rw [if_pos ((tch_lt ok2 (by decide) (by decide)).2.2.mpr c47)]
          obtain ⟨mm6, s1, s2⟩ := j30 mm5 r2 c47.1 (Or.inr c47.2)
          rcases s2 with ⟨a3, s3, s4, -⟩ | s2
          · exact Or.inl ⟨mm6, n - a3 + 1, s1, by omega, Or.inl ⟨a3, _, s4, trivial, rfl⟩⟩
          · exact Or.inl ⟨mm6, 0, s1, by omega, Or.inr ⟨s2, rfl⟩⟩
        · rw [if_neg (fun w => c47 ((tch_lt ok2 (by decide) (by decide)).2.2.mp w))]
          refine Or.inr ⟨mm5, rfl, Or.inl ⟨a2, r2, l4, fun w => ?_⟩⟩
          rcases w.2 with e | e
          · exact c42 ⟨w.1, e⟩
          · exact c47 ⟨w.1, e⟩
    · refine Or.inr ⟨st, ?_, Or.inr h1⟩
      unfold FX12_term_b4
      rw [if_neg (gN_9 n200 h1).1]
  · obtain ⟨t1, t2⟩ := ht
    refine ⟨t, ?_, t2⟩
    unfold FX12_term
    rw [y1, fg_bd_s, t1, fg_bd_s]
theorem sim_sum {x m n q ne : Nat} {T : Nat → Nat} {U : bs_U} {tj : Option (List Nat)} {c : List Nat} {W0 : List (Nat × Nat)} {kd pa pl a s : Nat} {mc mm : bs_Mm} {rS : bs_Mm → Option bs_Mm} (hrS : ne < 6 → q_SIM x m n q (ne + 1) T U tj rS) (hP : gP x m n q ne T U tj c W0 kd pa pl a s mc mm) (hp : q_hp n T a pl) (hk : kd ≤ 4) (h0 : ∀ w W, W0 = w :: W → tg w.1 < 5) : ∃ mm', FX12_sum m rS mm = some mm' ∧ ((∃ a', gYa 5 false x m n q ne T U tj c W0 kd pa a s mc mm a' kd mm' ∧ q_s5 n T a') ∨ gN 0 x m n q T a s mc mm mm') := by
  have hM := hP.2.2.1
  have n200 := hM.1.2.1
  have hpa := hP.2.2.2.2.2
  obtain ⟨mm2, y1, y2⟩ := sim_term hrS hP hp hk (fun w W e => Nat.lt_succ_of_lt (h0 w W e))
  obtain ⟨r0, i1, i2⟩ := gLp_0 (L := 5) (B := false) (Q := fun b _ => q_s6 n T b) n200 (t := mm2) (by
    rcases y2 with ⟨a1, y2, y3⟩ | y2
    · exact Or.inl ⟨a1, kd, gYa_le y2 (by decide), y3⟩
    · exact Or.inr y2)
  refine Exists.elim (fg_lp_i (body := FX12_sum_b4 m rS) (gLp 5 false (fun b _ => q_s6 n T b) x m n q ne T U tj c W0 kd pa a s mc mm) (fun t => (∃ a', gYa 5 false x m n q ne T U tj c W0 kd pa a s mc mm a' kd t ∧ q_s5 n T a') ∨ gN 0 x m n q T a s mc mm t) (fun r st hI => ?_) fg_fu r0 mm2 i1 i2) (fun t ht => ?_)
  · rcases hI with ⟨a1, k1, h1, hq, hr⟩ | ⟨h1, hr⟩
    · have ek := gYa_kd h1
      rw [ek] at h1
      obtain ⟨a2, mm4, l1, l2, l3, l4, l5⟩ := gYa_look h1
      obtain ⟨dd, hd1, hd2⟩ := gYa_M h1
      obtain ⟨de, he1, he2⟩ := gYa_M l2
      have ok2 : a2 < n → T a2 ≤ 255 := fun h => (he1.1.2.2 a2 h).2.2
      have a2n := he1.2.2.2.2.2.2.1
      have j30 : ∀ mm5, gYa 5 false x m n q ne T U tj c W0 kd pa a s mc mm a2 kd mm5 → a2 < n → (T a2 = 43 ∨ T a2 = 45) → ∃ mm6, FX12_sum_j30_L4 m rS mm5 = some (.inl mm6) ∧ ((∃ a3, a2 < a3 ∧ gYa 5 false x m n q ne T U tj c W0 kd pa a s mc mm a3 kd mm6 ∧ q_s6 n T a3) ∨ gN 0 x m n q T a s mc mm mm6) := by
        intro mm5 h5 ha2 ht
        obtain ⟨mm6, r1, r2⟩ := gYa_lookN h5 l4
        have t6 : tg (T a2) = 5 := by
          rcases ht with e | e
          · rw [e]; rfl
          · rw [e]; rfl
        obtain ⟨df, hf1, hf2⟩ := gYa_M r2
        obtain ⟨mm7, s1, s2⟩ := gY_arith (L2 := 6) (o := T a2) (f := FX12_term m rS) (Q := q_s6 n T) (fun c a s mc mm hP2 => by
          exact sim_term hrS hP2 (Or.inl rfl) hk (fun w W e => by
            have e2 : w = (T a2, kd) := (List.cons.inj e).1.symm
            rw [e2, show tg (T a2, kd).1 = 5 from t6]
            decide)) (by unfold q_ar; omega) (by omega) hM r2 (by omega) ha2 rfl (by rw [t6]; exact h0) hk hpa
        rw [t6] at s2
        refine ⟨mm7, ?_, s2⟩
        unfold FX12_sum_j30_L4
        rw [r1, fg_b2_s, hf1.2.1, fn_add, fg_wr_s, show tch n T a2 = nI (T a2) from if_pos ha2]
        exact s1
      unfold FX12_sum_b4
      rw [hd1.2.2.1, if_pos rfl, l1, fg_b2_s]
      by_cases c43 : a2 < n ∧ T a2 = 43
      · rw [if_pos ((tch_lt ok2 (by decide) (by decide)).2.2.mpr c43)]
        obtain ⟨mm6, s1, s2⟩ := j30 mm4 l2 c43.1 (Or.inl c43.2)
        rcases s2 with ⟨a3, s3, s4, s5⟩ | s2
        · exact Or.inl ⟨mm6, n - a3 + 1, s1, by omega, Or.inl ⟨a3, _, s4, s5, rfl⟩⟩
        · exact Or.inl ⟨mm6, 0, s1, by omega, Or.inr ⟨s2, rfl⟩⟩
      · rw [if_neg (fun w => c43 ((tch_lt ok2 (by decide) (by decide)).2.2.mp w))]
        obtain ⟨mm5, r1, r2⟩ := gYa_lookN l2 l4
        rw [r1, fg_b2_s]
        by_cases c45 : a2 < n ∧ T a2 = 45
        · rw [if_pos ((tch_lt ok2 (by decide) (by decide)).2.2.mpr c45)]
          obtain ⟨mm6, s1, s2⟩ := j30 mm5 r2 c45.1 (Or.inr c45.2)
          rcases s2 with ⟨a3, s3, s4, s5⟩ | s2
          · exact Or.inl ⟨mm6, n - a3 + 1, s1, by omega, Or.inl ⟨a3, _, s4, s5, rfl⟩⟩
          · exact Or.inl ⟨mm6, 0, s1, by omega, Or.inr ⟨s2, rfl⟩⟩
        · rw [if_neg (fun w => c45 ((tch_lt ok2 (by decide) (by decide)).2.2.mp w))]
          have a12 : a2 = a1 := by
            by_cases d : a1 < a2
            · exact absurd ⟨by omega, l5 a1 (Nat.le_refl _) d⟩ hq.1
            · omega
          have hq2 := hq.2
          rw [← a12] at hq2
          refine Or.inr ⟨mm5, rfl, Or.inl ⟨a2, r2, l4, fun w => ?_⟩⟩
          rcases w.2 with e | e | e | e
          · exact hq2 ⟨w.1, Or.inl e⟩
          · exact c43 ⟨w.1, e⟩
          · exact c45 ⟨w.1, e⟩
          · exact hq2 ⟨w.1, Or.inr e⟩
    · refine Or.inr ⟨st, ?_, Or.inr h1⟩
      unfold FX12_sum_b4
      rw [if_neg (gN_9 n200 h1).1]
  · obtain ⟨t1, t2⟩ := ht
    refine ⟨t, ?_, t2⟩
    unfold FX12_sum
    rw [y1, fg_bd_s, t1, fg_bd_s]
/-- the tower of sums -/
theorem sim_rS {x m n q : Nat} {T : Nat → Nat} {U : bs_U} {tj : Option (List Nat)} : ∀ j ne, 7 ≤ ne + j → ne ≤ 6 → q_SIM x m n q ne T U tj (fg_rS m j) := by
  intro j
  induction j with
  | zero => intro ne h1 h2; omega
  | succ j ih =>
    intro ne h1 h2 c W0 kd pa pl a s mc mm hP hp hk h0
    show ∃ mm', FX12_sum m (fg_rS m j) mm = some mm' ∧ _
    exact sim_sum (fun h => ih (ne + 1) (by omega) (by omega)) hP hp hk h0
