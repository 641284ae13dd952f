/-! READING A RULE (own): the class's steps (1) -/
noncomputable def rq_go (x n i : Nat) (mu : bs_Mm) : Option (bs_Mm ⊕ (Int32 × bs_Mm)) := fg_lp (FX7_read_b6 x) (n + 1 - i) (nI i, mu)
theorem rq_step {x n i : Nat} {v : Int32} {T : Nat → Nat} {mu mu1 : bs_Mm} (hT : cT x n T mu) (hi : i < n) (h : FX7_takes x mu (nI (T i)) = some (v, mu1)) : (v ≠ 0 → rq_go x n i mu = rq_go x n (i + 1) mu1) ∧ (v = 0 → rq_go x n i mu = some (.inr (nI i, mu1))) := by
  have h2 := hT.2.1
  have body : FX7_read_b6 x (nI i, mu) = if v = 0 then some (.inr (.inr (nI i, mu1))) else some (.inl (nI (i + 1), mu1)) := by
    unfold FX7_read_b6
    rw [hT.1, if_neg (fun w => by have := (nI_leI (by omega) (by omega)).mp w; omega), sf_at hT (by omega), if_pos hi, fg_bd_s, h, fg_b2_s, fn_add]
  unfold rq_go
  rw [show n + 1 - i = (n + 1 - (i + 1)) + 1 by omega]
  refine ⟨fun hv => ?_, fun hv => ?_⟩
  · exact fg_lp_s (by rw [body, if_neg hv])
  · exact fg_lp_e (by rw [body, if_pos hv])
theorem rq_end {x n : Nat} {T : Nat → Nat} {mu : bs_Mm} (hT : cT x n T mu) : rq_go x n n mu = some (.inl mu) := by
  have h2 := hT.2.1
  unfold rq_go
  rw [show n + 1 - n = 0 + 1 by omega]
  refine fg_lp_e ?_
  unfold FX7_read_b6
  rw [hT.1, if_pos (Int32.le_refl _)]
noncomputable def rq_fin (x : Nat) (t : Option (bs_Mm ⊕ (Int32 × bs_Mm))) : Option (Int32 × bs_Mm) := fg_l3 t (fun t8 => if (bs_iv (t8 (x + 20) 5)) = (nI 4) then (fg_b2 (FX7_endsClause x t8) (fun v12 mu11 => if v12 = 0 then (some ((bs_iv (mu11 (x + 5) 1)), mu11)) else (some ((-1), mu11)))) else (some ((bs_iv (t8 (x + 5) 1)), t8))) (fun q13 => some q13)
theorem cT_q {x n : Nat} {T : Nat → Nat} {mu mu' : bs_Mm} (h : cT x n T mu) (k : qfr x mu mu') : cT x n T mu' := cT_of h (k _ (by omega)) (k _ (by omega))
/-- from here on the class finds its fault at p -/
def rq_F (x n i : Nat) (mu : bs_Mm) (p : Nat) : Prop := ∃ mu', rq_fin x (rq_go x n i mu) = some (nI p, mu') ∧ qfr x mu mu'
theorem rq_F_ref {x n i : Nat} {T : Nat → Nat} {mu mu1 : bs_Mm} (hT : cT x n T mu) (hi : i < n) (h : FX7_takes x mu (nI (T i)) = some (nI 0, mu1)) (hf : qfr x mu mu1) : rq_F x n i mu i := by
  refine ⟨mu1, ?_, hf⟩
  rw [(rq_step hT hi h).2 nI_0]
  rfl
theorem rq_F_go {x n i j p : Nat} {mu mu1 : bs_Mm} (h : rq_go x n i mu = rq_go x n j mu1) (hf : qfr x mu mu1) (k : rq_F x n j mu1 p) : rq_F x n i mu p := by
  obtain ⟨mu', k1, k2⟩ := k
  exact ⟨mu', by rw [h]; exact k1, qfr_tr hf k2⟩
theorem rq_F_end {x n : Nat} {T : Nat → Nat} {mu : bs_Mm} (hT : cT x n T mu) (h : bs_iv (mu (x + 20) 5) ≠ nI 4 ∨ (bs_iv (mu (x + 20) 6) ≠ nI 0 ∧ bs_iv (mu (x + 20) 6) ≠ nI 3)) : rq_F x n n mu n := by
  refine ⟨mu, ?_, qfr_rfl x mu⟩
  rw [rq_end hT]
  unfold rq_fin
  rw [fg_l3_l]
  by_cases c : bs_iv (mu (x + 20) 5) = nI 4
  · have h := h.resolve_left (fun w => w c)
    rw [if_pos c]
    unfold FX7_endsClause
    rw [if_neg (fun w => h.1 (by rw [w]; rfl)), if_neg h.2, fg_b2_s, if_pos nI_0, hT.1]
  · rw [if_neg c, hT.1]
/-- a sign that is no digit -/
theorem sq_tk {x t : Nat} {mu : bs_Mm} (ht : t ≤ 255) (hd : ¬ (48 ≤ t ∧ t ≤ 57)) (h32 : t ≠ 32) : FX7_takes x mu (nI t) = (if (bs_iv (bs_up mu (x + 20) 9 (.int (nI 0)) (x + 20) 5)) = (nI 0) then (fg_wr (bs_up mu (x + 20) 9 (.int (nI 0))) (x + 20) 5 (.int (nI 1)) (fun mu5 => if nI t = (nI 119) then (some ((nI 1), mu5)) else (some ((nI 0), mu5)))) else (if (bs_iv (bs_up mu (x + 20) 9 (.int (nI 0)) (x + 20) 5)) = (nI 1) then (fg_wr (bs_up mu (x + 20) 9 (.int (nI 0))) (x + 20) 5 (.int (nI 2)) (fun mu7 => fg_wr mu7 (x + 20) 6 (.int (nI 0)) (fun mu8 => if nI t = (nI 58) then (some ((nI 1), mu8)) else (some ((nI 0), mu8))))) else (if (bs_iv (bs_up mu (x + 20) 9 (.int (nI 0)) (x + 20) 5)) = (nI 2) then (if nI t = (nI 33) then (fg_b2 (FX7_opensUnit x (bs_up mu (x + 20) 9 (.int (nI 0))) (nI t)) (fun v12 mu11 => fg_gd (decide (v12 = 0 ∨ v12 = 1)) (some (v12, mu11)))) else (if nI t = (nI 40) then (fg_b2 (FX7_opensUnit x (bs_up mu (x + 20) 9 (.int (nI 0))) (nI t)) (fun v20 mu19 => fg_gd (decide (v20 = 0 ∨ v20 = 1)) (some (v20, mu19)))) else (fg_b2 (FX7_takesAtom x (bs_up mu (x + 20) 9 (.int (nI 0))) (nI t)) (fun v16 mu15 => fg_gd (decide (v16 = 0 ∨ v16 = 1)) (some (v16, mu15)))))) else (if (bs_iv (bs_up mu (x + 20) 9 (.int (nI 0)) (x + 20) 5)) = (nI 3) then (fg_b2 (FX7_takesAtom x (bs_up mu (x + 20) 9 (.int (nI 0))) (nI t)) (fun v25 mu24 => fg_gd (decide (v25 = 0 ∨ v25 = 1)) (some (v25, mu24)))) else (fg_b2 (FX7_takesSign x (bs_up mu (x + 20) 9 (.int (nI 0))) (nI t)) (fun v29 mu28 => fg_gd (decide (v29 = 0 ∨ v29 = 1)) (some (v29, mu28)))))))) := by
  unfold FX7_takes
  rw [(sf_isD ht).2 hd, fg_bd_s, if_pos nI_0, fg_wr_s, if_neg (fun w => h32 ((nI_eq (by omega) (by decide)).mp w))]
theorem sq_blank {x : Nat} {mu : bs_Mm} : FX7_takes x mu (nI 32) = some (nI 1, bs_up mu (x + 20) 9 (.int (nI 0))) := by
  unfold FX7_takes
  rw [(sf_isD (by decide)).2 (by decide), fg_bd_s, if_pos nI_0, fg_wr_s, if_pos rfl]
theorem rq_skip {x n : Nat} {T : Nat → Nat} : ∀ (r a a' : Nat) (mu : bs_Mm), a + r = a' → a' ≤ n → cT x n T mu → (∀ i, a ≤ i → i < a' → T i = 32) → ∃ mu', rq_go x n a mu = rq_go x n a' mu' ∧ (a' = a → mu' = mu) ∧ (a < a' → bs_iv (mu' (x + 20) 9) = nI 0) ∧ (∀ k, k ≠ 9 → mu' (x + 20) k = mu (x + 20) k) ∧ ∀ c, c ≠ x + 20 → mu' c = mu c := by
  intro r
  induction r with
  | zero =>
    intro a a' mu h1 h2 h3 h4
    have : a' = a := by omega
    subst this
    exact ⟨mu, rfl, fun _ => rfl, fun h => by omega, fun _ _ => rfl, fun _ _ => rfl⟩
  | succ r ih =>
    intro a a' mu h1 h2 h3 h4
    have t := h4 a (Nat.le_refl _) (by omega)
    have st := rq_step (v := nI 1) h3 (show a < n by omega) (by rw [t]; exact sq_blank)
    obtain ⟨mu', k1, k2, k3, k4, k5⟩ := ih (a + 1) a' (bs_up mu (x + 20) 9 (.int (nI 0))) (by omega) h2 (cT_of h3 (bs_up_f (by omega)) (bs_up_f (by omega))) fun i i1 i2 => h4 i (by omega) i2
    refine ⟨mu', (st.1 (by decide)).trans k1, fun h => by omega, fun _ => ?_, fun k hk => by rw [k4 k hk, bs_up_j hk], fun c hc => by rw [k5 c hc, bs_up_f hc]⟩
    by_cases c : a + 1 < a'
    · exact k3 c
    · rw [k2 (by omega), bs_up_eq]
      rfl
theorem qc_of {x : Nat} {U : bs_U} {tj : Option (List Nat)} {c : List Nat} {W : List (Nat × Nat)} {kd ne pa : Nat} {mu mu' : bs_Mm} (h : qc x U tj c W kd ne pa mu) (e : ∀ k, k ≠ 5 → k ≠ 9 → mu' (x + 20) k = mu (x + 20) k) (f : ∀ a, a ≠ x + 20 → mu' a = mu a) : qc x U tj c W kd ne pa mu' := by
  obtain ⟨q1, q2, q3, q4, q5, q6, q7⟩ := h
  exact ⟨qs_of q1 (f _ (by omega)) (f _ (by omega)), by rw [e 10 (by decide) (by decide)]; exact q2, qw_of _ q3 fun j _ => ⟨by rw [f _ (by omega)], by rw [f _ (by omega)]⟩, by rw [e 4 (by decide) (by decide)]; exact q4, by rw [e 6 (by decide) (by decide)]; exact q5, by rw [e 7 (by decide) (by decide)]; exact q6, by rw [e 8 (by decide) (by decide)]; exact q7⟩
/-- the class's state: place pl, digits dg -/
def qS (x : Nat) (U : bs_U) (tj : Option (List Nat)) (c : List Nat) (W : List (Nat × Nat)) (kd ne pa pl dg : Nat) (mu : bs_Mm) : Prop := qc x U tj c W kd ne pa mu ∧ bs_iv (mu (x + 20) 5) = nI pl ∧ bs_iv (mu (x + 20) 9) = nI dg
theorem qS_9 {x : Nat} {U : bs_U} {tj : Option (List Nat)} {c : List Nat} {W : List (Nat × Nat)} {kd ne pa pl dg : Nat} {mu : bs_Mm} (h : qS x U tj c W kd ne pa pl dg mu) : qS x U tj c W kd ne pa pl 0 (bs_up mu (x + 20) 9 (.int (nI 0))) := ⟨qc_of h.1 (fun k _ k9 => bs_up_j k9) fun a ha => bs_up_f ha, by rw [bs_up_j (by decide)]; exact h.2.1, by rw [bs_up_eq]; rfl⟩
theorem qfr_9 {x : Nat} {v : Value} {mu : bs_Mm} : qfr x mu (bs_up mu (x + 20) 9 v) := fun a ha => bs_up_f (by omega)
def q_lt (t : Nat) : Nat := if t = 97 then 4 else if t = 104 then 1 else if t = 107 then 2 else if t = 108 then 0 else 3
def q_il (t : Nat) : Prop := t = 97 ∨ t = 104 ∨ t = 107 ∨ t = 108 ∨ t = 115
theorem sq_letter {x t : Nat} {mu : bs_Mm} (ht : t ≤ 255) : (q_il t → FX7_letterOf x mu (nI t) = some (nI (q_lt t))) ∧ (¬ q_il t → FX7_letterOf x mu (nI t) = some (-1)) := by
  unfold FX7_letterOf
  simp only [fn_eq (show t < 2 ^ 31 by omega) (show 97 < 2 ^ 31 by decide), fn_eq (show t < 2 ^ 31 by omega) (show 104 < 2 ^ 31 by decide), fn_eq (show t < 2 ^ 31 by omega) (show 107 < 2 ^ 31 by decide), fn_eq (show t < 2 ^ 31 by omega) (show 108 < 2 ^ 31 by decide), fn_eq (show t < 2 ^ 31 by omega) (show 115 < 2 ^ 31 by decide)]
  refine ⟨fun h => ?_, fun h => ?_⟩
  · rcases h with h | h | h | h | h
    · subst h; rfl
    · subst h; rfl
    · subst h; rfl
    · subst h; rfl
    · subst h; rfl
  · unfold q_il at h
    rw [if_neg (by omega), if_neg (by omega), if_neg (by omega), if_neg (by omega), if_neg (by omega)]
theorem u_c_small {i : Nat} (h : i < 20000) : u_c i = nI i := if_pos h
set_option maxHeartbeats 1000000 in
/-- at the beginning of an atom: a letter, a [, another sign -/
theorem rq_atom {x n a : Nat} {T : Nat → Nat} {U : bs_U} {tj : Option (List Nat)} {c : List Nat} {W : List (Nat × Nat)} {kd ne pa pl dg : Nat} {mu : bs_Mm} (hS : qS x U tj c W kd ne pa pl dg mu) (hT : cT x n T mu) (ha : a < n) (hp : pl = 3 ∨ (pl = 2 ∧ T a ≠ 33 ∧ T a ≠ 40)) (hd : ¬ tdg n T a) (h32 : T a ≠ 32) (hb : u_z U + qz tj + c.length < 201) (hw : W.length < 200) (hk : kd < 1000) (hne : ne ≤ 6) : (q_il (T a) → ∃ mu', rq_go x n a mu = rq_go x n (a + 1) mu' ∧ qS x U tj (c ++ [10000 + q_lt (T a)]) W kd ne pa 4 0 mu' ∧ qfr x mu mu') ∧ (T a = 91 → ne < 6 → ∃ mu', rq_go x n a mu = rq_go x n (a + 1) mu' ∧ qS x U tj c ((91, kd) :: W) 4 (ne + 1) pa 3 0 mu' ∧ qfr x mu mu') ∧ ((T a = 91 ∧ ne = 6) ∨ (T a ≠ 91 ∧ ¬ q_il (T a)) → rq_F x n a mu a) := by
  have ta := (hT.2.2 a ha).2.2
  have h0 := qS_9 hS
  obtain ⟨m0, hm0⟩ : ∃ y, y = bs_up mu (x + 20) 9 (.int (nI 0)) := ⟨_, rfl⟩
  rw [← hm0] at h0
  have fr0 : qfr x mu m0 := by rw [hm0]; exact qfr_9
  have tk : FX7_takes x mu (nI (T a)) = fg_b2 (FX7_takesAtom x m0 (nI (T a))) (fun v25 mu24 => fg_gd (decide (v25 = 0 ∨ v25 = 1)) (some (v25, mu24))) := by
    rw [sq_tk ta (fun w => hd ⟨ha, w⟩) h32, ← hm0, h0.2.1]
    rcases hp with e | ⟨e, e1, e2⟩
    · subst e
      rw [if_neg (by decide), if_neg (by decide), if_neg (by decide), if_pos rfl]
    · subst e
      rw [if_neg (by decide), if_neg (by decide), if_pos rfl, if_neg (fun w => e1 ((nI_eq (by omega) (by decide)).mp w)), if_neg (fun w => e2 ((nI_eq (by omega) (by decide)).mp w))]
  refine ⟨fun hl => ?_, fun h91 hn => ?_, fun h => ?_⟩
  · have n91 : T a ≠ 91 := by unfold q_il at hl; omega
    have q4 : q_lt (T a) < 5 := by unfold q_lt; repeat' split
                                   all_goals omega
    obtain ⟨m1, t1, t2, t3⟩ := sq_tell (x := x) (i := 10000 + q_lt (T a)) h0.1.1 hb
    rw [u_c_small (by omega)] at t1
    have at1 : FX7_takesAtom x m0 (nI (T a)) = some (nI 1, bs_up m1 (x + 20) 5 (.int (nI 4))) := by
      unfold FX7_takesAtom
      rw [if_neg (fun w => n91 ((nI_eq (by omega) (by decide)).mp w)), (sq_letter ta).1 hl, fg_bd_s, if_neg (al_nm (by omega)), fn_add, t1, fg_bd_s, fg_wr_s]
    have tk2 : FX7_takes x mu (nI (T a)) = some (nI 1, bs_up m1 (x + 20) 5 (.int (nI 4))) := by rw [tk, at1, fg_b2_s, fg_dt z01_1, fg_gd_t]
    have o1 : ∀ k, k ≠ 5 → bs_up m1 (x + 20) 5 (.int (nI 4)) (x + 20) k = m0 (x + 20) k := fun k hk => by rw [bs_up_j hk, t3 _ (by omega) (by omega)]
    obtain ⟨q1, q2, q3, q4', q5, q6, q7⟩ := h0.1
    refine ⟨_, (rq_step hT ha tk2).1 (by decide), ⟨⟨qs_of t2 (bs_up_f (by omega)) (bs_up_f (by omega)), by rw [o1 10 (by decide)]; exact q2, qw_of _ q3 fun j _ => ⟨by rw [bs_up_f (by omega), t3 _ (by omega) (by omega)], by rw [bs_up_f (by omega), t3 _ (by omega) (by omega)]⟩, by rw [o1 4 (by decide)]; exact q4', by rw [o1 6 (by decide)]; exact q5, by rw [o1 7 (by decide)]; exact q6, by rw [o1 8 (by decide)]; exact q7⟩, by rw [bs_up_eq]; rfl, by rw [o1 9 (by decide)]; exact h0.2.2⟩, fun b hb2 => by rw [bs_up_f (by omega), t3 b (by omega) (by omega), fr0 b hb2]⟩
  · obtain ⟨q1, q2, q3, q4, q5, q6, q7⟩ := id h0.1
    obtain ⟨m1, hm1⟩ : ∃ y, y = bs_up m0 (x + 20) 7 (.int (nI (ne + 1))) := ⟨_, rfl⟩
    have f1 : ∀ a, a ≠ x + 20 → m1 a = m0 a := fun a ha => by rw [hm1, bs_up_f ha]
    have o1 : ∀ k, k ≠ 7 → m1 (x + 20) k = m0 (x + 20) k := fun k hk => by rw [hm1, bs_up_j hk]
    obtain ⟨m2, r1, r2, r3, r4⟩ := sq_await (x := x) (o := 91) (ne := ne + 1) (mu := m1) ⟨qs_of q1 (f1 _ (by omega)) (f1 _ (by omega)), by rw [o1 10 (by decide)]; exact q2, qw_of _ q3 fun j _ => ⟨by rw [f1 _ (by omega)], by rw [f1 _ (by omega)]⟩, by rw [o1 4 (by decide)]; exact q4, by rw [o1 6 (by decide)]; exact q5, by rw [hm1, bs_up_eq]; rfl, by rw [o1 8 (by decide)]; exact q7⟩ hw (by decide) hk
    have op : FX7_opensBracket x m0 = some (nI 1, bs_up (bs_up m2 (x + 20) 6 (.int (nI 4))) (x + 20) 5 (.int (nI 3))) := by
      unfold FX7_opensBracket
      rw [q6, if_pos ((nI_ltI (by omega) (by decide)).mpr hn), fn_add, fg_wr_s, ← hm1, r1, fg_bd_s, fg_wr_s, fg_wr_s]
    have tk2 : FX7_takes x mu (nI (T a)) = some (nI 1, bs_up (bs_up m2 (x + 20) 6 (.int (nI 4))) (x + 20) 5 (.int (nI 3))) := by
      rw [tk]
      unfold FX7_takesAtom
      rw [if_pos (by rw [h91]), op, fg_b2_s, fg_dt z01_1, fg_gd_t, fg_b2_s, fg_dt z01_1, fg_gd_t]
    have o2 : ∀ k, k ≠ 5 → k ≠ 6 → bs_up (bs_up m2 (x + 20) 6 (.int (nI 4))) (x + 20) 5 (.int (nI 3)) (x + 20) k = m2 (x + 20) k := fun k k5 k6 => by rw [bs_up_j k5, bs_up_j k6]
    have f2 : ∀ a, a ≠ x + 20 → bs_up (bs_up m2 (x + 20) 6 (.int (nI 4))) (x + 20) 5 (.int (nI 3)) a = m2 a := fun a ha => by rw [bs_up_f ha, bs_up_f ha]
    obtain ⟨s1, s2, s3, s4, s5, s6, s7⟩ := r2
    refine ⟨_, (rq_step hT ha tk2).1 (by decide), ⟨⟨qs_of s1 (f2 _ (by omega)) (f2 _ (by omega)), by rw [o2 10 (by decide) (by decide)]; exact s2, qw_of _ s3 fun j _ => ⟨by rw [f2 _ (by omega)], by rw [f2 _ (by omega)]⟩, by rw [o2 4 (by decide) (by decide)]; exact s4, by rw [bs_up_j (by decide), bs_up_eq]; rfl, by rw [o2 7 (by decide) (by decide)]; exact s6, by rw [o2 8 (by decide) (by decide)]; exact s7⟩, by rw [bs_up_eq]; rfl, ?_⟩, fun b hb2 => by rw [f2 b (by omega), r4 b hb2, f1 b (by omega), fr0 b hb2]⟩
    rw [o2 9 (by decide) (by decide), r3 9 (by decide), o1 9 (by decide)]
    exact h0.2.2
  · have at0 : FX7_takesAtom x m0 (nI (T a)) = some (nI 0, m0) := by
      unfold FX7_takesAtom
      rcases h with ⟨h1, h2⟩ | ⟨h1, h2⟩
      · rw [if_pos (by rw [h1])]
        unfold FX7_opensBracket
        rw [h0.1.2.2.2.2.2.1, if_neg (fun w => by have := (nI_ltI (by omega) (by decide)).mp w; omega), fg_b2_s, fg_dt z01_0, fg_gd_t]
      · rw [if_neg (fun w => h1 ((nI_eq (by omega) (by decide)).mp w)), (sq_letter ta).2 h2, fg_bd_s, if_pos rfl]
    exact rq_F_ref hT ha (by rw [tk, at0, fg_b2_s, fg_dt z01_0, fg_gd_t]) fr0
