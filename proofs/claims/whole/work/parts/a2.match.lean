/-! ALIKE, MATCH: the class's calls; what it keeps -/
def al_A (G H : bs_G) : Prop := g_np G = g_np H ∧ g_nu G = g_nu H ∧ ∃ s, al_V G H s
def kMC (G H : bs_G) (x : Nat) (b : Int32) (mu : bs_Mm) : Prop := (b = nI 1 ∧ al_A G H ∧ ∃ s, al_F (al_V G H) (g_np G) s ∧ ∀ p, p < g_np G → bs_iv (mu (x + 31) p) = nI (s p)) ∨ (b = nI 0 ∧ ¬ al_A G H)
/-- the latest two are kept -/
def cMT (x fc : Nat) (FG : Nat → bs_G) (mu : bs_Mm) : Prop := (∀ k, k = 7 ∨ k = 8 → bs_rv (mu (x + 30) k) = none ∨ ∃ i, i < fc ∧ bs_rv (mu (x + 30) k) = some (x + 63 + 7 * i)) ∧ ∀ i j, i < fc → j < fc → bs_rv (mu (x + 30) 7) = some (x + 63 + 7 * i) → bs_rv (mu (x + 30) 8) = some (x + 63 + 7 * j) → kMC (FG i) (FG j) x (bs_iv (mu (x + 30) 9)) mu
theorem cMT_of {x fc : Nat} {FG : Nat → bs_G} {mu mu' : bs_Mm} (h : cMT x fc FG mu) (e0 : mu' (x + 30) = mu (x + 30)) (e1 : mu' (x + 31) = mu (x + 31)) : cMT x fc FG mu' := by
  refine ⟨fun k hk => by rw [e0]; exact h.1 k hk, fun i j hi hj a b => ?_⟩
  rw [e0] at a b ⊢
  unfold kMC
  rw [e1]
  exact h.2 i j hi hj a b
set_option maxHeartbeats 1000000 in
theorem sf_findRow {x f h : Nat} {G H : bs_G} {mu : bs_Mm} (hx : x + 63 ≤ f ∧ x + 63 ≤ h) (hf : fg_isF x f = true ∧ fg_isF x h = true) (hV : cFv f G mu) (hW : cFv h H mu) (hG : g_ok G) (hH : g_ok H) (hn : g_np G = g_np H ∧ g_np G ≤ 8) (r7 : bs_rv (mu (x + 30) 7) = some f) (r8 : bs_rv (mu (x + 30) 8) = some h) : ∃ b mu', FX4_findRow x mu f h = some (b, mu') ∧ (∀ a, a ≠ x + 30 → a ≠ x + 31 → a ≠ x + 32 → a ≠ x + 33 → a ≠ x + 34 → a ≠ x + 35 → mu' a = mu a) ∧ (∀ k, 7 ≤ k → mu' (x + 30) k = mu (x + 30) k) ∧ ((b = nI 1 ∧ ∃ s, al_F (al_V G H) (g_np G) s ∧ ∀ p, p < g_np G → bs_iv (mu' (x + 31) p) = nI (s p)) ∨ (b = nI 0 ∧ ∀ s, ¬ al_V G H s)) := by
  have q0 := g_bn hG
  unfold FX4_findRow
  rw [hV.2.2.1, fg_wr_s, fg_wr_s]
  have fr1 : ∀ a, a ≠ x + 30 → bs_up (bs_up mu (x + 30) 6 (.int (nI (g_np G)))) (x + 30) 5 (.int (nI 0)) a = mu a := fun a ha => by rw [bs_up_f ha, bs_up_f ha]
  have fj1 : ∀ k, 7 ≤ k → bs_up (bs_up mu (x + 30) 6 (.int (nI (g_np G)))) (x + 30) 5 (.int (nI 0)) (x + 30) k = mu (x + 30) k := fun k hk => by rw [bs_up_j (by omega), bs_up_j (by omega)]
  have v6 : bs_iv (bs_up (bs_up mu (x + 30) 6 (.int (nI (g_np G)))) (x + 30) 5 (.int (nI 0)) (x + 30) 6) = nI (g_np G) := by rw [bs_up_j (by omega), bs_up_eq]; rfl
  have v5 : bs_iv (bs_up (bs_up mu (x + 30) 6 (.int (nI (g_np G)))) (x + 30) 5 (.int (nI 0)) (x + 30) 5) = nI 0 := by rw [bs_up_eq]; rfl
  revert fr1 fj1 v6 v5
  generalize bs_up (bs_up mu (x + 30) 6 (.int (nI (g_np G)))) (x + 30) 5 (.int (nI 0)) = mu1
  intro fr1 fj1 v6 v5
  have hV1 : cFv f G mu1 := cFv_of hV (fun k _ => fr1 _ (by omega))
  have hW1 : cFv h H mu1 := cFv_of hW (fun k _ => fr1 _ (by omega))
  obtain ⟨mu2, k2, B2, L2, C2, c2, t1, t2, t3, t4, t5, t6, t7, t8, t9, t10⟩ := sf_tellK (r := x + 32) (kn := 0) (B := fun _ => 0) (L := fun _ => 0) (C := fun _ _ => 0) hx.1 (Or.inl rfl) hV1 hG hn.2 ⟨fun _ => rfl, fun i hi => by omega, fun i hi => by omega, fun i hi => by omega, fun i j hi => by omega⟩ ⟨by decide, v5, fun i hi => by omega⟩ (by decide)
  have hW2 : cFv h H mu2 := cFv_of hW1 (fun k _ => t7 _ (by omega) (by omega) (by omega) (by omega))
  obtain ⟨mu3, k3, B3, L3, C3, c3, u1, u2, u3, u4, u5, u6, u7, u8, u9, u10⟩ := sf_tellK (r := x + 33) hx.2 (Or.inr rfl) hW2 hH (by omega) t2 t3 (by omega)
  have hV3 : cFv f G mu3 := cFv_of hV1 (fun k _ => by rw [u7 _ (by omega) (by omega) (by omega) (by omega)]; exact t7 _ (by omega) (by omega) (by omega) (by omega))
  have hW3 : cFv h H mu3 := cFv_of hW2 (fun k _ => u7 _ (by omega) (by omega) (by omega) (by omega))
  have j3 : ∀ k, k ≠ 5 → mu3 (x + 30) k = mu1 (x + 30) k := fun k hk => (u8 k hk).trans (t8 k hk)
  have E : al_env x f h k3 G H B3 L3 C3 c2 c3 mu3 := by
    refine ⟨⟨hf.1, hf.2, by rw [j3 7 (by decide), fj1 7 (by decide)]; exact r7, by rw [j3 8 (by decide), fj1 8 (by decide)]; exact r8, by rw [j3 6 (by decide)]; exact v6⟩, hV3, hW3, ⟨u2, u3.1⟩, fun p q hp hq => ?_, u9, fun p q hp hq => ?_, u10⟩
    · rw [u7 _ (by omega) (by omega) (by omega) (by omega)]
      exact t9 p q hp hq
    · obtain ⟨a, b⟩ := t10 p q hp hq
      exact ⟨by omega, fun z => by rw [u6 _ a z]; exact b z⟩
  obtain ⟨b, mu4, s1, s2, s3⟩ := sf_search hx hG hH hn E
  refine ⟨b, mu4, ?_, fun a a0 a1 a2 a3 a4 a5 => ?_, fun k hk => ?_, s3⟩
  · rw [t1, fg_bd_s, u1, fg_bd_s, s1, fg_b2_s]
    have hb : decide (b = 0 ∨ b = 1) = true := by
      rcases s3 with ⟨e, -⟩ | ⟨e, -⟩ <;> rw [e] <;> rfl
    rw [hb]
    rfl
  · rw [s2 a a1, u7 a a0 a4 a5 a3, t7 a a0 a4 a5 a2]
    exact fr1 a a0
  · rw [s2 _ (by omega), j3 k (by omega)]
    exact fj1 k hk
theorem al_V_F {G H : bs_G} {s : Nat → Nat} (h : al_F (al_V G H) (g_np G) s) : al_V G H s := h.1
set_option maxHeartbeats 1000000 in
theorem sf_matches {x fc i j : Nat} {FG : Nat → bs_G} {mu : bs_Mm} (hF : cFG x fc FG mu) (hi : i < fc) (hj : j < fc) (hn : g_np (FG i) ≤ 8) (hM : cMT x fc FG mu) : ∃ b mu', FX4_matches x mu (x + 63 + 7 * i) (x + 63 + 7 * j) = some (b, mu') ∧ kMC (FG i) (FG j) x b mu' ∧ cMT x fc FG mu' ∧ ∀ a, a ≠ x + 30 → a ≠ x + 31 → a ≠ x + 32 → a ≠ x + 33 → a ≠ x + 34 → a ≠ x + 35 → mu' a = mu a := by
  have hf := hF.1
  have hb01 : ∀ b, (b = nI 1 ∨ b = nI 0) → decide (b = 0 ∨ b = 1) = true := by
    intro b h
    rcases h with e | e <;> rw [e] <;> rfl
  have key : ∃ b mu', FX4_matches_j16 x (x + 63 + 7 * i) (x + 63 + 7 * j) mu = some (b, mu') ∧ kMC (FG i) (FG j) x b mu' ∧ cMT x fc FG mu' ∧ ∀ a, a ≠ x + 30 → a ≠ x + 31 → a ≠ x + 32 → a ≠ x + 33 → a ≠ x + 34 → a ≠ x + 35 → mu' a = mu a := by
    have hG := (hF.2.2 i hi).1
    have hH := (hF.2.2 j hj).1
    have q1 := g_bn hG
    have q2 := g_bn hH
    unfold FX4_matches_j16
    rw [fg_wr_s, fg_wr_s]
    have fr1 : ∀ a, a ≠ x + 30 → bs_up (bs_up mu (x + 30) 7 (.ref (x + 63 + 7 * i))) (x + 30) 8 (.ref (x + 63 + 7 * j)) a = mu a := fun a ha => by rw [bs_up_f ha, bs_up_f ha]
    have r7 : bs_rv (bs_up (bs_up mu (x + 30) 7 (.ref (x + 63 + 7 * i))) (x + 30) 8 (.ref (x + 63 + 7 * j)) (x + 30) 7) = some (x + 63 + 7 * i) := by rw [bs_up_j (by omega), bs_up_eq]; rfl
    have r8 : bs_rv (bs_up (bs_up mu (x + 30) 7 (.ref (x + 63 + 7 * i))) (x + 30) 8 (.ref (x + 63 + 7 * j)) (x + 30) 8) = some (x + 63 + 7 * j) := by rw [bs_up_eq]; rfl
    revert fr1 r7 r8
    generalize bs_up (bs_up mu (x + 30) 7 (.ref (x + 63 + 7 * i))) (x + 30) 8 (.ref (x + 63 + 7 * j)) = mu1
    intro fr1 r7 r8
    have hV1 : cFv (x + 63 + 7 * i) (FG i) mu1 := cFv_of (hF.2.2 i hi).2 (fun k _ => fr1 _ (by omega))
    have hW1 : cFv (x + 63 + 7 * j) (FG j) mu1 := cFv_of (hF.2.2 j hj).2 (fun k _ => fr1 _ (by omega))
    -- what is kept behind any answer
    have kept : ∀ (b : Int32) (mu2 : bs_Mm), (∀ k, 7 ≤ k → mu2 (x + 30) k = mu1 (x + 30) k) → kMC (FG i) (FG j) x b mu2 → cMT x fc FG (bs_up mu2 (x + 30) 9 (.int b)) ∧ kMC (FG i) (FG j) x b (bs_up mu2 (x + 30) 9 (.int b)) := by
      intro b mu2 e hk
      have m31 : ∀ v, bs_up mu2 (x + 30) 9 v (x + 31) = mu2 (x + 31) := fun v => bs_up_f (by omega)
      have k2 : kMC (FG i) (FG j) x b (bs_up mu2 (x + 30) 9 (.int b)) := by
        unfold kMC
        rw [m31]
        exact hk
      have e7 : bs_rv (bs_up mu2 (x + 30) 9 (.int b) (x + 30) 7) = some (x + 63 + 7 * i) := by rw [bs_up_j (by omega), e 7 (by decide)]; exact r7
      have e8 : bs_rv (bs_up mu2 (x + 30) 9 (.int b) (x + 30) 8) = some (x + 63 + 7 * j) := by rw [bs_up_j (by omega), e 8 (by decide)]; exact r8
      refine ⟨⟨fun k hk => ?_, fun i' j' hi' hj' a1 a2 => ?_⟩, k2⟩
      · rcases hk with rfl | rfl
        · exact Or.inr ⟨i, hi, e7⟩
        · exact Or.inr ⟨j, hj, e8⟩
      · rw [e7] at a1
        rw [e8] at a2
        have a1 := Option.some.inj a1
        have a2 := Option.some.inj a2
        have ei : i' = i := by omega
        have ej : j' = j := by omega
        subst ei
        subst ej
        rw [bs_up_eq]
        exact k2
    rw [hV1.2.2.1, hW1.2.2.1]
    by_cases c1 : g_np (FG i) = g_np (FG j)
    · rw [if_pos (by rw [c1]), hV1.2.1, hW1.2.1]
      by_cases c2 : g_nu (FG i) = g_nu (FG j)
      · rw [if_pos (by rw [c2])]
        obtain ⟨b, mu2, s1, s2, s3, s4⟩ := sf_findRow (show x + 63 ≤ x + 63 + 7 * i ∧ x + 63 ≤ x + 63 + 7 * j by omega) ⟨fg_isF_y (by omega), fg_isF_y (by omega)⟩ hV1 hW1 hG hH ⟨c1, hn⟩ r7 r8
        rw [s1, fg_b2_s]
        have fr2 : ∀ v a, a ≠ x + 30 → a ≠ x + 31 → a ≠ x + 32 → a ≠ x + 33 → a ≠ x + 34 → a ≠ x + 35 → bs_up mu2 (x + 30) 9 v a = mu a := fun v a a0 a1 a2 a3 a4 a5 => by rw [bs_up_f a0, s2 a a0 a1 a2 a3 a4 a5]; exact fr1 a a0
        rcases s4 with ⟨e, s, w1, w2⟩ | ⟨e, w1⟩
        · subst e
          obtain ⟨k1, k2⟩ := kept (nI 1) mu2 s3 (Or.inl ⟨rfl, ⟨c1, c2, s, w1.1⟩, s, w1, w2⟩)
          refine ⟨nI 1, _, ?_, k2, k1, fr2 _⟩
          rw [if_neg (by decide), fg_wr_s, bs_up_eq]
          rfl
        · subst e
          obtain ⟨k1, k2⟩ := kept (nI 0) mu2 s3 (Or.inr ⟨rfl, fun z => by obtain ⟨-, -, s, hs⟩ := z; exact w1 s hs⟩)
          refine ⟨nI 0, _, ?_, k2, k1, fr2 _⟩
          rw [if_pos (by decide), fg_wr_s, bs_up_eq]
          rfl
      · rw [if_neg (fun h => c2 ((nI_eq (by omega) (by omega)).mp h))]
        obtain ⟨k1, k2⟩ := kept (nI 0) mu1 (fun _ _ => rfl) (Or.inr ⟨rfl, fun z => c2 z.2.1⟩)
        refine ⟨nI 0, _, ?_, k2, k1, fun a a0 _ _ _ _ _ => by rw [bs_up_f a0]; exact fr1 a a0⟩
        rw [fg_wr_s, bs_up_eq]
        rfl
    · rw [if_neg (fun h => c1 ((nI_eq (by omega) (by omega)).mp h))]
      obtain ⟨k1, k2⟩ := kept (nI 0) mu1 (fun _ _ => rfl) (Or.inr ⟨rfl, fun z => c1 z.1⟩)
      refine ⟨nI 0, _, ?_, k2, k1, fun a a0 _ _ _ _ _ => by rw [bs_up_f a0]; exact fr1 a a0⟩
      rw [fg_wr_s, bs_up_eq]
      rfl
  unfold FX4_matches
  by_cases c7 : bs_rv (mu (x + 30) 7) = some (x + 63 + 7 * i)
  · rw [if_pos c7]
    by_cases c8 : bs_rv (mu (x + 30) 8) = some (x + 63 + 7 * j)
    · rw [if_pos c8]
      have k := hM.2 i j hi hj c7 c8
      refine ⟨_, mu, ?_, k, hM, fun _ _ _ _ _ _ _ => rfl⟩
      rw [hb01 _ (by rcases k with ⟨e, -⟩ | ⟨e, -⟩; exact Or.inl e; exact Or.inr e)]
      rfl
    · rw [if_neg c8]
      exact key
  · rw [if_neg c7]
    exact key
/-- the answers -/
def kAl (G H : bs_G) (a : Int32) : Prop := ((8 < g_np G ∨ 8 < g_np H) ∧ a = -1) ∨ (g_np G ≤ 8 ∧ g_np H ≤ 8 ∧ ((a = nI 1 ∧ al_A G H) ∨ (a = nI 0 ∧ ¬ al_A G H)))
def kMa (G H : bs_G) (p a : Int32) : Prop := (a = -1 ∧ (8 < g_np G ∨ 8 < g_np H ∨ p < 0 ∨ nI (g_np G) ≤ p ∨ ¬ al_A G H)) ∨ (g_np G ≤ 8 ∧ g_np H ≤ 8 ∧ al_A G H ∧ ∃ q s, q < g_np G ∧ p = nI q ∧ al_F (al_V G H) (g_np G) s ∧ a = nI (s q))
theorem kAl_u {G H : bs_G} {a b : Int32} (h : kAl G H a) (k : kAl G H b) : a = b := by
  rcases h with ⟨h1, h2⟩ | ⟨h1, h2, ⟨h3, h4⟩ | ⟨h3, h4⟩⟩ <;> rcases k with ⟨k1, k2⟩ | ⟨k1, k2, ⟨k3, k4⟩ | ⟨k3, k4⟩⟩
  all_goals first | omega | exact absurd h4 k4 | exact absurd k4 h4 | (rw [h2, k2]) | (rw [h3, k3])
theorem kMa_u {G H : bs_G} {p a b : Int32} (h : kMa G H p a) (k : kMa G H p b) : a = b := by
  have ex : ∀ q, q < g_np G → g_np G ≤ 8 → p = nI q → p < 0 ∨ nI (g_np G) ≤ p → False := by
    intro q hq h8 e z
    subst e
    rcases z with z | z
    · rw [fn_lt0 (by omega)] at z
      exact z
    · have := (nI_leI (by omega) (by omega)).mp z
      omega
  rcases h with ⟨h1, h2⟩ | ⟨h1, h2, h3, q, s, h4, h5, h6, h7⟩ <;> rcases k with ⟨k1, k2⟩ | ⟨k1, k2, k3, q', s', k4, k5, k6, k7⟩
  · rw [h1, k1]
  · rcases h2 with z | z | z | z | z
    · omega
    · omega
    · exact (ex q' k4 k1 k5 (Or.inl z)).elim
    · exact (ex q' k4 k1 k5 (Or.inr z)).elim
    · exact absurd k3 z
  · rcases k2 with z | z | z | z | z
    · omega
    · omega
    · exact (ex q h4 h1 h5 (Or.inl z)).elim
    · exact (ex q h4 h1 h5 (Or.inr z)).elim
    · exact absurd h3 z
  · have e : q = q' := by
      rw [h5] at k5
      exact (nI_eq (by omega) (by omega)).mp k5
    subst e
    rw [h7, k7, al_F_u h6 k6 q h4]
theorem sf_mcN (x : Nat) (mu : bs_Mm) : FX4_mayCompare x mu none = some (nI 0) := rfl
theorem sf_mcY {x j : Nat} {G : bs_G} {mu : bs_Mm} (hj : j < 12) (hV : cFv (x + 63 + 7 * j) G mu) (hG : g_ok G) : FX4_mayCompare x mu (some (x + 63 + 7 * j)) = some (if 8 < g_np G then nI 0 else nI 1) := by
  have q0 := g_bn hG
  unfold FX4_mayCompare
  rw [fg_oq_s, fg_isF_y hj, fg_gd_t, hV.2.2.1]
  by_cases c : 8 < g_np G
  · rw [if_pos ((nI_ltI (by omega) (by omega)).mpr c), if_pos c]
  · rw [if_neg (fun h => c ((nI_ltI (by omega) (by omega)).mp h)), if_neg c]
theorem sf_alN {x fc : Nat} {FG : Nat → bs_G} {mu : bs_Mm} (hF : cFG x fc FG mu) {a b : Int32} (h : (a < 0 ∨ nI fc ≤ a) ∨ (∃ j, j < fc ∧ a = nI j) ∧ (b < 0 ∨ nI fc ≤ b)) : FX11_alike x mu a b = some (-1, mu) := by
  have hf := hF.1
  unfold FX11_alike
  rcases h with h | ⟨⟨j, hj, rfl⟩, h⟩
  · rw [sf_figN hF.2.1 h, fg_bd_s, fg_oq_n]
    rcases fn_any b (show fc < 2 ^ 31 by omega) with hb | ⟨k, hk, rfl⟩
    · rw [sf_figN hF.2.1 hb]
      rfl
    · rw [sf_figY hF.2.1 hf hk, fg_bd_s, fg_oq_s, fg_isF_y (by omega), fg_gd_t]
      rfl
  · rw [sf_figY hF.2.1 hf hj, fg_bd_s, fg_oq_s, fg_isF_y (by omega), fg_gd_t, sf_figN hF.2.1 h, fg_bd_s, fg_oq_n, sf_mcY (by omega) (hF.2.2 j hj).2 (hF.2.2 j hj).1, fg_bd_s]
    by_cases c : 8 < g_np (FG j)
    · rw [if_pos c]
      rfl
    · rw [if_neg c]
      rfl
theorem sf_alY {x fc i j : Nat} {FG : Nat → bs_G} {mu : bs_Mm} (hF : cFG x fc FG mu) (hi : i < fc) (hj : j < fc) (hM : cMT x fc FG mu) : ∃ a mu', FX11_alike x mu (nI i) (nI j) = some (a, mu') ∧ kAl (FG i) (FG j) a ∧ cMT x fc FG mu' ∧ ∀ a, a ≠ x + 30 → a ≠ x + 31 → a ≠ x + 32 → a ≠ x + 33 → a ≠ x + 34 → a ≠ x + 35 → mu' a = mu a := by
  have hf := hF.1
  unfold FX11_alike
  rw [sf_figY hF.2.1 hf hi, fg_bd_s, fg_oq_s, fg_isF_y (by omega), fg_gd_t, sf_figY hF.2.1 hf hj, fg_bd_s, fg_oq_s, fg_isF_y (by omega), fg_gd_t, sf_mcY (by omega) (hF.2.2 i hi).2 (hF.2.2 i hi).1, fg_bd_s]
  by_cases c : 8 < g_np (FG i)
  · rw [if_pos c]
    exact ⟨-1, mu, rfl, Or.inl ⟨Or.inl c, rfl⟩, hM, fun _ _ _ _ _ _ _ => rfl⟩
  · rw [if_neg c, if_neg (by decide), sf_mcY (by omega) (hF.2.2 j hj).2 (hF.2.2 j hj).1, fg_bd_s]
    by_cases d : 8 < g_np (FG j)
    · rw [if_pos d]
      exact ⟨-1, mu, rfl, Or.inl ⟨Or.inr d, rfl⟩, hM, fun _ _ _ _ _ _ _ => rfl⟩
    · rw [if_neg d, if_neg (by decide)]
      obtain ⟨b, mu1, m1, m2, m3, m4⟩ := sf_matches hF hi hj (by omega) hM
      rw [m1, fg_b2_s]
      rcases m2 with ⟨e, h, -⟩ | ⟨e, h⟩
      · subst e
        exact ⟨nI 1, mu1, rfl, Or.inr ⟨by omega, by omega, Or.inl ⟨rfl, h⟩⟩, m3, m4⟩
      · subst e
        exact ⟨nI 0, mu1, rfl, Or.inr ⟨by omega, by omega, Or.inr ⟨rfl, h⟩⟩, m3, m4⟩
theorem sf_maN {x fc : Nat} {FG : Nat → bs_G} {mu : bs_Mm} (hF : cFG x fc FG mu) {a b : Int32} (p : Int32) (h : (a < 0 ∨ nI fc ≤ a) ∨ (∃ j, j < fc ∧ a = nI j) ∧ (b < 0 ∨ nI fc ≤ b)) : FX11_match x mu a b p = some (-1, mu) := by
  have hf := hF.1
  unfold FX11_match
  rcases h with h | ⟨⟨j, hj, rfl⟩, h⟩
  · rw [sf_figN hF.2.1 h, fg_bd_s, fg_oq_n]
    rcases fn_any b (show fc < 2 ^ 31 by omega) with hb | ⟨k, hk, rfl⟩
    · rw [sf_figN hF.2.1 hb]
      rfl
    · rw [sf_figY hF.2.1 hf hk, fg_bd_s, fg_oq_s, fg_isF_y (by omega), fg_gd_t]
      rfl
  · rw [sf_figY hF.2.1 hf hj, fg_bd_s, fg_oq_s, fg_isF_y (by omega), fg_gd_t, sf_figN hF.2.1 h, fg_bd_s, fg_oq_n, sf_mcY (by omega) (hF.2.2 j hj).2 (hF.2.2 j hj).1, fg_bd_s]
    by_cases c : 8 < g_np (FG j)
    · rw [if_pos c]
      rfl
    · rw [if_neg c]
      rfl
theorem sf_maY {x fc i j : Nat} {FG : Nat → bs_G} {mu : bs_Mm} (hF : cFG x fc FG mu) (hi : i < fc) (hj : j < fc) (hM : cMT x fc FG mu) (p : Int32) : ∃ a mu', FX11_match x mu (nI i) (nI j) p = some (a, mu') ∧ kMa (FG i) (FG j) p a ∧ cMT x fc FG mu' ∧ ∀ a, a ≠ x + 30 → a ≠ x + 31 → a ≠ x + 32 → a ≠ x + 33 → a ≠ x + 34 → a ≠ x + 35 → mu' a = mu a := by
  have hf := hF.1
  have q0 := g_bn (hF.2.2 i hi).1
  unfold FX11_match
  rw [sf_figY hF.2.1 hf hi, fg_bd_s, fg_oq_s, fg_isF_y (by omega), fg_gd_t, sf_figY hF.2.1 hf hj, fg_bd_s, fg_oq_s, fg_isF_y (by omega), fg_gd_t, sf_mcY (by omega) (hF.2.2 i hi).2 (hF.2.2 i hi).1, fg_bd_s]
  by_cases c : 8 < g_np (FG i)
  · rw [if_pos c]
    exact ⟨-1, mu, rfl, Or.inl ⟨rfl, Or.inl c⟩, hM, fun _ _ _ _ _ _ _ => rfl⟩
  · rw [if_neg c, if_neg (by decide), sf_mcY (by omega) (hF.2.2 j hj).2 (hF.2.2 j hj).1, fg_bd_s]
    by_cases d : 8 < g_np (FG j)
    · rw [if_pos d]
      exact ⟨-1, mu, rfl, Or.inl ⟨rfl, Or.inr (Or.inl d)⟩, hM, fun _ _ _ _ _ _ _ => rfl⟩
    · rw [if_neg d, if_neg (by decide)]
      rcases fn_any p (show g_np (FG i) < 2 ^ 31 by omega) with hp | ⟨q, hq, rfl⟩
      · rw [sf_hasPN (hF.2.2 i hi).2 hp, fg_bd_s, if_pos rfl]
        exact ⟨-1, mu, rfl, Or.inl ⟨rfl, Or.inr (Or.inr (hp.elim Or.inl (fun z => Or.inr (Or.inl z))))⟩, hM, fun _ _ _ _ _ _ _ => rfl⟩
      · rw [sf_hasPY (hF.2.2 i hi).2 (hF.2.2 i hi).1 hq, fg_bd_s, if_neg (by decide)]
        obtain ⟨b, mu1, m1, m2, m3, m4⟩ := sf_matches hF hi hj (by omega) hM
        rw [m1, fg_b2_s]
        rcases m2 with ⟨e, h, s, s1, s2⟩ | ⟨e, h⟩
        · subst e
          refine ⟨nI (s q), mu1, ?_, Or.inr ⟨by omega, by omega, h, q, s, hq, rfl, s1, rfl⟩, m3, m4⟩
          rw [if_neg (by decide), fn_in (by omega) (by decide), fg_gd_t, fn_cl (by omega), s2 q hq]
        · subst e
          exact ⟨-1, mu1, rfl, Or.inl ⟨rfl, Or.inr (Or.inr (Or.inr (Or.inr h)))⟩, m3, m4⟩
