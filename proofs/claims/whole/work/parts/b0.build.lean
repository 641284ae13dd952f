/-! FIGURES as they are built (own): a bubble more, a balloon more; hands -/
def g_bb0 (G : bs_G) (l a t h : Nat) : bs_G := ((g_nb G, g_nu G + 1, g_np G, h), g_so G, bs_fn (g_le G) (g_nu G) l, bs_fn (g_fr G) (g_nu G) a, bs_fn (g_to G) (g_nu G) t, bs_fn (g_bo G) (g_nu G) (g_nb G - 1))
def g_bb (G : bs_G) (l a t : Nat) : bs_G := g_bb0 G l a t (max (g_mh G) (g_sm (g_sl (g_bb0 G l a t 0)) (g_nu G + 1)))
theorem g_bb0_en (G : bs_G) (l a t h p : Nat) : g_en (g_bb0 G l a t h) p = g_en G p + (g_if (a = p) + g_if (t = p)) := by
  show g_sm (fun i => g_if (bs_fn (g_fr G) (g_nu G) a i = p) + g_if (bs_fn (g_to G) (g_nu G) t i = p)) (g_nu G) + (g_if (bs_fn (g_fr G) (g_nu G) a (g_nu G) = p) + g_if (bs_fn (g_to G) (g_nu G) t (g_nu G) = p)) = _
  rw [bs_fn_s, bs_fn_s]
  have e : g_sm (fun i => g_if (bs_fn (g_fr G) (g_nu G) a i = p) + g_if (bs_fn (g_to G) (g_nu G) t i = p)) (g_nu G) = g_en G p := g_sm_cg _ fun i hi => by
    show g_if (bs_fn (g_fr G) (g_nu G) a i = p) + g_if (bs_fn (g_to G) (g_nu G) t i = p) = _
    rw [bs_fn_n (show i ≠ g_nu G by omega), bs_fn_n (show i ≠ g_nu G by omega)]
  rw [e]
theorem bs_rw_cg {mu : bs_Mm} {a n : Nat} {h k : Nat → Nat} (H : bs_rw mu a n h) (e : ∀ j, j < n → h j = k j) : bs_rw mu a n k := fun j hj => by rw [← e j hj]; exact H j hj
set_option maxHeartbeats 1000000 in
theorem sf_mkG {x f l a t : Nat} {mu : bs_Mm} {G : bs_G} (hV : cFv f G mu) (hG : g_ok G) (h24 : g_nu G < 24) (h1 : 1 ≤ g_nb G) (ha : a < g_np G) (ht : t < g_np G) (hG2 : g_ok (g_bb0 G l a t (g_mh G))) : ∃ mu', FX1_makeBubble x f mu (nI l) (nI a) (nI t) = some mu' ∧ cFv f (g_bb G l a t) mu' ∧ ∀ c, (c < f ∨ f + 6 < c) → mu' c = mu c := by
  have q0 := g_bn hG
  obtain ⟨v6, v7, v8, v9, w1, w2, w3, w4, w5, w6⟩ := id hV
  have be := g_be hG
  obtain ⟨m1, hm1⟩ : ∃ m, m = bs_up mu (f + 2) (g_nu G) (.int (nI l)) := ⟨_, rfl⟩
  obtain ⟨m2, hm2⟩ : ∃ m, m = bs_up m1 (f + 3) (g_nu G) (.int (nI a)) := ⟨_, rfl⟩
  obtain ⟨m3, hm3⟩ : ∃ m, m = bs_up m2 (f + 4) (g_nu G) (.int (nI t)) := ⟨_, rfl⟩
  obtain ⟨m4, hm4⟩ : ∃ m, m = bs_up m3 (f + 5) (g_nu G) (.int (nI (g_nb G - 1))) := ⟨_, rfl⟩
  obtain ⟨m5, hm5⟩ : ∃ m, m = bs_up m4 (f + 6) a (.int (nI (g_en G a + 1))) := ⟨_, rfl⟩
  obtain ⟨m6, hm6⟩ : ∃ m, m = bs_up m5 (f + 6) t (.int (nI (bs_fn (g_en G) a (g_en G a + 1) t + 1))) := ⟨_, rfl⟩
  obtain ⟨m7, hm7⟩ : ∃ m, m = bs_up m6 f 7 (.int (nI (g_nu G + 1))) := ⟨_, rfl⟩
  have z1 : m1 f = mu f := by rw [hm1, bs_up_f (by omega)]
  have z2 : m2 f = mu f := by rw [hm2, bs_up_f (by omega), z1]
  have z3 : m3 f = mu f := by rw [hm3, bs_up_f (by omega), z2]
  have z4 : m4 f = mu f := by rw [hm4, bs_up_f (by omega), z3]
  have z5 : m5 f = mu f := by rw [hm5, bs_up_f (by omega), z4]
  have z6 : m6 f = mu f := by rw [hm6, bs_up_f (by omega), z5]
  have y4 : m4 (f + 6) = mu (f + 6) := by rw [hm4, bs_up_f (by omega), hm3, bs_up_f (by omega), hm2, bs_up_f (by omega), hm1, bs_up_f (by omega)]
  have u5 : bs_rw m5 (f + 6) (g_np G) (bs_fn (g_en G) a (g_en G a + 1)) := by rw [hm5]; exact (w6.of y4).up a _
  have u6 : bs_rw m6 (f + 6) (g_np G) (bs_fn (bs_fn (g_en G) a (g_en G a + 1)) t (bs_fn (g_en G) a (g_en G a + 1) t + 1)) := by rw [hm6]; exact u5.up t _
  have e7 : ∀ c, c ≠ f → m7 c = m6 c := fun c hc => by rw [hm7, bs_up_f hc]
  have a2 : m7 (f + 2) = m1 (f + 2) := by rw [e7 _ (by omega), hm6, bs_up_f (by omega), hm5, bs_up_f (by omega), hm4, bs_up_f (by omega), hm3, bs_up_f (by omega), hm2, bs_up_f (by omega)]
  have a3 : m7 (f + 3) = m2 (f + 3) := by rw [e7 _ (by omega), hm6, bs_up_f (by omega), hm5, bs_up_f (by omega), hm4, bs_up_f (by omega), hm3, bs_up_f (by omega)]
  have a4 : m7 (f + 4) = m3 (f + 4) := by rw [e7 _ (by omega), hm6, bs_up_f (by omega), hm5, bs_up_f (by omega), hm4, bs_up_f (by omega)]
  have a5 : m7 (f + 5) = m4 (f + 5) := by rw [e7 _ (by omega), hm6, bs_up_f (by omega), hm5, bs_up_f (by omega)]
  have a1 : m7 (f + 1) = mu (f + 1) := by rw [e7 _ (by omega), hm6, bs_up_f (by omega), hm5, bs_up_f (by omega), hm4, bs_up_f (by omega), hm3, bs_up_f (by omega), hm2, bs_up_f (by omega), hm1, bs_up_f (by omega)]
  have p2 : m1 (f + 3) = mu (f + 3) := by rw [hm1, bs_up_f (by omega)]
  have p3 : m2 (f + 4) = mu (f + 4) := by rw [hm2, bs_up_f (by omega), hm1, bs_up_f (by omega)]
  have p4 : m3 (f + 5) = mu (f + 5) := by rw [hm3, bs_up_f (by omega), hm2, bs_up_f (by omega), hm1, bs_up_f (by omega)]
  have z7 : ∀ j, j ≠ 7 → m7 f j = mu f j := fun j hj => by rw [hm7, bs_up_j hj, z6]
  have V7 : cFv f (g_bb0 G l a t (g_mh G)) m7 := by
    refine ⟨by rw [z7 6 (by decide)]; exact v6, by rw [hm7, bs_up_eq]; rfl, by rw [z7 8 (by decide)]; exact v8, by rw [z7 9 (by decide)]; exact v9, w1.of a1, ?_, ?_, ?_, ?_, ?_⟩
    · exact bs_rw.of (by rw [hm1]; exact w2.push l) a2
    · exact bs_rw.of (by rw [hm2]; exact (w3.of p2).push a) a3
    · exact bs_rw.of (by rw [hm3]; exact (w4.of p3).push t) a4
    · exact bs_rw.of (by rw [hm4]; exact (w5.of p4).push _) a5
    · refine bs_rw_cg (u6.of (e7 _ (by omega))) fun j _ => ?_
      rw [g_bb0_en]
      by_cases c : t = j
      · subst c
        rw [bs_fn_s, g_if1 rfl]
        by_cases d : a = t
        · subst d
          rw [bs_fn_s, g_if1 rfl]
        · rw [bs_fn_n (fun h => d h.symm), g_if0 d]
          try omega
      · rw [bs_fn_n (fun h => c h.symm), g_if0 c]
        by_cases d : a = j
        · subst d
          rw [bs_fn_s, g_if1 rfl]
        · rw [bs_fn_n (fun h => d h.symm), g_if0 d]
          rfl
  have sl := sf_slackA (x := x) V7 hG2
  have sle : g_sm (g_sl (g_bb0 G l a t (g_mh G))) (g_nu G + 1) ≤ g_nu G + 1 := g_sm1 (fun i => g_sl_le _ i) _
  have ev : FX1_makeBubble x f mu (nI l) (nI a) (nI t) = some (bs_up m7 f 9 (.int (nI (g_mh (g_bb G l a t))))) := by
    unfold FX1_makeBubble
    rw [v7, if_pos ((nI_ltI (by omega) (by omega)).mpr h24), fn_in h24 (by decide), fg_gd_t, fn_cl (by omega), fg_wr_s, ← hm1, z1, v7, fn_in h24 (by decide), fg_gd_t, fn_cl (by omega), fg_wr_s, ← hm2, z2, v7, fn_in h24 (by decide), fg_gd_t, fn_cl (by omega), fg_wr_s, ← hm3, z3, v7, v6, fn_in h24 (by decide), fg_gd_t, fn_cl (by omega), fg_wr_s, fn_sub h1, ← hm4, fn_in (show a < 30 by omega) (by decide), fg_gd_t, fg_gd_t, fn_cl (show a < 2 ^ 31 by omega), y4, w6 a ha, fn_add, fg_wr_s, ← hm5, fn_in (show t < 30 by omega) (by decide), fg_gd_t, fg_gd_t, fn_cl (show t < 2 ^ 31 by omega), u5 t ht, fn_add, fg_wr_s, ← hm6, z6, v7, fn_add, fg_wr_s, ← hm7]
    have e77 : bs_iv (m7 f 7) = nI (g_nu (g_bb0 G l a t (g_mh G))) := V7.2.1
    rw [e77, sl, fg_bd_s, fg_wr_s, z7 9 (by decide), v9]
    have mx : (if nI (g_mh G) < nI (g_sm (g_sl (g_bb0 G l a t (g_mh G))) (g_nu (g_bb0 G l a t (g_mh G)))) then nI (g_sm (g_sl (g_bb0 G l a t (g_mh G))) (g_nu (g_bb0 G l a t (g_mh G)))) else nI (g_mh G)) = nI (g_mh (g_bb G l a t)) := by
      show (if nI (g_mh G) < nI (g_sm (g_sl (g_bb0 G l a t (g_mh G))) (g_nu G + 1)) then nI (g_sm (g_sl (g_bb0 G l a t (g_mh G))) (g_nu G + 1)) else nI (g_mh G)) = nI (max (g_mh G) (g_sm (g_sl (g_bb0 G l a t (g_mh G))) (g_nu G + 1)))
      by_cases y : g_mh G < g_sm (g_sl (g_bb0 G l a t (g_mh G))) (g_nu G + 1)
      · rw [if_pos ((nI_ltI (by omega) (by omega)).mpr y), Nat.max_eq_right (by omega)]
      · rw [if_neg (fun h => y ((nI_ltI (by omega) (by omega)).mp h)), Nat.max_eq_left (by omega)]
    rw [mx]
  refine ⟨_, ev, ?_, fun c hc => ?_⟩
  · obtain ⟨b6, b7, b8, b9, c1, c2, c3, c4, c5, c6⟩ := V7
    have n9 : ∀ (c : Nat) (v : Value), c ≠ f → bs_up m7 f 9 v c = m7 c := fun c v hc => bs_up_f hc
    refine ⟨by rw [bs_up_j (by decide)]; exact b6, by rw [bs_up_j (by decide)]; exact b7, by rw [bs_up_j (by decide)]; exact b8, by rw [bs_up_eq]; rfl, c1.of (n9 _ _ (by omega)), c2.of (n9 _ _ (by omega)), c3.of (n9 _ _ (by omega)), c4.of (n9 _ _ (by omega)), c5.of (n9 _ _ (by omega)), c6.of (n9 _ _ (by omega))⟩
  · rw [bs_up_f (by omega), hm7, bs_up_f (by omega), hm6, bs_up_f (by omega), hm5, bs_up_f (by omega), hm4, bs_up_f (by omega), hm3, bs_up_f (by omega), hm2, bs_up_f (by omega), hm1, bs_up_f (by omega)]
/-- a balloon more -/
def g_sb (G : bs_G) (s : Nat) : bs_G := ((g_nb G + 1, g_nu G, g_np G, g_mh G), bs_fn (g_so G) (g_nb G) s, G.2.2)
theorem sf_stG {x f s : Nat} {mu : bs_Mm} {G : bs_G} (hV : cFv f G mu) (h : g_nb G < 6) : ∃ mu', FX1_startBalloon x f mu (nI s) = some mu' ∧ cFv f (g_sb G s) mu' ∧ ∀ c, (c < f ∨ f + 6 < c) → mu' c = mu c := by
  obtain ⟨v6, v7, v8, v9, w1, w2, w3, w4, w5, w6⟩ := id hV
  have z1 : ∀ v, bs_up mu (f + 1) (g_nb G) v f = mu f := fun v => bs_up_f (by omega)
  refine ⟨bs_up (bs_up mu (f + 1) (g_nb G) (.int (nI s))) f 6 (.int (nI (g_nb G + 1))), ?_, ?_, fun c hc => by rw [bs_up_f (by omega), bs_up_f (by omega)]⟩
  · unfold FX1_startBalloon
    rw [v6, if_neg (fun h2 => by have := (nI_leI (by omega) (by omega)).mp h2; omega), fn_in h (by decide), fg_gd_t, fn_cl (by omega), fg_wr_s, z1, v6, fn_add, fg_wr_s]
  · have n9 : ∀ (c : Nat), c ≠ f → c ≠ f + 1 → bs_up (bs_up mu (f + 1) (g_nb G) (.int (nI s))) f 6 (.int (nI (g_nb G + 1))) c = mu c := fun c hc hd => by rw [bs_up_f hc, bs_up_f hd]
    have nf : ∀ j, j ≠ 6 → bs_up (bs_up mu (f + 1) (g_nb G) (.int (nI s))) f 6 (.int (nI (g_nb G + 1))) f j = mu f j := fun j hj => by rw [bs_up_j hj, z1]
    refine ⟨by rw [bs_up_eq]; rfl, by rw [nf 7 (by decide)]; exact v7, by rw [nf 8 (by decide)]; exact v8, by rw [nf 9 (by decide)]; exact v9, ?_, w2.of (n9 _ (by omega) (by omega)), w3.of (n9 _ (by omega) (by omega)), w4.of (n9 _ (by omega) (by omega)), w5.of (n9 _ (by omega) (by omega)), w6.of (n9 _ (by omega) (by omega))⟩
    exact (w1.push s).of (bs_up_f (by omega))
/-- an empty figure of n points -/
def g_em (n : Nat) : bs_G := ((0, 0, n, 0), (fun _ => 0), (fun _ => 0), (fun _ => 0), (fun _ => 0), fun _ => 0)
theorem sf_clear {x f : Nat} {mu : bs_Mm} : ∃ mu', FX1_clear x f mu = some mu' ∧ (∀ n, n ≤ 30 → cFv f (g_em n) (bs_up mu' f 8 (.int (nI n)))) ∧ cFv f (g_em 0) mu' ∧ ∀ c, c ≠ f → c ≠ f + 6 → mu' c = mu c := by
  obtain ⟨m1, hm1⟩ : ∃ m, m = bs_fi mu (f + 6) 30 (.int (nI 0)) := ⟨_, rfl⟩
  have fi : ∀ j, j < 30 → bs_iv (m1 (f + 6) j) = nI 0 := fun j hj => by
    have : m1 (f + 6) j = .int (nI 0) := by rw [hm1]; simp [bs_fi, hj]
    rw [this]
    rfl
  have en : ∀ n p, g_en (g_em n) p = 0 := fun n p => rfl
  have ex : ∀ v n, n ≤ 30 → cFv f (g_em n) (bs_up (bs_up (bs_up (bs_up (bs_up m1 f 6 (.int (nI 0))) f 7 (.int (nI 0))) f 8 v) f 9 (.int (nI 0))) f 8 (.int (nI n))) := by
    intro v n hn
    refine ⟨?_, ?_, ?_, ?_, fun j hj => absurd hj (Nat.not_lt_zero j), fun j hj => absurd hj (Nat.not_lt_zero j), fun j hj => absurd hj (Nat.not_lt_zero j), fun j hj => absurd hj (Nat.not_lt_zero j), fun j hj => absurd hj (Nat.not_lt_zero j), fun j hj => ?_⟩
    · rw [bs_up_j (by decide), bs_up_j (by decide), bs_up_j (by decide), bs_up_j (by decide), bs_up_eq]; rfl
    · rw [bs_up_j (by decide), bs_up_j (by decide), bs_up_j (by decide), bs_up_eq]; rfl
    · rw [bs_up_eq]; rfl
    · rw [bs_up_j (by decide), bs_up_eq]; rfl
    · have hj : j < n := hj
      rw [en, bs_up_f (by omega), bs_up_f (by omega), bs_up_f (by omega), bs_up_f (by omega), bs_up_f (by omega)]
      exact fi j (by omega)
  refine ⟨bs_up (bs_up (bs_up (bs_up m1 f 6 (.int (nI 0))) f 7 (.int (nI 0))) f 8 (.int (nI 0))) f 9 (.int (nI 0)), ?_, fun n hn => ex _ n hn, ?_, fun c h1 h2 => by rw [bs_up_f h1, bs_up_f h1, bs_up_f h1, bs_up_f h1, hm1, bs_fi_f h2]⟩
  · unfold FX1_clear
    rw [fg_wf_s, fg_wr_s, fg_wr_s, fg_wr_s, fg_wr_s, ← hm1]
  · refine ⟨?_, ?_, ?_, ?_, fun j hj => absurd hj (Nat.not_lt_zero j), fun j hj => absurd hj (Nat.not_lt_zero j), fun j hj => absurd hj (Nat.not_lt_zero j), fun j hj => absurd hj (Nat.not_lt_zero j), fun j hj => absurd hj (Nat.not_lt_zero j), fun j hj => absurd hj (Nat.not_lt_zero j)⟩
    · rw [bs_up_j (by decide), bs_up_j (by decide), bs_up_j (by decide), bs_up_eq]; rfl
    · rw [bs_up_j (by decide), bs_up_j (by decide), bs_up_eq]; rfl
    · rw [bs_up_j (by decide), bs_up_eq]; rfl
    · rw [bs_up_eq]; rfl
