/-! PLAIN of the class (own) -/
theorem bs_fn_id (h : Nat → Nat) (k : Nat) : bs_fn h k (h k) = h := funext fun j => by
  by_cases e : j = k
  · subst e
    exact bs_fn_s
  · exact bs_fn_n e
theorem cFv_cg {f : Nat} {G H : bs_G} {mu : bs_Mm} (h : cFv f G mu) (e : G.1 = H.1) (e1 : ∀ j, j < g_nb G → g_so G j = g_so H j) (e2 : ∀ j, j < g_nu G → g_le G j = g_le H j) (e3 : ∀ j, j < g_nu G → g_fr G j = g_fr H j) (e4 : ∀ j, j < g_nu G → g_to G j = g_to H j) (e5 : ∀ j, j < g_nu G → g_bo G j = g_bo H j) : cFv f H mu := by
  obtain ⟨v6, v7, v8, v9, w1, w2, w3, w4, w5, w6⟩ := h
  have a1 : g_nb H = g_nb G := congrArg (fun z => z.1) e.symm
  have a2 : g_nu H = g_nu G := congrArg (fun z => z.2.1) e.symm
  have a3 : g_np H = g_np G := congrArg (fun z => z.2.2.1) e.symm
  have a4 : g_mh H = g_mh G := congrArg (fun z => z.2.2.2) e.symm
  refine ⟨by rw [a1]; exact v6, by rw [a2]; exact v7, by rw [a3]; exact v8, by rw [a4]; exact v9, by rw [a1]; exact bs_rw_cg w1 e1, by rw [a2]; exact bs_rw_cg w2 e2, by rw [a2]; exact bs_rw_cg w3 e3, by rw [a2]; exact bs_rw_cg w4 e4, by rw [a2]; exact bs_rw_cg w5 e5, ?_⟩
  rw [a3]
  refine bs_rw_cg w6 fun p _ => ?_
  show g_sm (fun i => g_if (g_fr G i = p) + g_if (g_to G i = p)) (g_nu G) = g_sm (fun i => g_if (g_fr H i = p) + g_if (g_to H i = p)) (g_nu H)
  rw [a2]
  exact g_sm_cg _ fun i hi => by rw [e3 i hi, e4 i hi]
/-- a figure as far as it is built: b balloons, c bubbles -/
def g_pq (T : bs_G) (b c : Nat) : bs_G := ((b, c, g_np T, g_hn T c), T.2)
theorem g_pq_ok {T : bs_G} (h : g_ok T) {b c : Nat} (hb : b ≤ g_nb T) (hc : c ≤ g_nu T) (hB : ∀ i, i < c → g_bo T i < b) (mh : Nat) (hm : mh ≤ 24) : g_ok ((b, c, g_np T, mh), T.2) := by
  have q0 := g_bn h
  refine ⟨show b ≤ 6 by omega, show c ≤ 24 by omega, q0.2.2.1, fun i hi => ?_, fun k hk => h.2.2.2.2.1 k (Nat.lt_of_lt_of_le hk hb), fun k hk => ?_, hm, fun i hi => ?_⟩
  · have hi : i < c := hi
    have b1 := g_bd h (i := i) (by omega)
    exact ⟨b1.1, b1.2.1, hB i hi⟩
  · exact Nat.le_trans (g_sm_ul _ hc) (h.2.2.2.2.2.1 k (Nat.lt_of_lt_of_le hk hb))
  · have hi : i + 1 < c := hi
    exact h.2.2.2.2.2.2.2 i (by omega)
theorem g_pq_b0 {T : bs_G} {b c h : Nat} (h1 : g_bo T c + 1 = b) : g_bb0 (g_pq T b c) (g_le T c) (g_fr T c) (g_to T c) h = ((b, c + 1, g_np T, h), T.2) := by
  show ((b, c + 1, g_np T, h), g_so T, bs_fn (g_le T) c (g_le T c), bs_fn (g_fr T) c (g_fr T c), bs_fn (g_to T) c (g_to T c), bs_fn (g_bo T) c (b - 1)) = _
  rw [show b - 1 = g_bo T c by omega, bs_fn_id, bs_fn_id, bs_fn_id, bs_fn_id]
  rfl
theorem g_pq_bb {T : bs_G} {b c : Nat} (h1 : g_bo T c + 1 = b) : g_bb (g_pq T b c) (g_le T c) (g_fr T c) (g_to T c) = g_pq T b (c + 1) := by
  unfold g_bb
  rw [g_pq_b0 h1, g_pq_b0 h1]
  rfl
theorem sf_mkT {x f b c : Nat} {mu : bs_Mm} {T : bs_G} (hT : g_ok T) (hV : cFv f (g_pq T b c) mu) (hc : c < g_nu T) (hb : b ≤ g_nb T) (h1 : g_bo T c + 1 = b) (hB : ∀ i, i < c → g_bo T i < b) : ∃ mu', FX1_makeBubble x f mu (nI (g_le T c)) (nI (g_fr T c)) (nI (g_to T c)) = some mu' ∧ cFv f (g_pq T b (c + 1)) mu' ∧ ∀ a, (a < f ∨ f + 6 < a) → mu' a = mu a := by
  have q0 := g_bn hT
  have b1 := g_bd hT hc
  have hh := g_hn_le T c
  have o1 := g_pq_ok hT hb (show c ≤ g_nu T by omega) hB (g_hn T c) (by omega)
  have o2 := g_pq_ok hT hb (show c + 1 ≤ g_nu T by omega) (fun i hi => by
    by_cases e : i = c
    · subst e
      omega
    · exact hB i (by omega)) (g_hn T c) (by omega)
  have key := sf_mkG (x := x) (l := g_le T c) (a := g_fr T c) (t := g_to T c) hV o1 (show c < 24 by omega) (show 1 ≤ b by omega) b1.1 b1.2.1 (by rw [g_pq_b0 h1]; exact o2)
  rw [g_pq_bb h1] at key
  exact key
theorem sf_stT {x f b c : Nat} {mu : bs_Mm} {T : bs_G} (hT : g_ok T) (hV : cFv f (g_pq T b c) mu) (hb : b < g_nb T) : ∃ mu', FX1_startBalloon x f mu (nI (g_so T b)) = some mu' ∧ cFv f (g_pq T (b + 1) c) mu' ∧ ∀ a, (a < f ∨ f + 6 < a) → mu' a = mu a := by
  have q0 := g_bn hT
  have key := sf_stG (x := x) (s := g_so T b) hV (show b < 6 by omega)
  have e : g_sb (g_pq T b c) (g_so T b) = g_pq T (b + 1) c := by
    show ((b + 1, c, g_np T, g_hn T c), bs_fn (g_so T) b (g_so T b), T.2.2) = _
    rw [bs_fn_id]
    rfl
  rw [e] at key
  exact key
/-- the row of new numbers -/
def pl_w (G : bs_G) (q : Nat) : Int32 := if pl_g G q = true then -1 else nI (pl_n G q)
theorem pl_kn1 {G : bs_G} {n : Nat} (hn : n < g_nu G) (z : g_sl G n = 0) : pl_k G n < pl_k G (g_nu G) := by
  have a := pl_kl (G := G) (show n + 1 ≤ g_nu G by omega)
  rw [pl_k1 z] at a
  omega
theorem pl_B {G : bs_G} {b n : Nat} (hn : n ≤ g_nu G) (h : ∀ i, i < n → g_bo G i < b) : ∀ c, c < pl_k G n → g_bo (pl_T G) c < b := by
  intro c hc
  obtain ⟨i, i1, i2, i3⟩ := pl_ix n c hc
  subst i3
  rw [pl_Tbo (by omega) i2]
  exact h i i1
set_option maxHeartbeats 1000000 in
theorem sf_tbB {x f p b n0 : Nat} {mu : bs_Mm} {G : bs_G} (hI : g_iv G) (hfp : f + 6 < p ∨ p + 6 < f) (hx : x + 62 < f) (hV : cFv p G mu) (hN : ∀ q, q < g_np G → bs_iv (mu (x + 62) q) = pl_w G q) (hT : cFv f (g_pq (pl_T G) (b + 1) (pl_k G n0)) mu) (hb : b < g_nb G) (h1 : ∀ i, i < n0 → g_bo G i < b) (h2 : ∀ i, n0 ≤ i → i < g_nu G → b ≤ g_bo G i) (hn : n0 ≤ g_nu G) (hm : pl_m G n0 = 0) (hs : pl_s G n0 = n0) : ∃ n1 mu', FX1_turnBalloonBack x f mu p (nI b) (nI n0) (x + 62) = some (nI n1, mu') ∧ cFv f (g_pq (pl_T G) (b + 1) (pl_k G n1)) mu' ∧ (∀ a, (a < f ∨ f + 6 < a) → mu' a = mu a) ∧ n1 ≤ g_nu G ∧ (∀ i, i < n1 → g_bo G i < b + 1) ∧ (∀ i, n1 ≤ i → i < g_nu G → b + 1 ≤ g_bo G i) ∧ pl_m G n1 = 0 ∧ pl_s G n1 = n1 := by
  have hG := hI.1
  have q0 := g_bn hG
  have oT := (pl_iv hI).1
  have nT : g_nu (pl_T G) = pl_k G (g_nu G) := rfl
  have bT : g_nb (pl_T G) = g_nb G := rfl
  refine Exists.elim (fg_lp_i (body := FX1_turnBalloonBack_b9 x f p (x + 62) (nI b) (nI n0)) (fun r s => ∃ n, s.1 = nI (pl_m G n) ∧ s.2.1 = nI (pl_s G n) ∧ s.2.2.1 = nI n ∧ n + r = g_nu G ∧ n0 ≤ n ∧ (∀ i, i < n → g_bo G i < b + 1) ∧ (n0 < n → g_bo G (n - 1) = b) ∧ cFv f (g_pq (pl_T G) (b + 1) (pl_k G n)) s.2.2.2 ∧ ∀ a, (a < f ∨ f + 6 < a) → s.2.2.2 a = mu a) (fun t => ∃ n1, t.1 = nI n1 ∧ cFv f (g_pq (pl_T G) (b + 1) (pl_k G n1)) t.2 ∧ (∀ a, (a < f ∨ f + 6 < a) → t.2 a = mu a) ∧ n1 ≤ g_nu G ∧ (∀ i, i < n1 → g_bo G i < b + 1) ∧ (∀ i, n1 ≤ i → i < g_nu G → b + 1 ≤ g_bo G i) ∧ pl_m G n1 = 0 ∧ pl_s G n1 = n1) (fun r s hJ => ?_) fg_fu (g_nu G - n0) (nI 0, nI n0, nI n0, mu) ⟨n0, by rw [hm], by rw [hs], rfl, by omega, Nat.le_refl _, fun i hi => by have := h1 i hi; omega, fun h => absurd h (Nat.lt_irrefl _), hT, fun _ _ => rfl⟩ (fg_fu_lt (by omega))) (fun t ht => ?_)
  · obtain ⟨mv, sv, nv, mu1⟩ := s
    obtain ⟨n, e1, e2, e3, hr, hn0, hB, hL, hV1, hf⟩ := hJ
    have e1 : mv = nI (pl_m G n) := e1
    have e2 : sv = nI (pl_s G n) := e2
    have e3 : nv = nI n := e3
    subst e1
    subst e2
    subst e3
    have hV1 : cFv f (g_pq (pl_T G) (b + 1) (pl_k G n)) mu1 := hV1
    have hf : ∀ a, (a < f ∨ f + 6 < a) → mu1 a = mu a := hf
    have hP : cFv p G mu1 := cFv_of hV fun k hk => hf _ (by omega)
    have hN1 : ∀ q, q < g_np G → bs_iv (mu1 (x + 62) q) = pl_w G q := fun q hq => by rw [hf _ (by omega)]; exact hN q hq
    have stop : (∀ i, n ≤ i → i < g_nu G → b + 1 ≤ g_bo G i) → pl_m G n = 0 ∧ pl_s G n = n := by
      intro h
      by_cases c : n0 < n
      · have l1 := hL c
        have z : g_sl G (n - 1) = 0 := by
          rcases g_sl01 G (n - 1) with z | z
          · exact z
          · have t := g_sly z
            rw [show n - 1 + 1 = n by omega] at t
            have := h n (Nat.le_refl _) t.2.1
            omega
        rw [show n = n - 1 + 1 by omega, pl_m, pl_s, if_neg (by omega), if_neg (by omega)]
        exact ⟨rfl, rfl⟩
      · rw [show n = n0 by omega]
        exact ⟨hm, hs⟩
    by_cases z : g_nu G ≤ n
    · have s1 : ∀ i, n ≤ i → i < g_nu G → b + 1 ≤ g_bo G i := fun i h1 h2 => by omega
      refine Or.inr ⟨(nI n, mu1), ?_, n, rfl, hV1, hf, by omega, hB, s1, stop s1⟩
      unfold FX1_turnBalloonBack_b9
      simp (disch := omega) only [fg_gd_t, fg_bd_s, fg_b2_s, fg_wr_s, fg_let_s, fn_add, fn_sub, fn_mul, fn_cl, fn_lt, fn_le, fn_eq, fn_eq0, fn_lt0, fn_0le, fn_0lt, fn_le0, fn_in, fn_shl, fn_shr, fa_and, fa_or, bs_xorI, if_true, if_false, hP.2.1, if_pos z]
    · have hn1 : n < g_nu G := by omega
      have b1 := g_bd hG hn1
      have bo1 := hP.2.2.2.2.2.2.2.2.1 n hn1
      by_cases y : g_bo G n = b
      · have slB := sf_slB (x := x) hP hG (show n < 2 ^ 30 by omega)
        have le1 := hP.2.2.2.2.2.1 n hn1
        have to1 := hP.2.2.2.2.2.2.2.1 n hn1
        have ss := (pl_s0 (G := G) n).1
        have b2 := g_bd hG (show pl_s G n < g_nu G by omega)
        have fr1 := hP.2.2.2.2.2.2.1 (pl_s G n) (by omega)
        have hB1 : ∀ i, i < n + 1 → g_bo G i < b + 1 := fun i hi => by
          by_cases e : i = n
          · subst e
            omega
          · exact hB i (by omega)
        rcases g_sl01 G n with w | w
        · have n1 : bs_iv (mu1 (x + 62) (g_fr G (pl_s G n))) = nI (pl_n G (g_fr G (pl_s G n))) := by rw [hN1 _ b2.1, pl_w, if_neg (by rw [pl_lf hI.2.1 hn1]; decide)]
          have n2 : bs_iv (mu1 (x + 62) (g_to G n)) = nI (pl_n G (g_to G n)) := by rw [hN1 _ b1.2.1, pl_w, if_neg (by rw [pl_lt hI.2.1 hn1 w]; decide)]
          obtain ⟨mu2, k1, k2, k3⟩ := sf_mkT (x := x) oT hV1 (show pl_k G n < g_nu (pl_T G) by rw [nT]; exact pl_kn1 hn1 w) (show b + 1 ≤ g_nb (pl_T G) by rw [bT]; omega) (by rw [pl_Tbo hn1 w, y]) (pl_B (by omega) hB)
          rw [pl_Tle hn1 w, pl_Tfr hn1 w, pl_Tto hn1 w] at k1
          rw [← pl_k1 w] at k2
          refine Or.inl ⟨(nI 0, nI (n + 1), nI (n + 1), mu2), r - 1, ?_, by omega, n + 1, ?_, ?_, rfl, by omega, by omega, hB1, fun _ => y, k2, fun a ha => (k3 a ha).trans (hf a ha)⟩
          · unfold FX1_turnBalloonBack_b9
            simp (disch := omega) only [fg_gd_t, fg_bd_s, fg_b2_s, fg_wr_s, fg_let_s, fn_add, fn_sub, fn_mul, fn_cl, fn_lt, fn_le, fn_eq, fn_eq0, fn_lt0, fn_0le, fn_0lt, fn_le0, fn_in, fn_shl, fn_shr, fa_and, fa_or, bs_xorI, if_true, if_false, hP.2.1, if_neg z, bo1, y, slB, w, le1, to1, fr1, n1, n2, k1]
          · show nI 0 = nI (pl_m G (n + 1))
            rw [pl_m, if_neg (by omega)]
          · show nI (n + 1) = nI (pl_s G (n + 1))
            rw [pl_s, if_neg (by omega)]
        · refine Or.inl ⟨(nI (pl_m G n + g_le G n), nI (pl_s G n), nI (n + 1), mu1), r - 1, ?_, by omega, n + 1, ?_, ?_, rfl, by omega, by omega, hB1, fun _ => y, ?_, hf⟩
          · unfold FX1_turnBalloonBack_b9
            simp (disch := omega) only [fg_gd_t, fg_bd_s, fg_b2_s, fg_wr_s, fg_let_s, fn_add, fn_sub, fn_mul, fn_cl, fn_lt, fn_le, fn_eq, fn_eq0, fn_lt0, fn_0le, fn_0lt, fn_le0, fn_in, fn_shl, fn_shr, fa_and, fa_or, bs_xorI, if_true, if_false, hP.2.1, if_neg z, bo1, y, slB, w, le1, if_neg (show ¬ (1 : Nat) = 0 by decide)]
          · show nI (pl_m G n + g_le G n) = nI (pl_m G (n + 1))
            rw [pl_m, if_pos w]
          · show nI (pl_s G n) = nI (pl_s G (n + 1))
            rw [pl_s, if_pos w]
          · rw [pl_k0 w]
            exact hV1
      · have m1 : b < g_bo G n := by
          by_cases c : n0 ≤ n
          · have := h2 n c hn1
            omega
          · omega
        have s1 : ∀ i, n ≤ i → i < g_nu G → b + 1 ≤ g_bo G i := fun i h1 h2 => by
          have := g_bo_ml hG h1 h2
          omega
        refine Or.inr ⟨(nI n, mu1), ?_, n, rfl, hV1, hf, by omega, hB, s1, stop s1⟩
        unfold FX1_turnBalloonBack_b9
        simp (disch := omega) only [fg_gd_t, fg_bd_s, fg_b2_s, fg_wr_s, fg_let_s, fn_add, fn_sub, fn_mul, fn_cl, fn_lt, fn_le, fn_eq, fn_eq0, fn_lt0, fn_0le, fn_0lt, fn_le0, fn_in, fn_shl, fn_shr, fa_and, fa_or, bs_xorI, if_true, if_false, hP.2.1, if_neg z, bo1, if_neg y]
  · obtain ⟨nv, mu1⟩ := t
    obtain ⟨t1, n1, e1, t2, t3, t4, t5, t6, t7⟩ := ht
    have e1 : nv = nI n1 := e1
    subst e1
    refine ⟨n1, mu1, ?_, t2, t3, t4, t5, t6, t7⟩
    unfold FX1_turnBalloonBack
    rw [t1, fg_bd_s]
