/-! READING A FIGURE (own): a bubble more, both sides -/
def rf_H (s : rf_S) : bs_G := ((g_nb (rf_g s), g_nu (rf_g s), g_np (rf_g s) + 1, g_mh (rf_g s)), (rf_R (rf_g s) (rf_r s)).2)
def rf_mh (s : rf_S) (v : Nat) : Nat := max (g_mh (rf_g s)) (g_sm (g_sl (g_bb0 (rf_H s) v (rf_r s (rf_w s)) (g_np (rf_g s)) 0)) (g_nu (rf_g s) + 1))
def rf_Bg (s : rf_S) (v h : Nat) : bs_G := ((g_nb (rf_g s), g_nu (rf_g s) + 1, g_np (rf_g s) + 1, h), g_so (rf_g s), bs_fn (g_le (rf_g s)) (g_nu (rf_g s)) v, bs_fn (g_fr (rf_g s)) (g_nu (rf_g s)) (rf_w s), bs_fn (g_to (rf_g s)) (g_nu (rf_g s)) (g_np (rf_g s)), bs_fn (g_bo (rf_g s)) (g_nu (rf_g s)) (g_nb (rf_g s) - 1))
def rf_Br (s : rf_S) (z : Nat) : Nat := if z = g_np (rf_g s) then g_np (rf_g s) else rf_r s z
def rf_B (s : rf_S) (v : Nat) : rf_S := (rf_Bg s v (rf_mh s v), rf_Br s, rf_n s, g_np (rf_g s), rf_d s, rf_k s)
theorem rf_Br_o {s : rf_S} {z : Nat} (h : z < g_np (rf_g s)) : rf_Br s z = rf_r s z := if_neg (by omega)
theorem rf_Br_n (s : rf_S) : rf_Br s (g_np (rf_g s)) = g_np (rf_g s) := if_pos rfl
/-- the same figure, told twice -/
theorem rf_B_eq {s : rf_S} (h : rf_ok s) (v h0 : Nat) : ∀ j, j < g_nu (rf_g s) + 1 → g_le (rf_R (rf_Bg s v h0) (rf_Br s)) j = g_le (g_bb0 (rf_H s) v (rf_r s (rf_w s)) (g_np (rf_g s)) h0) j ∧ g_fr (rf_R (rf_Bg s v h0) (rf_Br s)) j = g_fr (g_bb0 (rf_H s) v (rf_r s (rf_w s)) (g_np (rf_g s)) h0) j ∧ g_to (rf_R (rf_Bg s v h0) (rf_Br s)) j = g_to (g_bb0 (rf_H s) v (rf_r s (rf_w s)) (g_np (rf_g s)) h0) j ∧ g_bo (rf_R (rf_Bg s v h0) (rf_Br s)) j = g_bo (g_bb0 (rf_H s) v (rf_r s (rf_w s)) (g_np (rf_g s)) h0) j := by
  obtain ⟨h1, h2, h3, h4, h5, h6, h7, h8, h9, h10, h11, h12⟩ := h
  intro j hj
  refine ⟨rfl, ?_, ?_, rfl⟩
  · show rf_Br s (bs_fn (g_fr (rf_g s)) (g_nu (rf_g s)) (rf_w s) j) = bs_fn (fun i => rf_r s (g_fr (rf_g s) i)) (g_nu (rf_g s)) (rf_r s (rf_w s)) j
    by_cases e : j = g_nu (rf_g s)
    · subst e
      rw [bs_fn_s, bs_fn_s, rf_Br_o h5]
    · rw [bs_fn_n e, bs_fn_n e, rf_Br_o (h3 j (by omega)).1]
  · show rf_Br s (bs_fn (g_to (rf_g s)) (g_nu (rf_g s)) (g_np (rf_g s)) j) = bs_fn (fun i => rf_r s (g_to (rf_g s) i)) (g_nu (rf_g s)) (g_np (rf_g s)) j
    by_cases e : j = g_nu (rf_g s)
    · subst e
      rw [bs_fn_s, bs_fn_s, rf_Br_n]
    · rw [bs_fn_n e, bs_fn_n e, rf_Br_o (h3 j (by omega)).2]
theorem g_sl_cg {A B : bs_G} (hn : g_nu A = g_nu B) (e : ∀ j, j < g_nu A → g_fr A j = g_fr B j ∧ g_to A j = g_to B j ∧ g_bo A j = g_bo B j) : ∀ i, i < g_nu A → g_sl A i = g_sl B i := by
  intro i hi
  have en : ∀ p, g_en A p = g_en B p := fun p => by
    show g_sm (fun i => g_if (g_fr A i = p) + g_if (g_to A i = p)) (g_nu A) = g_sm (fun i => g_if (g_fr B i = p) + g_if (g_to B i = p)) (g_nu B)
    rw [← hn]
    exact g_sm_cg _ fun j hj => by rw [(e j hj).1, (e j hj).2.1]
  have tw : g_tw A i = g_tw B i := by
    refine g_if_congr ?_
    constructor
    · intro h
      exact ⟨by omega, by rw [← (e i hi).2.2, ← (e (i + 1) h.1).2.2]; exact h.2⟩
    · intro h
      have h1 : i + 1 < g_nu A := by omega
      exact ⟨h1, by rw [(e i hi).2.2, (e (i + 1) h1).2.2]; exact h.2⟩
  refine g_if_congr ?_
  rw [tw, en, (e i hi).2.1]
theorem g_sm30 {h : Nat → Nat} {n : Nat} (hh : ∀ i, i < n → h i ≤ 30) : g_sm h n ≤ 30 * n := Nat.le_trans (g_sm_mono (k := fun _ => 30) n hh) (g_sm_le (fun _ => Nat.le_refl _) n)
theorem rf_mh_le {s : rf_S} (h : rf_ok s) (hn : g_nu (rf_g s) < 24) (v : Nat) : rf_mh s v ≤ 24 := by
  have a := g_bn h.1
  have b := g_sm1 (h := g_sl (g_bb0 (rf_H s) v (rf_r s (rf_w s)) (g_np (rf_g s)) 0)) (fun i => g_sl_le _ i) (g_nu (rf_g s) + 1)
  have c : g_mh (rf_R (rf_g s) (rf_r s)) = g_mh (rf_g s) := rfl
  unfold rf_mh
  omega
theorem rf_ok_g {s : rf_S} (h : rf_ok s) (hn : g_nu (rf_g s) < 24) {v : Nat} (h1 : 1 ≤ v) (h2 : v ≤ 30) (h0 : Nat) (hh : h0 ≤ 24) : g_ok (rf_R (rf_Bg s v h0) (rf_Br s)) := by
  have q0 := g_bn h.1
  obtain ⟨a1, a2, a3, a4, a5, a6, a7, a8, a9, a10, a11, a12⟩ := h
  have b1 : g_nb (rf_g s) ≤ 6 := q0.1
  refine ⟨b1, show g_nu (rf_g s) + 1 ≤ 24 by omega, show g_np (rf_g s) + 1 ≤ 30 by omega, fun i hi => ?_, a1.2.2.2.2.1, fun b hb => ?_, hh, fun i hi => ?_⟩
  · have hi : i < g_nu (rf_g s) + 1 := hi
    show rf_Br s (bs_fn (g_fr (rf_g s)) (g_nu (rf_g s)) (rf_w s) i) < g_np (rf_g s) + 1 ∧ rf_Br s (bs_fn (g_to (rf_g s)) (g_nu (rf_g s)) (g_np (rf_g s)) i) < g_np (rf_g s) + 1 ∧ bs_fn (g_bo (rf_g s)) (g_nu (rf_g s)) (g_nb (rf_g s) - 1) i < g_nb (rf_g s)
    by_cases e : i = g_nu (rf_g s)
    · subst e
      have := (a8 _ a5).1
      rw [bs_fn_s, bs_fn_s, bs_fn_s, rf_Br_o a5, rf_Br_n]
      omega
    · have c := a3 i (by omega)
      have d1 := (a8 _ c.1).1
      have d2 := (a8 _ c.2).1
      have d3 : g_bo (rf_g s) i < g_nb (rf_g s) := (a1.2.2.2.1 i (show i < g_nu (rf_g s) by omega)).2.2
      rw [bs_fn_n e, bs_fn_n e, bs_fn_n e, rf_Br_o c.1, rf_Br_o c.2]
      omega
  · refine Nat.le_trans (g_sm30 (n := g_nu (rf_g s) + 1) fun i hi => ?_) (by omega)
    show (if bs_fn (g_bo (rf_g s)) (g_nu (rf_g s)) (g_nb (rf_g s) - 1) i = b then bs_fn (g_le (rf_g s)) (g_nu (rf_g s)) v i else 0) ≤ 30
    split
    · by_cases e : i = g_nu (rf_g s)
      · subst e
        rw [bs_fn_s]
        exact h2
      · rw [bs_fn_n e]
        exact (a9 i (by omega)).2
    · omega
  · have hi : i + 1 < g_nu (rf_g s) + 1 := hi
    show bs_fn (g_bo (rf_g s)) (g_nu (rf_g s)) (g_nb (rf_g s) - 1) i ≤ bs_fn (g_bo (rf_g s)) (g_nu (rf_g s)) (g_nb (rf_g s) - 1) (i + 1)
    rw [bs_fn_n (by omega)]
    by_cases e : i + 1 = g_nu (rf_g s)
    · rw [e, bs_fn_s]
      have d3 : g_bo (rf_g s) i < g_nb (rf_g s) := (a1.2.2.2.1 i (show i < g_nu (rf_g s) by omega)).2.2
      omega
    · rw [bs_fn_n e]
      exact a1.2.2.2.2.2.2.2 i (show i + 1 < g_nu (rf_g s) by omega)
theorem rf_ok_B {s : rf_S} (h : rf_ok s) (hn : g_nu (rf_g s) < 24) {v : Nat} (h1 : 1 ≤ v) (h2 : v ≤ 30) : rf_ok (rf_B s v) := by
  have og := rf_ok_g h hn h1 h2 (rf_mh s v) (rf_mh_le h hn v)
  obtain ⟨a1, a2, a3, a4, a5, a6, a7, a8, a9, a10, a11, a12⟩ := h
  refine ⟨og, show g_np (rf_g s) + 1 = g_nb (rf_g s) + (g_nu (rf_g s) + 1) by omega, fun i hi => ?_, fun i p hi hp => ?_, show g_np (rf_g s) < g_np (rf_g s) + 1 by omega, a6, fun k hk => ?_, fun p hp => ?_, fun i hi => ?_, fun i hi he => ?_, fun i hi he => ?_, a12⟩
  · have hi : i < g_nu (rf_g s) + 1 := hi
    show bs_fn (g_fr (rf_g s)) (g_nu (rf_g s)) (rf_w s) i < g_np (rf_g s) + 1 ∧ bs_fn (g_to (rf_g s)) (g_nu (rf_g s)) (g_np (rf_g s)) i < g_np (rf_g s) + 1
    by_cases e : i = g_nu (rf_g s)
    · subst e
      rw [bs_fn_s, bs_fn_s]
      omega
    · have c := a3 i (by omega)
      rw [bs_fn_n e, bs_fn_n e]
      omega
  · have := a4 i p hi hp
    show p < g_np (rf_g s) + 1
    omega
  · have := a7 k hk
    show rf_k s k < g_np (rf_g s) + 1
    omega
  · have hp : p < g_np (rf_g s) + 1 := hp
    show rf_Br s p ≤ p ∧ rf_Br s (rf_Br s p) = rf_Br s p
    by_cases e : p = g_np (rf_g s)
    · subst e
      rw [rf_Br_n, rf_Br_n]
      exact ⟨Nat.le_refl _, rfl⟩
    · have c := a8 p (by omega)
      rw [rf_Br_o (show p < g_np (rf_g s) by omega), rf_Br_o (show rf_r s p < g_np (rf_g s) by omega)]
      exact c
  · have hi : i < g_nu (rf_g s) + 1 := hi
    show 1 ≤ bs_fn (g_le (rf_g s)) (g_nu (rf_g s)) v i ∧ bs_fn (g_le (rf_g s)) (g_nu (rf_g s)) v i ≤ 30
    by_cases e : i = g_nu (rf_g s)
    · subst e
      rw [bs_fn_s]
      exact ⟨h1, h2⟩
    · rw [bs_fn_n e]
      exact a9 i (by omega)
  · have hi : i + 1 < g_nu (rf_g s) + 1 := hi
    have he : bs_fn (g_bo (rf_g s)) (g_nu (rf_g s)) (g_nb (rf_g s) - 1) i = bs_fn (g_bo (rf_g s)) (g_nu (rf_g s)) (g_nb (rf_g s) - 1) (i + 1) := he
    show bs_fn (g_fr (rf_g s)) (g_nu (rf_g s)) (rf_w s) (i + 1) = bs_fn (g_to (rf_g s)) (g_nu (rf_g s)) (g_np (rf_g s)) i
    rw [bs_fn_n (show i ≠ g_nu (rf_g s) by omega)] at he ⊢
    by_cases e : i + 1 = g_nu (rf_g s)
    · rw [e, bs_fn_s] at he ⊢
      exact a11 i e (by omega)
    · rw [bs_fn_n e] at he ⊢
      exact a10 i (by omega) he
  · have hi : i + 1 = g_nu (rf_g s) + 1 := hi
    show g_np (rf_g s) = bs_fn (g_to (rf_g s)) (g_nu (rf_g s)) (g_np (rf_g s)) i
    rw [show i = g_nu (rf_g s) by omega, bs_fn_s]
/-- what makeBubble and startBalloon leave of the ends -/
theorem sf_mkFr {x f l a t : Nat} {mu mu' : bs_Mm} (ha : a < 30) (ht : t < 30) (h : FX1_makeBubble x f mu (nI l) (nI a) (nI t) = some mu') : ∀ p, p ≠ a → p ≠ t → mu' (f + 6) p = mu (f + 6) p := by
  unfold FX1_makeBubble at h
  by_cases c : bs_iv (mu f 7) < nI 24
  · rw [if_pos c] at h
    obtain ⟨-, h⟩ := fg_gdE h
    rw [fg_wr_s] at h
    obtain ⟨-, h⟩ := fg_gdE h
    rw [fg_wr_s] at h
    obtain ⟨-, h⟩ := fg_gdE h
    rw [fg_wr_s] at h
    obtain ⟨-, h⟩ := fg_gdE h
    rw [fg_wr_s] at h
    obtain ⟨-, h⟩ := fg_gdE h
    obtain ⟨-, h⟩ := fg_gdE h
    rw [fg_wr_s] at h
    obtain ⟨-, h⟩ := fg_gdE h
    obtain ⟨-, h⟩ := fg_gdE h
    rw [fg_wr_s, fg_wr_s] at h
    obtain ⟨v, -, h⟩ := fg_bdE h
    rw [fg_wr_s, fn_cl (show a < 2 ^ 31 by omega), fn_cl (show t < 2 ^ 31 by omega)] at h
    intro p pa pt
    rw [← Option.some.inj h, bs_up_f (by omega), bs_up_f (by omega), bs_up_j pt, bs_up_j pa, bs_up_f (by omega), bs_up_f (by omega), bs_up_f (by omega), bs_up_f (by omega)]
  · rw [if_neg c] at h
    intro p _ _
    rw [Option.some.inj h]
theorem sf_stFr {x f : Nat} {s : Int32} {mu mu' : bs_Mm} (h : FX1_startBalloon x f mu s = some mu') : mu' (f + 6) = mu (f + 6) := by
  unfold FX1_startBalloon at h
  by_cases c : nI 6 ≤ bs_iv (mu f 6)
  · rw [if_pos c] at h
    rw [Option.some.inj h]
  · rw [if_neg c] at h
    obtain ⟨-, h⟩ := fg_gdE h
    rw [fg_wr_s, fg_wr_s] at h
    rw [← Option.some.inj h, bs_up_f (by omega), bs_up_f (by omega)]
theorem sf_np {x : Nat} {n : Nat} {mu : bs_Mm} (h : bs_iv (mu (x + 10) 8) = nI n) (hn : n < 30) : FX2_newPoint x mu = some (nI n, bs_up mu (x + 10) 8 (.int (nI (n + 1)))) := by
  have e : bs_iv (bs_up mu (x + 10) 8 (.int (nI (n + 1))) (x + 10) 8) = nI (n + 1) := by
    rw [bs_up_eq]
    rfl
  unfold FX2_newPoint
  rw [h, if_neg (fun w => by have := (nI_leI (by decide) (by omega)).mp w; omega), fn_add, fg_wr_s, e, fn_sub (by omega), Nat.add_sub_cancel]
set_option maxHeartbeats 1000000 in
theorem rc_bub {x v : Nat} {s : rf_S} {mu : bs_Mm} (hok : rf_ok s) (hc : rf_c x s mu) (hn : g_nu (rf_g s) < 24) (h9 : bs_iv (mu (x + 9) 9) = nI v) (h1 : 1 ≤ v) (h2 : v ≤ 30) : ∃ mu', FX2_makesBubble x mu = some (nI 1, mu') ∧ rf_c x (rf_B s v) mu' ∧ bs_iv (mu' (x + 9) 10) = nI 0 ∧ (∀ k, k ≠ 6 → k ≠ 10 → mu' (x + 9) k = mu (x + 9) k) ∧ cfr x mu mu' := by
  obtain ⟨a1, a2, a3, a4, a5, a6, a7, a8, a9, a10, a11, a12⟩ := id hok
  have q0 := g_bn a1
  have q1 : g_nb (rf_g s) ≤ 6 := q0.1
  obtain ⟨c1, c2, c3, c4, c5, c6, c7⟩ := id hc
  have np30 : g_np (rf_g s) < 30 := by omega
  have e8 : bs_iv (mu (x + 10) 8) = nI (g_np (rf_g s)) := c1.2.2.1
  obtain ⟨m1, hm1⟩ : ∃ y, y = bs_up mu (x + 10) 8 (.int (nI (g_np (rf_g s) + 1))) := ⟨_, rfl⟩
  have f1 : ∀ a, a ≠ x + 10 → m1 a = mu a := fun a ha => by rw [hm1, bs_up_f ha]
  have rw1 := (a8 _ a5).1
  have V1 : cFv (x + 10) (rf_H s) m1 := by
    obtain ⟨v6, v7, v8, v9, w1, w2, w3, w4, w5, w6⟩ := c1
    refine ⟨by rw [hm1, bs_up_j (by decide)]; exact v6, by rw [hm1, bs_up_j (by decide)]; exact v7, by rw [hm1, bs_up_eq]; rfl, by rw [hm1, bs_up_j (by decide)]; exact v9, w1.of (f1 _ (by omega)), w2.of (f1 _ (by omega)), w3.of (f1 _ (by omega)), w4.of (f1 _ (by omega)), w5.of (f1 _ (by omega)), fun p hp => ?_⟩
    have hp : p < g_np (rf_g s) + 1 := hp
    rw [f1 _ (by omega)]
    exact c7 p (by omega)
  have oH : g_ok (rf_H s) := by
    refine ⟨a1.1, a1.2.1, show g_np (rf_g s) + 1 ≤ 30 by omega, fun i hi => ?_, a1.2.2.2.2.1, a1.2.2.2.2.2.1, a1.2.2.2.2.2.2.1, a1.2.2.2.2.2.2.2⟩
    have b := a1.2.2.2.1 i hi
    exact ⟨Nat.lt_succ_of_lt b.1, Nat.lt_succ_of_lt b.2.1, b.2.2⟩
  have mhl := rf_mh_le hok hn v
  have eq := rf_B_eq hok v (g_mh (rf_g s))
  have og := rf_ok_g hok hn h1 h2 (g_mh (rf_g s)) q0.2.2.2
  have o2 : g_ok (g_bb0 (rf_H s) v (rf_r s (rf_w s)) (g_np (rf_g s)) (g_mh (rf_H s))) := by
    refine ⟨og.1, og.2.1, og.2.2.1, fun i hi => ?_, og.2.2.2.2.1, fun b hb => ?_, og.2.2.2.2.2.2.1, fun i hi => ?_⟩
    · have e := eq i hi
      show g_fr (g_bb0 (rf_H s) v (rf_r s (rf_w s)) (g_np (rf_g s)) (g_mh (rf_g s))) i < _ ∧ g_to (g_bb0 (rf_H s) v (rf_r s (rf_w s)) (g_np (rf_g s)) (g_mh (rf_g s))) i < _ ∧ g_bo (g_bb0 (rf_H s) v (rf_r s (rf_w s)) (g_np (rf_g s)) (g_mh (rf_g s))) i < _
      rw [← e.2.1, ← e.2.2.1, ← e.2.2.2]
      exact og.2.2.2.1 i hi
    · exact og.2.2.2.2.2.1 b hb
    · exact og.2.2.2.2.2.2.2 i hi
  obtain ⟨m2, k1, k2, k3⟩ := sf_mkG (x := x) (l := v) (a := rf_r s (rf_w s)) (t := g_np (rf_g s)) V1 oH hn a12 (show rf_r s (rf_w s) < g_np (rf_g s) + 1 by omega) (show g_np (rf_g s) < g_np (rf_g s) + 1 by omega) o2
  have kf := sf_mkFr (x := x) (f := x + 10) (by omega) (by omega) k1
  have e96 : bs_iv (m1 (x + 9) 6) = nI (rf_r s (rf_w s)) := by rw [f1 _ (by omega)]; exact c5
  have e99 : bs_iv (m1 (x + 9) 9) = nI v := by rw [f1 _ (by omega)]; exact h9
  have eB := rf_B_eq hok v (rf_mh s v)
  obtain ⟨m4, hm4⟩ : ∃ y, y = bs_up (bs_up m2 (x + 9) 6 (.int (nI (g_np (rf_g s))))) (x + 9) 10 (.int (nI 0)) := ⟨_, rfl⟩
  have f4 : ∀ a, a ≠ x + 9 → m4 a = m2 a := fun a ha => by rw [hm4, bs_up_f ha, bs_up_f ha]
  have m2o : ∀ a, (a < x + 10 ∨ x + 16 < a) → m2 a = mu a := fun a ha => by rw [k3 a (by omega), f1 a (by omega)]
  have VB : cFv (x + 10) (rf_R (rf_g (rf_B s v)) (rf_r (rf_B s v))) m2 := cFv_cg k2 rfl (fun j hj => rfl) (fun j hj => rfl) (fun j hj => (eB j hj).2.1.symm) (fun j hj => (eB j hj).2.2.1.symm) fun j hj => rfl
  have enB : ∀ p, g_en (rf_R (rf_g (rf_B s v)) (rf_r (rf_B s v))) p = g_en (rf_R (rf_g s) (rf_r s)) p + (g_if (rf_r s (rf_w s) = p) + g_if (g_np (rf_g s) = p)) := fun p => by
    have := g_bb0_en (rf_H s) v (rf_r s (rf_w s)) (g_np (rf_g s)) (rf_mh s v) p
    rw [show g_en (rf_R (rf_g s) (rf_r s)) p = g_en (rf_H s) p from rfl, ← this]
    exact g_sm_cg _ fun i hi => by rw [← (eB i hi).2.1, ← (eB i hi).2.2.1]; rfl
  refine ⟨m4, ?_, ⟨cFv_of VB fun k hk => f4 _ (by omega), fun p hp => ?_, fun i hi => ?_, fun k hk => ?_, ?_, ?_, fun p hp => ?_⟩, by rw [hm4, bs_up_eq]; rfl, fun k h6 h10 => by rw [hm4, bs_up_j h10, bs_up_j h6, m2o _ (by omega)], fun a ha => by rw [f4 a (by omega), m2o a (by omega)]⟩
  · unfold FX2_makesBubble
    rw [h9, if_neg (fun w => by have := (nI_ltI (by omega) (by decide)).mp w; omega), if_pos ((nI_leI (by omega) (by decide)).mpr h2), sf_np e8 np30, fg_b2_s, ← hm1, e99, e96, k1, fg_bd_s, fg_wr_s, fg_wr_s, ← hm4]
  · show bs_iv (m4 (x + 17) p) = if p < g_np (rf_g s) + 1 ∧ rf_Br s p ≠ p then -1 else nI 0
    rw [f4 _ (by omega), m2o _ (by omega), c2 p hp]
    by_cases e : p = g_np (rf_g s)
    · subst e
      rw [if_neg (fun h => absurd h.1 (Nat.lt_irrefl _)), if_neg (fun h => h.2 (rf_Br_n s))]
    · by_cases d : p < g_np (rf_g s)
      · rw [rf_Br_o d]
        by_cases u : rf_r s p ≠ p
        · rw [if_pos ⟨d, u⟩, if_pos ⟨by omega, u⟩]
        · rw [if_neg (fun h => u h.2), if_neg (fun h => u h.2)]
      · rw [if_neg (fun h => d h.1), if_neg (fun h => by omega)]
  · show bs_iv (m4 (x + 18) i) = rf_nv (rf_Br s) (rf_n s i)
    rw [f4 _ (by omega), m2o _ (by omega), c3 i hi]
    cases c : rf_n s i with
    | none => rfl
    | some z =>
      show nI (rf_r s z) = nI (rf_Br s z)
      rw [rf_Br_o (a4 i z hi c)]
  · show bs_iv (m4 (x + 19) k) = nI (rf_Br s (rf_k s k))
    have hk : k < rf_d s := hk
    rw [f4 _ (by omega), m2o _ (by omega), c4 k hk, rf_Br_o (a7 k hk)]
  · show bs_iv (m4 (x + 9) 6) = nI (rf_Br s (g_np (rf_g s)))
    rw [rf_Br_n, hm4, bs_up_j (by decide), bs_up_eq]
    rfl
  · show bs_iv (m4 (x + 9) 7) = nI (rf_d s)
    rw [hm4, bs_up_j (by decide), bs_up_j (by decide), m2o _ (by omega)]
    exact c6
  · rw [f4 _ (by omega)]
    by_cases e : p < g_np (rf_g s) + 1
    · exact VB.2.2.2.2.2.2.2.2.2 p e
    · rw [enB, g_if0 (p := rf_r s (rf_w s) = p) (by omega), g_if0 (p := g_np (rf_g s) = p) (by omega)]
      have := kf p (by omega) (by omega)
      rw [show x + 10 + 6 = x + 16 by omega] at this
      rw [this, f1 _ (by omega)]
      exact c7 p hp
