/-! READING A FIGURE (own): how the model holds it; a bubble more of the model -/
def rf_nr (o : Option Nat) : Int32 := match o with | none => -1 | some p => nI p
def rf_M (m f : Nat) (s : rf_S) (mu : bs_Mm) : Prop := mB m f (g_nu (rf_g s)) (g_le (rf_g s)) (g_bo (rf_g s)) (g_fr (rf_g s)) (g_to (rf_g s)) mu ∧ bs_iv (mu (m + 6) f) = nI (g_nb (rf_g s)) ∧ (∀ b, b < g_nb (rf_g s) → bs_iv (mu (m + 7) (6 * f + b)) = nI (g_so (rf_g s) b)) ∧ bs_iv (mu (m + 14) f) = nI (g_mh (rf_g s)) ∧ mh_ok m (g_np (rf_g s)) (rf_r s) mu ∧ (∀ i, i < 8 → bs_iv (mu (m + 16) i) = rf_nr (rf_n s i)) ∧ bs_iv (mu m 23) = nI (g_np (rf_g s)) ∧ bs_iv (mu m 24) = nI (rf_w s) ∧ bs_iv (mu m 25) = nI f ∧ bs_iv (mu m 10) = nI (rf_d s)
/-- what may change -/
def mfr (m f : Nat) (mu mu' : bs_Mm) : Prop := (∀ k, k ≠ 8 → k ≠ 9 → k ≠ 10 → k ≠ 23 → k ≠ 24 → mu' m k = mu m k) ∧ mKp m f mu mu'
theorem mfr_rfl (m f : Nat) (mu : bs_Mm) : mfr m f mu mu := ⟨fun _ _ _ _ _ _ => rfl, mKp_rfl m f mu⟩
theorem mfr_tr {m f : Nat} {mu mu1 mu2 : bs_Mm} (h : mfr m f mu mu1) (k : mfr m f mu1 mu2) : mfr m f mu mu2 := ⟨fun j a b c d e => (k.1 j a b c d e).trans (h.1 j a b c d e), mKp_tr h.2 k.2⟩
theorem mfr_m {m f : Nat} {mu mu1 mu2 : bs_Mm} (h : mfr m f mu mu1) (k : ∀ j, j ≠ 8 → j ≠ 9 → j ≠ 10 → j ≠ 23 → j ≠ 24 → mu2 m j = mu1 m j) (c : ∀ a, a ≠ m → mu2 a = mu1 a) : mfr m f mu mu2 := mfr_tr h ⟨k, fun a h1 _ => c a h1, fun a k h1 _ => by rw [c a (by omega)], fun k _ => by rw [c _ (by omega)], fun a k h1 _ _ => by rw [c a (by omega)]⟩
theorem mT_fr {m f n : Nat} {T : Nat → Nat} {mu mu' : bs_Mm} (h : mT m n T mu) (k : mfr m f mu mu') : mT m n T mu' := mT_of h (k.1 7 (by decide) (by decide) (by decide) (by decide) (by decide)) (k.2.1 _ (by omega) (by omega))
theorem rf_M_of {m f : Nat} {s : rf_S} {mu mu' : bs_Mm} (h : rf_M m f s mu) (e : ∀ k, k ≠ 8 → k ≠ 9 → mu' m k = mu m k) (c : ∀ a, a ≠ m → mu' a = mu a) : rf_M m f s mu' := by
  unfold rf_M mB mh_ok
  rw [c (m + 8) (by omega), c (m + 10) (by omega), c (m + 11) (by omega), c (m + 12) (by omega), c (m + 13) (by omega), c (m + 6) (by omega), c (m + 7) (by omega), c (m + 14) (by omega), c (m + 15) (by omega), c (m + 16) (by omega), e 23 (by decide) (by decide), e 24 (by decide) (by decide), e 25 (by decide) (by decide), e 10 (by decide) (by decide)]
  exact h
set_option maxHeartbeats 1000000 in
theorem tf_held {m f : Nat} {G : bs_G} {r : Nat → Nat} {mu : bs_Mm} (hf : f ≤ 12) (hB : mB m f (g_nu G) (g_le G) (g_bo G) (g_fr G) (g_to G) mu) (h25 : bs_iv (mu m 25) = nI f) (hh : mh_ok m (g_np G) r mu) (hG : g_ok (rf_R G r)) (hn : ∀ i, i < g_nu G → g_fr G i < g_np G ∧ g_to G i < g_np G) (hr : ∀ p, p < g_np G → r p ≤ p) : FX12_held m mu = some (nI (g_sm (g_sl (rf_R G r)) (g_nu G))) := by
  have q0 := g_bn hG
  have q1 : g_nu G ≤ 24 := q0.2.1
  have q2 : g_np G ≤ 30 := q0.2.2.1
  have h13 : fg_in (nI f) 13 = true := fn_in (show f < 13 by omega) (by decide)
  have cf : (nI f).toNatClampNeg = f := fn_cl (by omega)
  have fd : ∀ p, p < g_np G → FX12_find m mu (nI p) = some (nI (r p)) := fun p hp => tf_findR (by omega) hh hp
  -- the ends at a point
  have ends : ∀ k, k < g_nu G → ∀ l1 l2, fg_lp (FX12_held_b55_L4 m mu l1 l2 (nI (24 * f + k))) fg_fu (nI 0, nI 0) = some (nI (g_en (rf_R G r) (r (g_to G k)))) := by
    intro k hk l1 l2
    have k2 := (hn k hk).2
    have rt := hr _ k2
    have gk : fg_in (nI (24 * f + k)) 312 = true := fn_in (show 24 * f + k < 312 by omega) (by decide)
    have ck : (nI (24 * f + k)).toNatClampNeg = 24 * f + k := fn_cl (by omega)
    have tk : bs_iv (mu (m + 12) (24 * f + k)) = nI (g_to G k) := (hB.2 k hk).2.2.1
    refine fg_lp_n (fun o => (nI (g_sm (fun i => g_if (r (g_fr G i) = r (g_to G k)) + g_if (r (g_to G i) = r (g_to G k))) o), nI o)) _ (g_nu G) rfl (fun o ho => ?_) ?_ (fg_fu_lt (by omega))
    · have st : g_sm (fun i => g_if (r (g_fr G i) = r (g_to G k)) + g_if (r (g_to G i) = r (g_to G k))) (o + 1) = g_sm (fun i => g_if (r (g_fr G i) = r (g_to G k)) + g_if (r (g_to G i) = r (g_to G k))) o + (g_if (r (g_fr G o) = r (g_to G k)) + g_if (r (g_to G o) = r (g_to G k))) := rfl
      have o2 := hn o ho
      have r1 := hr _ o2.1
      have r2 := hr _ o2.2
      have go : fg_in (nI (24 * f + o)) 312 = true := fn_in (show 24 * f + o < 312 by omega) (by decide)
      have co : (nI (24 * f + o)).toNatClampNeg = 24 * f + o := fn_cl (by omega)
      have ix : nI 24 * nI f + nI o = nI (24 * f + o) := by rw [fn_mul, fn_add]
      have fo := (hB.2 o ho).2.1
      have to := (hB.2 o ho).2.2.1
      have j108 : ∀ (A c : Nat), FX12_held_j108_L55_L4 m mu l1 l2 (nI (24 * f + k)) (nI o) (nI A) (nI c) = some (.inl (nI (A + c + g_if (r (g_to G o) = r (g_to G k))), nI (o + 1))) := by
        intro A c
        unfold FX12_held_j108_L55_L4
        rw [h25, ix, go, fg_gd_t, co, to, fd _ o2.2, fg_bd_s, gk, fg_gd_t, ck, tk, fd _ k2, fg_bd_s]
        by_cases e : r (g_to G o) = r (g_to G k)
        · rw [if_pos (by rw [e]), g_if1 e, fn_add, fn_add, fn_add]
        · rw [if_neg (fun w => e ((nI_eq (by omega) (by omega)).mp w)), g_if0 e, fn_add, fn_add, fn_add]
      show FX12_held_b55_L4 m mu l1 l2 (nI (24 * f + k)) (nI (g_sm (fun i => g_if (r (g_fr G i) = r (g_to G k)) + g_if (r (g_to G i) = r (g_to G k))) o), nI o) = some (.inl (nI (g_sm (fun i => g_if (r (g_fr G i) = r (g_to G k)) + g_if (r (g_to G i) = r (g_to G k))) (o + 1)), nI (o + 1)))
      rw [st, ← Nat.add_assoc]
      unfold FX12_held_b55_L4
      rw [h25, h13, fg_gd_t, cf, hB.1, if_neg (fun w => by have := (nI_leI (by omega) (by omega)).mp w; omega), ix, go, fg_gd_t, co, fo, fd _ o2.1, fg_bd_s, gk, fg_gd_t, ck, tk, fd _ k2, fg_bd_s]
      by_cases e : r (g_fr G o) = r (g_to G k)
      · rw [if_pos (by rw [e]), g_if1 e]
        exact j108 _ 1
      · rw [if_neg (fun w => e ((nI_eq (by omega) (by omega)).mp w)), g_if0 e]
        exact j108 _ 0
    · unfold FX12_held_b55_L4
      rw [h25, h13, fg_gd_t, cf, hB.1, if_pos (Int32.le_refl _)]
      rfl
  have last : g_sm (g_sl (rf_R G r)) (g_nu G - 1) = g_sm (g_sl (rf_R G r)) (g_nu G) := by
    by_cases c : g_nu G = 0
    · rw [c]
    · have := g_sl_last (G := rf_R G r) (n := g_nu G - 1) (show g_nu G = g_nu G - 1 + 1 by omega)
      rw [show g_nu G - 1 + 1 = g_nu G by omega] at this
      exact this.symm
  unfold FX12_held
  rw [fg_lp_n (fun k => (nI (g_sm (g_sl (rf_R G r)) k), nI k)) (nI (g_sm (g_sl (rf_R G r)) (g_nu G))) (g_nu G - 1) (by rfl) (fun k hk => ?_) ?_ (fg_fu_lt (by omega))]
  · rfl
  · unfold FX12_held_b4
    rw [h25, h13, fg_gd_t, cf, hB.1, fn_add, if_pos ((nI_leI (by omega) (by omega)).mpr (by omega)), last]
  · have st : g_sm (g_sl (rf_R G r)) (k + 1) = g_sm (g_sl (rf_R G r)) k + g_sl (rf_R G r) k := rfl
    have ix : nI 24 * nI f + nI k = nI (24 * f + k) := by rw [fn_mul, fn_add]
    have b1 : g_bo G k < g_nb G := (g_bd hG (show k < g_nu G by omega)).2.2.1
    have b2 : g_bo G (k + 1) < g_nb G := (g_bd hG (show k + 1 < g_nu G by omega)).2.2.1
    have b3 : g_nb G ≤ 6 := q0.1
    have sle := g_en_le (rf_R G r) (r (g_to G k))
    have sl2 : g_en (rf_R G r) (r (g_to G k)) ≤ 2 * g_nu G := sle
    show FX12_held_b4 m mu (nI (g_sm (g_sl (rf_R G r)) k), nI k) = some (.inl (nI (g_sm (g_sl (rf_R G r)) (k + 1)), nI (k + 1)))
    rw [st]
    unfold FX12_held_b4
    rw [h25, h13, fg_gd_t, cf, hB.1, fn_add, if_neg (fun w => by have := (nI_leI (by omega) (by omega)).mp w; omega), ix, fn_in (show 24 * f + k < 312 by omega) (by decide), fg_gd_t, fn_add, fn_in (show 24 * f + k + 1 < 312 by omega) (by decide), fg_gd_t, fn_cl (show 24 * f + k < 2 ^ 31 by omega), fn_cl (show 24 * f + k + 1 < 2 ^ 31 by omega), (hB.2 k (by omega)).2.2.2, Nat.add_assoc, (hB.2 (k + 1) (by omega)).2.2.2]
    by_cases e : g_bo G k = g_bo G (k + 1)
    · have tw : g_tw (rf_R G r) k = 1 := g_if1 ⟨show k + 1 < g_nu G by omega, e⟩
      rw [if_pos (by rw [e]), ends k (by omega), fg_bd_s]
      by_cases d : 3 ≤ g_en (rf_R G r) (r (g_to G k))
      · have z : g_sl (rf_R G r) k = 0 := g_if0 (fun h => by have : g_en (rf_R G r) (r (g_to G k)) < 3 := h.2; omega)
        rw [if_pos ((nI_leI (by omega) (by omega)).mpr d), fn_add, z]
      · have z : g_sl (rf_R G r) k = 1 := g_if1 ⟨tw, show g_en (rf_R G r) (r (g_to G k)) < 3 by omega⟩
        rw [if_neg (fun w => d ((nI_leI (by omega) (by omega)).mp w)), fn_add, z]
    · have tw : ¬ g_tw (rf_R G r) k = 1 := fun h => e (g_tw_in (G := rf_R G r) (i := k) (by omega)).2.2
      have z : g_sl (rf_R G r) k = 0 := g_if0 (fun h => tw h.1)
      rw [if_neg (fun w => e ((nI_eq (by omega) (by omega)).mp w)), z]
      rfl
theorem mh_new {m n : Nat} {r : Nat → Nat} {mu : bs_Mm} (hr : ∀ p, p < n → r p ≤ p ∧ r (r p) = r p) (h : mh_ok m n r mu) : mh_ok m (n + 1) (fun z => if z = n then n else r z) (bs_up mu (m + 15) n (.int (nI n))) := by
  obtain ⟨hd, hh⟩ := h
  refine ⟨bs_fn hd n n, fun p hp => ?_⟩
  by_cases e : p = n
  · subst e
    have e1 : (fun z => if z = p then p else r z) p = p := if_pos rfl
    rw [bs_up_eq, bs_fn_s, e1, bs_fn_s]
    exact ⟨rfl, Nat.le_refl _, rfl, fun _ => rfl, rfl⟩
  · obtain ⟨k1, k2, k3, k4, k5⟩ := hh p (by omega)
    have c := hr p (by omega)
    have e1 : (fun z => if z = n then n else r z) p = r p := if_neg e
    have e2 : (fun z => if z = n then n else r z) (hd p) = r (hd p) := if_neg (by omega)
    rw [bs_up_j e, bs_fn_n e, e1, e2, bs_fn_n (show r p ≠ n by omega)]
    exact ⟨k1, k2, k3, k4, k5⟩
theorem tf_np {m n : Nat} {mu : bs_Mm} (h23 : bs_iv (mu m 23) = nI n) (hn : n < 60) : FX12_newPoint m mu = some (nI n, bs_up (bs_up mu (m + 15) n (.int (nI n))) m 23 (.int (nI (n + 1)))) := by
  have e : bs_iv (bs_up mu (m + 15) n (.int (nI n)) m 23) = nI n := by rw [bs_up_f (by omega)]; exact h23
  have e2 : bs_iv (bs_up (bs_up mu (m + 15) n (.int (nI n))) m 23 (.int (nI (n + 1))) m 23) = nI (n + 1) := by rw [bs_up_eq]; rfl
  unfold FX12_newPoint
  rw [h23, fn_in (show n < 60 by omega) (by decide), fg_gd_t, fn_cl (show n < 2 ^ 31 by omega), fg_wr_s, e, fn_add, fg_wr_s, e2, fn_sub (by omega), Nat.add_sub_cancel]
