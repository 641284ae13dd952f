/-! RUN: the model's -/
theorem tf_inB {m g b : Nat} {mu : bs_Mm} {G : bs_G} (hV : mFv m g G mu) (hg : g < 13) (hG : g_ok G) (hb : b < 2 ^ 30) : FX12_inBalloon m mu (nI g) (nI b) = some (nI (g_cb G b (g_nu G))) := by
  have q0 := g_bn hG
  unfold FX12_inBalloon
  rw [fg_lp_n (fun i => (nI (g_cb G b i), nI i)) (nI (g_cb G b (g_nu G))) (g_nu G) (by rfl) (fun i hi => ?_) ?_ (fg_fu_lt (by omega))]
  · rfl
  · unfold FX12_inBalloon_b5
    simp (disch := omega) only [fg_gd_t, fg_bd_s, fg_b2_s, fg_wr_s, fg_let_s, fn_add, fn_sub, fn_mul, fn_cl, fn_lt, fn_le, fn_eq, fn_eq0, fn_lt0, fn_0le, fn_0lt, fn_le0, fn_in, fn_shl, fn_shr, fa_and, fa_or, bs_xorI, if_true, if_false, hV.2.1, Nat.le_refl]
  · have bd := g_bd hG hi
    have st : g_cb G b (i + 1) = g_cb G b i + g_if (g_bo G i = b) := rfl
    unfold FX12_inBalloon_b5
    simp (disch := omega) only [fg_gd_t, fg_bd_s, fg_b2_s, fg_wr_s, fg_let_s, fn_add, fn_sub, fn_mul, fn_cl, fn_lt, fn_le, fn_eq, fn_eq0, fn_lt0, fn_0le, fn_0lt, fn_le0, fn_in, fn_shl, fn_shr, fa_and, fa_or, bs_xorI, if_true, if_false, hV.2.1, if_neg (show ¬ g_nu G ≤ i by omega), hV.2.2.2.2.2.2.2.2 i hi]
    by_cases c : g_bo G i = b
    · rw [if_pos c, st, g_if1 c]
    · rw [if_neg c, st, g_if0 c]
theorem tf_isTh {m g sc : Nat} {mu : bs_Mm} {G : bs_G} {SH : Nat → Nat} (hV : mFv m g G mu) (hg : g < 13) (hG : g_ok G) (h5 : bs_iv (mu m 5) = nI sc) (hsc : sc ≤ 6) (hso : ∀ b, b < g_nb G → g_so G b < sc) (hS : ∀ k, k < sc → bs_iv (mu (m + 32) k) = nI (SH k) ∧ SH k ≤ 99) : FX12_isThere m mu (nI g) = some (if rn_th G SH then nI 1 else nI 0) := by
  have q0 := g_bn hG
  have inn : ∀ k, k < sc → fg_lp (FX12_isThere_b15_L2 m mu (nI g) (nI k)) fg_fu (nI 0, nI 0) = some (nI (g_ns G k (g_nb G))) := by
    intro k hk
    refine fg_lp_n (fun b => (nI (g_ns G k b), nI b)) _ (g_nb G) rfl (fun b hb => ?_) ?_ (fg_fu_lt (by omega))
    · have so := hG.2.2.2.2.1 b hb
      have rs := hV.2.2.2.2.1 b hb
      have st : g_ns G k (b + 1) = g_ns G k b + g_if (g_so G b = k) := rfl
      unfold FX12_isThere_b15_L2
      simp (disch := omega) only [fg_gd_t, fg_bd_s, fg_b2_s, fg_wr_s, fg_let_s, fn_add, fn_sub, fn_mul, fn_cl, fn_lt, fn_le, fn_eq, fn_eq0, fn_lt0, fn_0le, fn_0lt, fn_le0, fn_in, fn_shl, fn_shr, fa_and, fa_or, bs_xorI, if_true, if_false, hV.1, if_neg (show ¬ g_nb G ≤ b by omega), rs]
      by_cases c : g_so G b = k
      · rw [if_pos c, st, g_if1 c]
      · rw [if_neg c, st, g_if0 c]
    · unfold FX12_isThere_b15_L2
      simp (disch := omega) only [fg_gd_t, fg_bd_s, fg_b2_s, fg_wr_s, fg_let_s, fn_add, fn_sub, fn_mul, fn_cl, fn_lt, fn_le, fn_eq, fn_eq0, fn_lt0, fn_0le, fn_0lt, fn_le0, fn_in, fn_shl, fn_shr, fa_and, fa_or, bs_xorI, if_true, if_false, hV.1, Nat.le_refl]
  have bl : ∀ k, g_ns G k (g_nb G) ≤ g_nb G := fun k => g_sm1 (fun _ => g_if_le _) _
  have z0 : ∀ k, sc ≤ k → g_ns G k (g_nb G) = 0 := fun k hk => g_sm_z _ (fun b hb => g_if0 (fun e => by have := hso b hb; omega))
  unfold FX12_isThere
  have key2 : (fg_lp (FX12_isThere_b2 m mu (nI g)) fg_fu (nI 0) = some (.inl ()) ∧ rn_th G SH) ∨ (fg_lp (FX12_isThere_b2 m mu (nI g)) fg_fu (nI 0) = some (.inr (nI 0)) ∧ ¬ rn_th G SH) := by
    refine Exists.elim (fg_lp_i (body := FX12_isThere_b2 m mu (nI g)) (fun r s => ∃ k, s = nI k ∧ k + r = sc ∧ ∀ j, j < k → g_ns G j (g_nb G) ≤ SH j) (fun t => (t = .inl () ∧ rn_th G SH) ∨ (t = .inr (nI 0) ∧ ¬ rn_th G SH)) (fun r s hI => ?_) fg_fu sc (nI 0) ⟨0, rfl, by omega, fun j hj => by omega⟩ (fg_fu_lt (by omega))) (fun t ht => ?_)
    · obtain ⟨k, e, hr, hh⟩ := hI
      subst e
      by_cases z : sc ≤ k
      · refine Or.inr ⟨.inl (), ?_, Or.inl ⟨rfl, fun j hj => ?_⟩⟩
        · unfold FX12_isThere_b2
          simp (disch := omega) only [fg_gd_t, fg_bd_s, fg_b2_s, fg_wr_s, fg_let_s, fn_add, fn_sub, fn_mul, fn_cl, fn_lt, fn_le, fn_eq, fn_eq0, fn_lt0, fn_0le, fn_0lt, fn_le0, fn_in, fn_shl, fn_shr, fa_and, fa_or, bs_xorI, if_true, if_false, h5, if_pos z]
        · by_cases y : j < k
          · exact hh j y
          · rw [z0 j (by omega)]
            exact Nat.zero_le _
      · obtain ⟨r2, r3⟩ := hS k (by omega)
        have bk := bl k
        by_cases c : g_ns G k (g_nb G) ≤ SH k
        · refine Or.inl ⟨nI (k + 1), r - 1, ?_, by omega, k + 1, rfl, by omega, fun j hj => ?_⟩
          · unfold FX12_isThere_b2
            simp (disch := omega) only [fg_gd_t, fg_bd_s, fg_b2_s, fg_wr_s, fg_let_s, fn_add, fn_sub, fn_mul, fn_cl, fn_lt, fn_le, fn_eq, fn_eq0, fn_lt0, fn_0le, fn_0lt, fn_le0, fn_in, fn_shl, fn_shr, fa_and, fa_or, bs_xorI, if_true, if_false, h5, if_neg z, inn k (by omega), r2, if_pos c]
          · by_cases e : j = k
            · rw [e]; exact c
            · exact hh j (by omega)
        · refine Or.inr ⟨.inr (nI 0), ?_, Or.inr ⟨rfl, fun h => c (h k (by omega))⟩⟩
          unfold FX12_isThere_b2
          simp (disch := omega) only [fg_gd_t, fg_bd_s, fg_b2_s, fg_wr_s, fg_let_s, fn_add, fn_sub, fn_mul, fn_cl, fn_lt, fn_le, fn_eq, fn_eq0, fn_lt0, fn_0le, fn_0lt, fn_le0, fn_in, fn_shl, fn_shr, fa_and, fa_or, bs_xorI, if_true, if_false, h5, if_neg z, inn k (by omega), r2, if_neg c]
    · rcases ht.2 with ⟨a, b⟩ | ⟨a, b⟩
      · exact Or.inl ⟨by rw [← a]; exact ht.1, b⟩
      · exact Or.inr ⟨by rw [← a]; exact ht.1, b⟩
  rcases key2 with ⟨a, b⟩ | ⟨a, b⟩
  · rw [a, if_pos b]
    rfl
  · rw [a, if_neg b]
    rfl
/-- what stands in the model while a run goes on -/
def rn_M (m sc : Nat) (mu mu1 : bs_Mm) (SH : Nat → Nat) : Prop := (∀ k, k < sc → bs_iv (mu1 (m + 32) k) = nI (SH k) ∧ SH k ≤ 99) ∧ ∀ a, a ≠ m + 32 → mu1 a = mu a
set_option maxHeartbeats 1000000 in
theorem tf_mkB {m g b k sc : Nat} {G : bs_G} {pu pb ch t w l6 l7 : Int32} {X l1 : Int64} {SH : Nat → Nat} {mu mu1 : bs_Mm} (hg : g < 13) (hV : mFv m g G mu) (hG : g_ok G) (hb : b < 2 ^ 30) (hk : k < sc) (hsc : sc ≤ 6) (hu : bs_iv (mu m 47) = pu) (hpb : bs_iv (mu m 48) = pb) (hch : bs_iv (mu (m + 3) k) = ch) (hM : rn_M m sc mu mu1 SH) : ∃ mu2, fg_lp (FX12_run_b165_L130_L39 m l1 l6 l7 (nI g) (nI b) (nI k)) fg_fu (X, w, nI 0, t, nI 0, mu1) = some ((rn_mk (pb + pu * nI (g_cb G b (g_nu G))) ch (SH k) (t, w, X)).2.2.2.2, (rn_mk (pb + pu * nI (g_cb G b (g_nu G))) ch (SH k) (t, w, X)).2.2.2.1, (if (rn_mk (pb + pu * nI (g_cb G b (g_nu G))) ch (SH k) (t, w, X)).1 = true then nI 0 else nI 3), (rn_mk (pb + pu * nI (g_cb G b (g_nu G))) ch (SH k) (t, w, X)).2.2.1, mu2) ∧ rn_M m sc mu mu2 (bs_fn SH k (rn_mk (pb + pu * nI (g_cb G b (g_nu G))) ch (SH k) (t, w, X)).2.1) := by
  obtain ⟨hS, hf⟩ := id hM
  have hn := (hS k hk).2
  refine Exists.elim (fg_lp_i (body := FX12_run_b165_L130_L39 m l1 l6 l7 (nI g) (nI b) (nI k)) (fun r st => (∃ n t' w' X', r = n + 2 ∧ st = (X', w', nI 0, t', nI 0, st.2.2.2.2.2) ∧ rn_M m sc mu st.2.2.2.2.2 (bs_fn SH k n) ∧ rn_mk (pb + pu * nI (g_cb G b (g_nu G))) ch n (t', w', X') = rn_mk (pb + pu * nI (g_cb G b (g_nu G))) ch (SH k) (t, w, X)) ∨ ∃ how im, (rn_mk (pb + pu * nI (g_cb G b (g_nu G))) ch (SH k) (t, w, X)).1 = im ∧ st = ((rn_mk (pb + pu * nI (g_cb G b (g_nu G))) ch (SH k) (t, w, X)).2.2.2.2, (rn_mk (pb + pu * nI (g_cb G b (g_nu G))) ch (SH k) (t, w, X)).2.2.2.1, how, (rn_mk (pb + pu * nI (g_cb G b (g_nu G))) ch (SH k) (t, w, X)).2.2.1, (if im = true then nI 1 else nI 0), st.2.2.2.2.2) ∧ how = (if im = true then nI 0 else nI 3) ∧ rn_M m sc mu st.2.2.2.2.2 (bs_fn SH k (rn_mk (pb + pu * nI (g_cb G b (g_nu G))) ch (SH k) (t, w, X)).2.1)) (fun q => ∃ mu2, q = ((rn_mk (pb + pu * nI (g_cb G b (g_nu G))) ch (SH k) (t, w, X)).2.2.2.2, (rn_mk (pb + pu * nI (g_cb G b (g_nu G))) ch (SH k) (t, w, X)).2.2.2.1, (if (rn_mk (pb + pu * nI (g_cb G b (g_nu G))) ch (SH k) (t, w, X)).1 = true then nI 0 else nI 3), (rn_mk (pb + pu * nI (g_cb G b (g_nu G))) ch (SH k) (t, w, X)).2.2.1, mu2) ∧ rn_M m sc mu mu2 (bs_fn SH k (rn_mk (pb + pu * nI (g_cb G b (g_nu G))) ch (SH k) (t, w, X)).2.1)) (fun r st hI => ?_) fg_fu (SH k + 2) (X, w, nI 0, t, nI 0, mu1) (Or.inl ⟨SH k, t, w, X, rfl, rfl, ⟨fun j hj => ?_, hf⟩, rfl⟩) (fg_fu_lt (by omega))) (fun q hq => ?_)
  · rcases hI with ⟨n, t', w', X', hr, e, hM1, he⟩ | ⟨how, im, him, e, eh, hM1⟩
    · obtain ⟨a1, a2, a3, a4, a5, mu3⟩ := st
      have hM1 : rn_M m sc mu mu3 (bs_fn SH k n) := hM1
      have e : (a1, a2, a3, a4, a5, mu3) = (X', w', nI 0, t', nI 0, mu3) := e
      rw [e]
      obtain ⟨k1, k2⟩ := hM1.1 k hk
      rw [bs_fn_s] at k1 k2
      cases n with
      | zero =>
        refine Or.inl ⟨(X', w', nI 3, t', nI 0, mu3), 1, ?_, by omega, Or.inr ⟨nI 3, false, by rw [← he]; rfl, by rw [← he]; rfl, rfl, by rw [← he]; exact hM1⟩⟩
        unfold FX12_run_b165_L130_L39
        simp only []
        rw [if_pos (show nI 0 = 0 from rfl), if_pos (show nI 0 = 0 from rfl), fn_in (show k < 6 by omega) (by decide), fg_gd_t, fn_cl (show k < 2 ^ 31 by omega), k1, if_pos (show nI 0 = 0 from rfl)]
      | succ n =>
        have hM2 : rn_M m sc mu (bs_up mu3 (m + 32) k (.int (nI n))) (bs_fn SH k n) := by
          refine ⟨fun j hj => ?_, fun a ha => by rw [bs_up_f ha]; exact hM1.2 a ha⟩
          by_cases e : j = k
          · subst e
            rw [bs_up_eq, bs_fn_s]
            exact ⟨rfl, by omega⟩
          · rw [bs_up_j e, bs_fn_n e]
            have := hM1.1 j hj
            rw [bs_fn_n e] at this
            exact this
        have hV3 : mFv m g G (bs_up mu3 (m + 32) k (.int (nI n))) := mFv_of3 hV (fun c _ _ => hM2.2 c (by omega))
        have ib := tf_inB hV3 hg hG hb
        have e47 : bs_iv (bs_up mu3 (m + 32) k (.int (nI n)) m 47) = pu := by rw [hM2.2 m (by omega)]; exact hu
        have e48 : bs_iv (bs_up mu3 (m + 32) k (.int (nI n)) m 48) = pb := by rw [hM2.2 m (by omega)]; exact hpb
        have ec : bs_iv (bs_up mu3 (m + 32) k (.int (nI n)) (m + 3) k) = ch := by rw [hM2.2 _ (by omega)]; exact hch
        have ev : FX12_run_b165_L130_L39 m l1 l6 l7 (nI g) (nI b) (nI k) (X', w', nI 0, t', nI 0, mu3) = if rn_pop (rn_x X') ch then some (.inl (rn_x X', w' + (pb + pu * nI (g_cb G b (g_nu G))), nI 0, t' + nI 1, nI 0, bs_up mu3 (m + 32) k (.int (nI n)))) else some (.inl (rn_x X', w' + (pb + pu * nI (g_cb G b (g_nu G))), nI 0, t' + nI 1, nI 1, bs_up mu3 (m + 32) k (.int (nI n)))) := by
          unfold FX12_run_b165_L130_L39
          simp only []
          rw [if_pos (show nI 0 = 0 from rfl), if_pos (show nI 0 = 0 from rfl), fn_in (show k < 6 by omega) (by decide), fg_gd_t, fn_cl (show k < 2 ^ 31 by omega), k1, if_neg (by rw [fn_eq0 (by omega)]; omega), fg_gd_t, fg_gd_t, fg_wr_s, fn_sub (by omega), Nat.add_sub_cancel, ib, fg_bd_s, rn_100, fg_gd_t, fg_gd_t, rn_xe, e47, e48, ec]
        rw [rn_mk] at he
        by_cases c : rn_pop (rn_x X') ch
        · rw [if_pos c] at he
          exact Or.inl ⟨_, n + 2, by rw [ev, if_pos c], by omega, Or.inl ⟨n, _, _, _, rfl, rfl, hM2, he⟩⟩
        · rw [if_neg c] at he
          exact Or.inl ⟨_, 1, by rw [ev, if_neg c], by omega, Or.inr ⟨nI 0, true, by rw [← he], by rw [← he]; rfl, rfl, by rw [← he]; exact hM2⟩⟩
    · obtain ⟨a1, a2, a3, a4, a5, mu3⟩ := st
      have hM1 : rn_M m sc mu mu3 (bs_fn SH k (rn_mk (pb + pu * nI (g_cb G b (g_nu G))) ch (SH k) (t, w, X)).2.1) := hM1
      rw [e]
      subst eh
      refine Or.inr ⟨_, ?_, mu3, by rw [him], hM1⟩
      unfold FX12_run_b165_L130_L39
      cases im
      · rfl
      · rfl
  · by_cases e : j = k
    · subst e
      rw [bs_fn_s]
      exact hS j hj
    · rw [bs_fn_n e]
      exact hS j hj
  · obtain ⟨q1, mu2, q2, q3⟩ := hq
    rw [q1, q2]
    exact ⟨mu2, rfl, q3⟩
