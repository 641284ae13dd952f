/-! TWICE: the model's pairing, and its call -/
theorem tw_pw {L b : Nat} (h : L.testBit b = true) : g_sub (2 ^ b) L := fun i hi => by
  rw [Nat.testBit_two_pow] at hi
  rw [← of_decide_eq_true hi]
  exact h
theorem tf_pairL {m n k b L s l0 : Nat} {rQ : bs_Mm → Int32 → Int32 → Int32 → Option Int32} {mu : bs_Mm} {G : bs_G} (hG : g_ok G) {O : Nat → Nat} (hd : dm mu m (g_np G) (ds_F G)) (hO : ∀ i, i < n → bs_iv (mu (m + 27) i) = nI (O i) ∧ O i < g_np G) (inj : ∀ i j, i < n → j < n → O i = O j → i = j) (hn : n ≤ 24) (hL : L < 2 ^ n) (hp : pc_n L 32 ≤ k + 1) (hs : s ≤ 2) (hb : g_lw L b) (h0 : tw_B G O n L b s (b + 1) l0) (hQ : ∀ L' s', L' < 2 ^ n → pc_n L' 32 ≤ k → s' ≤ 2 → ∃ l, rQ mu (nI L') (nI n) (nI s') = some (nI l) ∧ tw_R G O n L' s' l) : ∃ l, FX12_pairing_j42 m rQ mu (nI n) (nI s) (nI b) (nI (L ^^^ 2 ^ b)) (nI l0) = some (nI l) ∧ tw_R G O n L s l := by
  have q0 := g_bn hG
  have hbn : b < n := g_tb_lt hL hb.1
  have p24 : 2 ^ n ≤ 2 ^ 24 := Nat.pow_le_pow_right (by decide) hn
  have hL1 : L ^^^ 2 ^ b < 2 ^ n := g_xor_lt hL (Nat.pow_lt_pow_right (by decide) hbn)
  have hL2 : L ^^^ 2 ^ b < 2 ^ 24 := Nat.lt_of_lt_of_le hL1 p24
  have pr := pc_rm hb.1 (show b < 32 by omega)
  refine Exists.elim (fg_lp_i (body := FX12_pairing_b50 m rQ mu (nI n) (nI s) (nI b) (nI (L ^^^ 2 ^ b))) (fun r st => ∃ j l, st.1 = nI l ∧ st.2 = nI j ∧ b < j ∧ j ≤ n ∧ j + r = n ∧ tw_B G O n L b s j l) (fun t => ∃ l, t = nI l ∧ tw_R G O n L s l) (fun r st hI => ?_) fg_fu (n - (b + 1)) (nI l0, nI (b + 1)) ⟨b + 1, l0, rfl, rfl, by omega, by omega, by omega, h0⟩ (fg_fu_lt (by omega))) (fun t ht => ?_)
  · obtain ⟨lv, jv⟩ := st
    obtain ⟨j, l, e1, e2, j1, j2, j3, hB⟩ := hI
    have e1 : lv = nI l := e1
    have e2 : jv = nI j := e2
    subst e1
    subst e2
    have lb := hB.1
    by_cases z : n ≤ j
    · have e : j = n := by omega
      subst e
      refine Or.inr ⟨nI l, ?_, l, rfl, tw_Be hG inj (fun i hi => by have := (hO i hi).2; omega) hb hbn hB⟩
      unfold FX12_pairing_b50
      simp (disch := omega) only [fg_gd_t, fg_bd_s, fg_b2_s, fg_wr_s, fg_let_s, fn_add, fn_sub, fn_mul, fn_cl, fn_lt, fn_le, fn_eq, fn_eq0, fn_lt0, fn_0le, fn_0lt, fn_le0, fn_in, fn_shl, fn_shr, fa_and, fa_or, bs_xorI, if_true, if_false, Nat.le_refl]
    · have bt : g_bt (L ^^^ 2 ^ b) j < 2 := by have := g_bt_c (L ^^^ 2 ^ b) j; omega
      have nz : ¬ n ≤ j := z
      by_cases c : L.testBit j = true
      · have c1 : (L ^^^ 2 ^ b).testBit j = true := g_rm_y hb.1 c (by omega)
        have c2 : g_bt (L ^^^ 2 ^ b) j = 1 := by rw [g_bt_tb]; exact c1
        have pr2 := pc_rm c1 (show j < 32 by omega)
        obtain ⟨v, v1, v2⟩ := hQ ((L ^^^ 2 ^ b) ^^^ 2 ^ j) s (g_xor_lt hL1 (Nat.pow_lt_pow_right (by decide) (by omega))) (by omega) hs
        have vb := v2.1
        have fb := ds_F_le G (O b) (O j)
        have B1 := hO b hbn
        have B2 := hO j (by omega)
        have rd := hd _ _ B1.2 B2.2
        refine Or.inl ⟨(nI (min (ds_F G (O b) (O j) + v) l), nI (j + 1)), r - 1, ?_, by omega, j + 1, _, rfl, rfl, by omega, by omega, by omega, tw_Bs hb.1 c (by omega) (by omega) hB v2⟩
        unfold FX12_pairing_b50
        simp (disch := omega) only [fg_gd_t, fg_bd_s, fg_b2_s, fg_wr_s, fg_let_s, fn_add, fn_sub, fn_mul, fn_cl, fn_lt, fn_le, fn_eq, fn_eq0, fn_lt0, fn_0le, fn_0lt, fn_le0, fn_in, fn_shl, fn_shr, fa_and, fa_or, bs_xorI, if_true, if_false, if_neg nz, g_btd, if_pos c2, B1.1, B2.1, rd, fn_not, g_mi_x hL2 (tw_pw c1), v1]
        by_cases y : ds_F G (O b) (O j) + v < l
        · rw [if_pos y, Nat.min_eq_left (by omega)]
        · rw [if_neg y, Nat.min_eq_right (by omega)]
      · have c1 : ¬ (L ^^^ 2 ^ b).testBit j = true := fun h => c (g_rm_s hb.1 j h)
        have c2 : ¬ g_bt (L ^^^ 2 ^ b) j = 1 := by rw [g_bt_tb]; exact c1
        refine Or.inl ⟨(nI l, nI (j + 1)), r - 1, ?_, by omega, j + 1, l, rfl, rfl, by omega, by omega, by omega, tw_Bn c hB⟩
        unfold FX12_pairing_b50
        simp (disch := omega) only [fg_gd_t, fg_bd_s, fg_b2_s, fg_wr_s, fg_let_s, fn_add, fn_sub, fn_mul, fn_cl, fn_lt, fn_le, fn_eq, fn_eq0, fn_lt0, fn_0le, fn_0lt, fn_le0, fn_in, fn_shl, fn_shr, fa_and, fa_or, bs_xorI, if_true, if_false, if_neg nz, g_btd, if_neg c2]
  · obtain ⟨t1, l, t2, t3⟩ := ht
    subst t2
    refine ⟨l, ?_, t3⟩
    unfold FX12_pairing_j42
    rw [fn_add, t1]
    rfl
theorem tf_pair {m n : Nat} {mu : bs_Mm} {G : bs_G} (hG : g_ok G) {O : Nat → Nat} (hd : dm mu m (g_np G) (ds_F G)) (hO : ∀ i, i < n → bs_iv (mu (m + 27) i) = nI (O i) ∧ O i < g_np G) (inj : ∀ i j, i < n → j < n → O i = O j → i = j) (hn : n ≤ 24) : ∀ k L s, L < 2 ^ n → pc_n L 32 ≤ k → s ≤ 2 → ∃ l, FX12_pairing m (fg_rQ m k) mu (nI L) (nI n) (nI s) = some (nI l) ∧ tw_R G O n L s l := by
  have q0 := g_bn hG
  have p24 : 2 ^ n ≤ 2 ^ 24 := Nat.pow_le_pow_right (by decide) hn
  have zero : ∀ rQ s, ∃ l, FX12_pairing m rQ mu (nI 0) (nI n) (nI s) = some (nI l) ∧ tw_R G O n 0 s l := fun rQ s => ⟨0, by unfold FX12_pairing; rw [if_pos (show nI 0 = 0 from rfl)], tw_R0 G O n s⟩
  intro k
  induction k with
  | zero =>
    intro L s hL hp hs
    have z : L = 0 := by
      refine Classical.byContradiction fun z => ?_
      obtain ⟨b, hb⟩ := g_nz z
      have b1 := g_tb_lt hL hb
      have := pc_rm hb (show b < 32 by omega)
      omega
    subst z
    exact zero _ s
  | succ k ih =>
    intro L s hL hp hs
    by_cases z : L = 0
    · subst z
      exact zero _ s
    · obtain ⟨b, hb⟩ := g_lw_ex z
      have hbn : b < n := g_tb_lt hL hb.1
      have hL2 : L < 2 ^ 24 := Nat.lt_of_lt_of_le hL p24
      have pr := pc_rm hb.1 (show b < 32 by omega)
      have hL1 : L ^^^ 2 ^ b < 2 ^ n := g_xor_lt hL (Nat.pow_lt_pow_right (by decide) hbn)
      have eL : nI L &&& ((nI 1 <<< (nI b &&& 31)) ^^^ (-1)) = nI (L ^^^ 2 ^ b) := by
        rw [fn_shl (show b < 31 by omega), fn_not, fa_and, g_mi_x hL2 (tw_pw hb.1)]
      have nz : ¬ nI L = 0 := by rw [fn_eq0 (by omega)]; exact z
      have hQ : ∀ L' s', L' < 2 ^ n → pc_n L' 32 ≤ k → s' ≤ 2 → ∃ l, fg_rQ m (k + 1) mu (nI L') (nI n) (nI s') = some (nI l) ∧ tw_R G O n L' s' l := ih
      unfold FX12_pairing
      rw [if_neg nz, sf_tz24 mu hL2 hb.1 hb.2, fg_bd_s, eL]
      by_cases c : s = 0
      · subst c
        obtain ⟨l, l1, l2⟩ := tf_pairL hG hd hO inj hn hL hp hs hb (tw_B0 (G := G) (O := O)) hQ
        rw [if_pos (show nI 0 ≤ 0 by decide)]
        exact ⟨l, l1, l2⟩
      · obtain ⟨l0, l01, l02⟩ := hQ (L ^^^ 2 ^ b) (s - 1) hL1 (by omega) (by omega)
        obtain ⟨l, l1, l2⟩ := tf_pairL hG hd hO inj hn hL hp hs hb (tw_B1 hb.1 hbn (by have := (hO b hbn).2; omega) (by omega) l02) hQ
        rw [if_neg (by rw [fn_le0 (by omega)]; exact c), fn_sub (by omega), l01, fg_bd_s]
        exact ⟨l, l1, l2⟩
theorem tw_on (G : bs_G) (S : Nat) : ∀ N i, i < g_on G S N → ∃ p, p < N ∧ g_es G p S (g_nu G) % 2 = 1 ∧ g_on G S p = i := by
  intro N
  induction N with
  | zero => intro i h; exact absurd h (Nat.not_lt_zero i)
  | succ N ih =>
    intro i h
    rw [g_on_s] at h
    by_cases c : i < g_on G S N
    · obtain ⟨p, h1, h2, h3⟩ := ih i c
      exact ⟨p, by omega, h2, h3⟩
    · exact ⟨N, by omega, by omega, by omega⟩
theorem tw_ao (G : bs_G) : ∀ n, n ≤ g_nu G → g_om G (2 ^ g_nu G - 1) n = g_od G n := by
  intro n
  induction n with
  | zero => intro _; rfl
  | succ n ih =>
    intro h
    rw [g_om, if_pos (by rw [Nat.testBit_two_pow_sub_one, decide_eq_true (show n < g_nu G by omega)]), ih (by omega)]
    rfl
theorem tf_twN {m fc : Nat} {mu : bs_Mm} (hc : bs_iv (mu m 20) = nI fc) (h : fc ≤ 12) {a : Int32} (ha : a < 0 ∨ nI fc ≤ a) : FX12_twice m mu a = some (-1, mu) := by
  unfold FX12_twice
  rw [tf_figN hc h ha]
  rfl
theorem tf_twY {m fc g : Nat} {FG : Nat → bs_G} {mu : bs_Mm} (hF : mFG m fc FG mu) (hg : g < fc) : ∃ a mu', FX12_twice m mu (nI g) = some (a, mu') ∧ kTw (FG g) a ∧ ∀ c, c ≠ m + 24 → c ≠ m + 27 → mu' c = mu c := by
  have hf := hF.1
  have hV := (hF.2.2 g hg).2
  have hG := (hF.2.2 g hg).1
  have hg13 : g < 13 := by omega
  revert hV hG
  generalize FG g = G
  intro hV hG
  have q0 := g_bn hG
  unfold FX12_twice
  rw [tf_figY hF.2.1 hf hg, fg_bd_s, if_neg (by decide), fn_in hg13 (by decide), fg_gd_t, fn_cl (by omega), hV.2.1]
  by_cases z : 12 < g_nu G
  · rw [if_pos ((nI_ltI (by omega) (by omega)).mpr z)]
    exact ⟨-1, mu, rfl, Or.inl ⟨Or.inl z, rfl⟩, fun _ _ _ => rfl⟩
  · have dle : g_pa G (2 ^ g_nu G - 1) 0 ≤ g_np G := g_sm1 (fun _ => g_if_le _) _
    rw [if_neg (fun h => z ((nI_ltI (by omega) (by omega)).mp h)), tf_all hV hg13 hG, fg_bd_s, tf_parts hV hg13 hG (g_all_co G), fg_bd_s]
    by_cases y : g_pa G (2 ^ g_nu G - 1) 0 ≤ 1
    · obtain ⟨mu1, a1, a2, a3⟩ := tf_odds hV hg13 hG (by omega)
      have hV1 := mFv_of2 hV (fun c hc => a2 c (by omega))
      obtain ⟨mu2, b1, b2, b3⟩ := tf_fars hV1 hg13 hG
      rw [if_pos ((nI_leI (by omega) (by omega)).mpr y), a1, fg_bd_s]
      simp only []
      rw [b1, fg_bd_s]
      have nb := g_on_b hG (2 ^ g_nu G - 1)
      have pn := pc_om hG (2 ^ g_nu G - 1)
      rw [tw_ao G _ (Nat.le_refl _)] at pn
      have ex : ∀ i, ∃ p, i < g_on G (2 ^ g_nu G - 1) (g_np G) → p < g_np G ∧ g_en G p % 2 = 1 ∧ g_on G (2 ^ g_nu G - 1) p = i ∧ bs_iv (mu2 (m + 27) i) = nI p := by
        intro i
        by_cases c : i < g_on G (2 ^ g_nu G - 1) (g_np G)
        · obtain ⟨p, p1, p2, p3⟩ := tw_on G _ _ i c
          rw [g_es_all] at p2
          refine ⟨p, fun _ => ⟨p1, p2, p3, ?_⟩⟩
          rw [b2 _ (by omega), ← p3]
          exact a3 p p1 p2
        · exact ⟨0, fun h => absurd h c⟩
      obtain ⟨O, hO⟩ := Classical.axiomOfChoice ex
      have inj : ∀ i j, i < g_on G (2 ^ g_nu G - 1) (g_np G) → j < g_on G (2 ^ g_nu G - 1) (g_np G) → O i = O j → i = j := by
        intro i j hi hj e
        rw [← (hO i hi).2.2.1, ← (hO j hj).2.2.1, e]
      have eP : tw_P O (2 ^ g_on G (2 ^ g_nu G - 1) (g_np G) - 1) (g_on G (2 ^ g_nu G - 1) (g_np G)) = g_od G (g_nu G) := by
        refine g_sub_eq (fun c hc => ?_) (fun c hc => ?_)
        · obtain ⟨i, i1, i2, i3⟩ := tw_P_m _ hc
          have o := hO i i1
          have e := g_b_od G (O i) (g_nu G)
          have e2 : g_sm (fun j => g_if (g_fr G j = O i) + g_if (g_to G j = O i)) (g_nu G) = g_en G (O i) := rfl
          rw [g_b_t, e2, o.2.1, i3] at e
          revert e
          cases (g_od G (g_nu G)).testBit c <;> simp
        · have e := g_b_od G c (g_nu G)
          have e2 : g_sm (fun j => g_if (g_fr G j = c) + g_if (g_to G j = c)) (g_nu G) = g_en G c := rfl
          rw [g_b_t, e2, hc] at e
          have e : 1 = g_en G c % 2 := e
          have hc2 := hc
          rw [← tw_ao G _ (Nat.le_refl _)] at hc2
          obtain ⟨j, j1, -, j3⟩ := tw_om _ hc2
          obtain ⟨r, -, r2⟩ := tw_eb j3
          have cp : c < g_np G := (ds_e_np hG ⟨j1, r2⟩).1
          have u1 := g_on_s G (2 ^ g_nu G - 1) c
          rw [g_es_all] at u1
          have u2 := g_on_m G (2 ^ g_nu G - 1) (c + 1) (g_np G - (c + 1))
          rw [show c + 1 + (g_np G - (c + 1)) = g_np G by omega] at u2
          have lt : g_on G (2 ^ g_nu G - 1) c < g_on G (2 ^ g_nu G - 1) (g_np G) := by omega
          have o := hO _ lt
          have rw1 := a3 c cp (by omega)
          have rw2 := o.2.2.2
          rw [b2 _ (by omega), rw1] at rw2
          have oc : c = O (g_on G (2 ^ g_nu G - 1) c) := (nI_eq (by omega) (by omega)).mp rw2
          have t := tw_P_y (O := O) (L := 2 ^ g_on G (2 ^ g_nu G - 1) (g_np G) - 1) (b := g_on G (2 ^ g_nu G - 1) c) (by rw [Nat.testBit_two_pow_sub_one, decide_eq_true lt]) _ inj lt
          rw [← oc] at t
          exact t
      obtain ⟨l, l1, l2⟩ := tf_pair (n := g_on G (2 ^ g_nu G - 1) (g_np G)) hG b3 (fun i hi => ⟨(hO i hi).2.2.2, (hO i hi).1⟩) inj (by omega) 26 (2 ^ g_on G (2 ^ g_nu G - 1) (g_np G) - 1) 2 (by have := Nat.two_pow_pos (g_on G (2 ^ g_nu G - 1) (g_np G)); omega) (by
        have e := pc_bt (2 ^ g_on G (2 ^ g_nu G - 1) (g_np G) - 1) 32
        rw [e]
        have z := g_sm_zr (h := fun i => if g_bt (2 ^ g_on G (2 ^ g_nu G - 1) (g_np G) - 1) i = 1 then 1 else 0) (n := g_on G (2 ^ g_nu G - 1) (g_np G)) (32 - g_on G (2 ^ g_nu G - 1) (g_np G)) (fun p hp => by
          show (if g_bt _ p = 1 then 1 else 0) = 0
          rw [if_neg]
          rw [g_bt_tb, Nat.testBit_two_pow_sub_one, decide_eq_false (by omega)]
          decide)
        rw [show g_on G (2 ^ g_nu G - 1) (g_np G) + (32 - g_on G (2 ^ g_nu G - 1) (g_np G)) = 32 by omega] at z
        rw [z]
        have := g_sm1 (h := fun i => if g_bt (2 ^ g_on G (2 ^ g_nu G - 1) (g_np G) - 1) i = 1 then 1 else 0) (fun i => by show (if _ then 1 else 0) ≤ 1; split <;> omega) (g_on G (2 ^ g_nu G - 1) (g_np G))
        omega) (Nat.le_refl _)
      obtain ⟨r1, r2, r3⟩ := l2
      have fr : ∀ c, c ≠ m + 24 → c ≠ m + 27 → mu2 c = mu c := fun c c1 c2 => (b2 c c1).trans (a2 c c2)
      by_cases w : 2 < pc_n (g_od G (g_nu G)) 32
      · rw [if_neg (by rw [fn_eq0 (by omega)]; omega), fn_shl (by omega), fn_sub (Nat.one_le_two_pow), l1, fg_bd_s]
        refine ⟨nI l, mu2, rfl, Or.inr ⟨by omega, y, Or.inr ⟨w, l, rfl, ?_, fun T hT hT0 hk => ?_⟩⟩, fr⟩
        · rcases r2 with r2 | ⟨T, ⟨t1, t2⟩, t3⟩
          · exact Or.inl r2
          · have t4 := r3 T ⟨t1, t2⟩
            rw [eP, Nat.xor_comm] at t2
            refine Or.inr ⟨T, t1, ?_, t2, by omega⟩
            intro h
            subst h
            rw [g_om_0, Nat.xor_zero] at t2
            omega
        · refine r3 T ⟨hT, ?_⟩
          rw [eP, Nat.xor_comm]
          exact hk
      · by_cases v : g_on G (2 ^ g_nu G - 1) (g_np G) = 0
        · rw [v, if_pos (show nI 0 = 0 from rfl)]
          exact ⟨nI 0, mu2, rfl, Or.inr ⟨by omega, y, Or.inl ⟨by omega, rfl⟩⟩, fr⟩
        · have q := r3 0 ⟨Nat.two_pow_pos _, by rw [eP, g_om_0, Nat.zero_xor]; omega⟩
          have w0 := (tw_R0 G O (g_on G (2 ^ g_nu G - 1) (g_np G)) 0).2.2
          have q1 : g_wt G 0 (g_nu G) = 0 := by
            have : ∀ k, g_wt G 0 k = 0 := by
              intro k
              induction k with
              | zero => rfl
              | succ k ih =>
                show g_wt G 0 k + (if g_bt 0 k = 1 then g_le G k else 0) = 0
                rw [ih, if_neg]
                rw [g_bt_tb, Nat.zero_testBit]
                decide
            exact this _
          have l0 : l = 0 := by omega
          subst l0
          rw [if_neg (by rw [fn_eq0 (by omega)]; exact v), fn_shl (by omega), fn_sub (Nat.one_le_two_pow), l1, fg_bd_s]
          exact ⟨nI 0, mu2, rfl, Or.inr ⟨by omega, y, Or.inl ⟨by omega, rfl⟩⟩, fr⟩
    · rw [if_neg (fun h => y ((nI_leI (by omega) (by omega)).mp h))]
      exact ⟨-1, mu, rfl, Or.inl ⟨Or.inr (by omega), rfl⟩, fun _ _ _ => rfl⟩
/-- both answers are one -/
theorem kT_u {G : bs_G} {l l' : Nat} (hl : l ≤ 1000000) (hl' : l' ≤ 1000000) (h : kT G l) (h' : kT G l') : l = l' := by
  rcases h.1 with e | ⟨T, t1, t2, t3, t4⟩ <;> rcases h'.1 with e' | ⟨T', u1, u2, u3, u4⟩
  · omega
  · have := h.2 T' u1 u2 u3
    omega
  · have := h'.2 T t1 t2 t3
    omega
  · have a := h.2 T' u1 u2 u3
    have b := h'.2 T t1 t2 t3
    omega
