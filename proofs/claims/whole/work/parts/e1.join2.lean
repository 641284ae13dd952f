/-! READING A FIGURE (own): joins of both sides -/
theorem rf_mx {r : Nat → Nat} {p q : Nat} : (max (r p) (r q) = r p ∨ max (r p) (r q) = r q) ∧ (min (r p) (r q) = r p ∨ min (r p) (r q) = r q) := by
  rcases Nat.le_total (r p) (r q) with h | h
  · rw [Nat.max_eq_right h, Nat.min_eq_left h]
    exact ⟨Or.inr rfl, Or.inl rfl⟩
  · rw [Nat.max_eq_left h, Nat.min_eq_right h]
    exact ⟨Or.inl rfl, Or.inr rfl⟩
theorem rf_ok_J {s : rf_S} (h : rf_ok s) {p q : Nat} (hp : p < g_np (rf_g s)) (hq : q < g_np (rf_g s)) : rf_ok (rf_J s p q) := by
  obtain ⟨h1, h2, h3, h4, h5, h6, h7, h8, h9, h10, h11, h12⟩ := h
  have mo := rf_m_ok (n := g_np (rf_g s)) h8 hp hq
  refine ⟨⟨h1.1, h1.2.1, h1.2.2.1, fun i hi => ?_, h1.2.2.2.2.1, h1.2.2.2.2.2.1, h1.2.2.2.2.2.2.1, h1.2.2.2.2.2.2.2⟩, h2, h3, h4, h5, h6, h7, mo, h9, h10, h11, h12⟩
  have b := h3 i hi
  have c := (h1.2.2.2.1 i hi).2.2
  have d1 := (mo _ b.1).1
  have d2 := (mo _ b.2).1
  refine ⟨?_, ?_, c⟩
  · show rf_m (rf_r s) p q (g_fr (rf_g s) i) < g_np (rf_g s)
    omega
  · show rf_m (rf_r s) p q (g_to (rf_g s) i) < g_np (rf_g s)
    omega
theorem nI_mxmn {a b : Nat} (ha : a < 2 ^ 30) (hb : b < 2 ^ 30) : (if nI a < nI b then nI b else nI a) = nI (max a b) ∧ (if nI b < nI a then nI b else nI a) = nI (min a b) := by
  constructor
  · by_cases c : a < b
    · rw [if_pos ((nI_ltI (by omega) (by omega)).mpr c), Nat.max_eq_right (by omega)]
    · rw [if_neg (fun h => c ((nI_ltI (by omega) (by omega)).mp h)), Nat.max_eq_left (by omega)]
  · by_cases c : b < a
    · rw [if_pos ((nI_ltI (by omega) (by omega)).mpr c), Nat.min_eq_right (by omega)]
    · rw [if_neg (fun h => c ((nI_ltI (by omega) (by omega)).mp h)), Nat.min_eq_left (by omega)]
set_option maxHeartbeats 1000000 in
theorem sf_join2 {x p q : Nat} {s : rf_S} {mu : bs_Mm} (hok : rf_ok s) (hc : rf_c x s mu) (hp : p < g_np (rf_g s)) (hq : q < g_np (rf_g s)) : ∃ mu', FX2_join x mu (nI (rf_r s p)) (nI (rf_r s q)) = some mu' ∧ rf_c x (rf_J s p q) mu' ∧ (∀ k, k ≠ 6 → mu' (x + 9) k = mu (x + 9) k) ∧ ∀ a, (a < x + 9 ∨ x + 19 < a) → mu' a = mu a := by
  obtain ⟨h1, h2, h3, h4, h5, h6, h7, h8, h9, h10, h11, h12⟩ := id hok
  have q0 := g_bn h1
  have np : g_np (rf_R (rf_g s) (rf_r s)) = g_np (rf_g s) := rfl
  rw [np] at q0
  have rp := h8 p hp
  have rq := h8 q hq
  unfold FX2_join
  by_cases e : rf_r s p = rf_r s q
  · rw [if_pos (by rw [e])]
    have eJ : rf_J s p q = s := by
      unfold rf_J
      rw [show rf_m s.2.1 p q = s.2.1 from rf_m_id e]
    rw [eJ]
    exact ⟨mu, rfl, hc, fun _ _ => rfl, fun _ _ => rfl⟩
  · rw [if_neg (fun h => e ((nI_eq (by omega) (by omega)).mp h)), (nI_mxmn (a := rf_r s p) (b := rf_r s q) (by omega) (by omega)).1, (nI_mxmn (a := rf_r s p) (b := rf_r s q) (by omega) (by omega)).2]
    obtain ⟨c1, c2, c3, c4, c5, c6, c7⟩ := id hc
    have mm := rf_mx (r := rf_r s) (p := p) (q := q)
    have hne : max (rf_r s p) (rf_r s q) ≠ min (rf_r s p) (rf_r s q) := by omega
    have rg : rf_r s (max (rf_r s p) (rf_r s q)) = max (rf_r s p) (rf_r s q) := by
      rcases mm.1 with h | h
      · rw [h]
        exact rp.2
      · rw [h]
        exact rq.2
    have rk : rf_r s (min (rf_r s p) (rf_r s q)) = min (rf_r s p) (rf_r s q) := by
      rcases mm.2 with h | h
      · rw [h]
        exact rp.2
      · rw [h]
        exact rq.2
    obtain ⟨g, hg⟩ : ∃ g, g = max (rf_r s p) (rf_r s q) := ⟨_, rfl⟩
    obtain ⟨k, hk⟩ : ∃ k, k = min (rf_r s p) (rf_r s q) := ⟨_, rfl⟩
    rw [← hg] at rg hne ⊢
    rw [← hk] at rk hne ⊢
    have g30 : g < g_np (rf_g s) := by omega
    have k30 : k < g_np (rf_g s) := by omega
    have rm : ∀ z, rf_m (rf_r s) p q z = if rf_r s z = g then k else rf_r s z := fun z => by
      unfold rf_m rf_s
      rw [← hg, ← hk]
    obtain ⟨m1, a1, a2, a5, a3, a4⟩ := sf_mvE (x := x) (a := g) (b := k) c1 h1 hne g30 k30
    have a2 : cFv (x + 10) (rf_R (rf_g s) (fun z => if rf_r s z = g then k else rf_r s z)) m1 := a2
    obtain ⟨m2, hm2⟩ : ∃ y, y = bs_up m1 (x + 17) g (.int (-1)) := ⟨_, rfl⟩
    have f2 : ∀ a, a ≠ x + 17 → m2 a = m1 a := fun a ha => by rw [hm2, bs_up_f ha]
    obtain ⟨m3, b1, b2, b3, b4⟩ := sf_ren (x := x) (p0 := x + 18) (n0 := 8) (n := 8) (a := g) (b := k) (mu := m2) (v := fun i => rf_nv (rf_r s) (rf_n s i)) (by omega) (by omega) (fun j hj => by rw [f2 _ (by omega), a4 _ (by omega)]; exact c3 j hj)
    have e7 : bs_iv (m3 (x + 9) 7) = nI (rf_d s) := by rw [b4 _ (by omega), f2 _ (by omega), a4 _ (by omega)]; exact c6
    obtain ⟨m4, d1, d2, d3, d4⟩ := sf_ren (x := x) (p0 := x + 19) (n0 := 6) (n := rf_d s) (a := g) (b := k) (mu := m3) (v := fun j => nI (rf_r s (rf_k s j))) h6 (by omega) (fun j hj => by rw [b4 _ (by omega), f2 _ (by omega), a4 _ (by omega)]; exact c4 j hj)
    have e6 : bs_iv (m4 (x + 9) 6) = nI (rf_r s (rf_w s)) := by rw [d4 _ (by omega), b4 _ (by omega), f2 _ (by omega), a4 _ (by omega)]; exact c5
    have rw6 := h8 (rf_w s) h5
    have m4f : ∀ a, a ≠ x + 17 → a ≠ x + 18 → a ≠ x + 19 → m4 a = m1 a := fun a n1 n2 n3 => by rw [d4 _ n3, b4 _ n2, f2 _ n1]
    refine ⟨bs_up m4 (x + 9) 6 (.int (nI (if rf_r s (rf_w s) = g then k else rf_r s (rf_w s)))), ?_, ⟨?_, fun p' hp' => ?_, fun i hi => ?_, fun j hj => ?_, ?_, ?_, fun p' hp' => ?_⟩, fun j hj => by rw [bs_up_j hj, m4f _ (by omega) (by omega) (by omega), a4 _ (by omega)], fun a ha => by rw [bs_up_f (by omega), m4f _ (by omega) (by omega) (by omega), a4 _ (by omega)]⟩
    · rw [a1, fg_bd_s, fn_in (show g < 30 by omega) (by decide), fg_gd_t, fn_cl (show g < 2 ^ 31 by omega), fg_wr_s, ← hm2, show (nI 8 : Int32) = nI 8 from rfl, b1, fg_bd_s, e7, d1, fg_bd_s, e6]
      by_cases c : rf_r s (rf_w s) = g
      · rw [if_pos (by rw [c]), if_pos c, fg_wr_s]
      · rw [if_neg (fun h => c ((nI_eq (by omega) (by omega)).mp h)), if_neg c, fg_wr_s]
    · have : rf_R (rf_g (rf_J s p q)) (rf_r (rf_J s p q)) = rf_R (rf_g s) (fun z => if rf_r s z = g then k else rf_r s z) := by
        show rf_R (rf_g s) (rf_m (rf_r s) p q) = _
        rw [show rf_m (rf_r s) p q = fun z => if rf_r s z = g then k else rf_r s z from funext rm]
      rw [this]
      exact cFv_of a2 fun j hj => by rw [bs_up_f (by omega), m4f _ (by omega) (by omega) (by omega)]
    · show bs_iv (bs_up m4 (x + 9) 6 _ (x + 17) p') = if p' < g_np (rf_g s) ∧ rf_m (rf_r s) p q p' ≠ p' then -1 else nI 0
      rw [bs_up_f (by omega), d4 _ (by omega), b4 _ (by omega), rm]
      by_cases c : p' = g
      · subst c
        rw [hm2, bs_up_eq, if_pos rg, if_pos ⟨g30, fun h => hne h.symm⟩]
        rfl
      · rw [hm2, bs_up_j c, a4 _ (by omega), c2 p' hp']
        by_cases d : rf_r s p' = p'
        · rw [if_neg (fun h => h.2 d), if_neg (fun h => h.2 (by rw [d, if_neg c]))]
        · by_cases n1 : p' < g_np (rf_g s)
          · have dd : (if rf_r s p' = g then k else rf_r s p') ≠ p' := by
              by_cases u : rf_r s p' = g
              · rw [if_pos u]
                intro w
                rw [w] at rk
                exact d rk
              · rw [if_neg u]
                exact d
            rw [if_pos ⟨n1, d⟩, if_pos ⟨n1, dd⟩]
          · rw [if_neg (fun h => n1 h.1), if_neg (fun h => n1 h.1)]
    · show bs_iv (bs_up m4 (x + 9) 6 _ (x + 18) i) = rf_nv (rf_m (rf_r s) p q) (rf_n s i)
      rw [bs_up_f (by omega), d4 _ (by omega), b2 i hi]
      cases c : rf_n s i with
      | none =>
        show (if (-1 : Int32) = nI g then nI k else -1) = -1
        exact if_neg (fun h => al_nm (q := g) (by omega) h.symm)
      | some z =>
        show (if nI (rf_r s z) = nI g then nI k else nI (rf_r s z)) = nI (rf_m (rf_r s) p q z)
        have z1 := h4 i z hi c
        have z2 := (h8 z z1).1
        rw [rm]
        by_cases d : rf_r s z = g
        · rw [if_pos (by rw [d]), if_pos d]
        · rw [if_neg (fun h => d ((nI_eq (by omega) (by omega)).mp h)), if_neg d]
    · show bs_iv (bs_up m4 (x + 9) 6 _ (x + 19) j) = nI (rf_m (rf_r s) p q (rf_k s j))
      have hj : j < rf_d s := hj
      have z1 := h7 j hj
      have z2 := (h8 _ z1).1
      rw [bs_up_f (by omega), d2 j hj, rm]
      by_cases d : rf_r s (rf_k s j) = g
      · rw [if_pos (by rw [d]), if_pos d]
      · rw [if_neg (fun h => d ((nI_eq (by omega) (by omega)).mp h)), if_neg d]
    · show bs_iv (bs_up m4 (x + 9) 6 _ (x + 9) 6) = nI (rf_m (rf_r s) p q (rf_w s))
      rw [bs_up_eq, rm]
      rfl
    · show bs_iv (bs_up m4 (x + 9) 6 _ (x + 9) 7) = nI (rf_d s)
      rw [bs_up_j (by decide), d4 _ (by omega)]
      exact e7
    · have : rf_R (rf_g (rf_J s p q)) (rf_r (rf_J s p q)) = rf_R (rf_R (rf_g s) (rf_r s)) (rf_s g k) := by
        show rf_R (rf_g s) (rf_m (rf_r s) p q) = rf_R (rf_g s) (fun z => rf_s g k (rf_r s z))
        rw [hg, hk]
        rfl
      rw [this, bs_up_f (by omega), m4f _ (by omega) (by omega) (by omega)]
      exact a5 c7 p' hp'
/-- heads of the model -/
def mh_ok (m n : Nat) (r : Nat → Nat) (mu : bs_Mm) : Prop := ∃ hd : Nat → Nat, ∀ p, p < n → bs_iv (mu (m + 15) p) = nI (hd p) ∧ hd p ≤ p ∧ hd (r p) = r p ∧ (hd p = p → r p = p) ∧ r (hd p) = r p
theorem tf_findR {m n p : Nat} {r : Nat → Nat} {mu : bs_Mm} (hn : n ≤ 60) (h : mh_ok m n r mu) (hp : p < n) : FX12_find m mu (nI p) = some (nI (r p)) := by
  obtain ⟨hd, hh⟩ := h
  unfold FX12_find
  refine Exists.elim (fg_lp_i (body := FX12_find_b2 m mu (nI p)) (fun rr s => ∃ z, s = nI z ∧ z < n ∧ r z = r p ∧ rr = z) (fun t => t = nI (r p)) (fun rr s hJ => ?_) fg_fu p (nI p) ⟨p, rfl, hp, rfl, rfl⟩ (fg_fu_lt (by omega))) (fun t ht => ?_)
  · obtain ⟨z, e1, hz, hr, hrr⟩ := hJ
    subst e1
    obtain ⟨k1, k2, k3, k4, k5⟩ := hh z hz
    by_cases c : hd z = z
    · refine Or.inr ⟨nI z, ?_, by rw [← hr, k4 c]⟩
      unfold FX12_find_b2
      simp (disch := omega) only [fg_gd_t, fg_bd_s, fg_b2_s, fg_wr_s, fg_let_s, fn_add, fn_sub, fn_mul, fn_cl, fn_lt, fn_le, fn_eq, fn_eq0, fn_lt0, fn_0le, fn_0lt, fn_le0, fn_in, fn_shl, fn_shr, fa_and, fa_or, bs_xorI, if_true, if_false, k1, c]
    · refine Or.inl ⟨nI (hd z), hd z, ?_, by omega, hd z, rfl, by omega, by rw [k5, hr], rfl⟩
      unfold FX12_find_b2
      simp (disch := omega) only [fg_gd_t, fg_bd_s, fg_b2_s, fg_wr_s, fg_let_s, fn_add, fn_sub, fn_mul, fn_cl, fn_lt, fn_le, fn_eq, fn_eq0, fn_lt0, fn_0le, fn_0lt, fn_le0, fn_in, fn_shl, fn_shr, fa_and, fa_or, bs_xorI, if_true, if_false, k1, if_neg c]
  · rw [ht.1, fg_bd_s, ht.2]
theorem tf_joinR {m n p q : Nat} {r : Nat → Nat} {mu : bs_Mm} (hn : n ≤ 60) (hr : ∀ p, p < n → r p ≤ p ∧ r (r p) = r p) (h : mh_ok m n r mu) (hp : p < n) (hq : q < n) : ∃ mu', FX12_joinTo m mu (nI p) (nI q) = some mu' ∧ mh_ok m n (rf_m r p q) mu' ∧ ∀ a, a ≠ m + 15 → mu' a = mu a := by
  have f1 := tf_findR hn h hp
  have f2 := tf_findR hn h hq
  obtain ⟨hd, hh⟩ := h
  have rp := hr p hp
  have rq := hr q hq
  have mm := rf_mx (r := r) (p := p) (q := q)
  have rg : r (max (r p) (r q)) = max (r p) (r q) := by
    rcases mm.1 with h | h
    · rw [h]
      exact rp.2
    · rw [h]
      exact rq.2
  have rk : r (min (r p) (r q)) = min (r p) (r q) := by
    rcases mm.2 with h | h
    · rw [h]
      exact rp.2
    · rw [h]
      exact rq.2
  obtain ⟨g, hg⟩ : ∃ g, g = max (r p) (r q) := ⟨_, rfl⟩
  obtain ⟨k, hk⟩ : ∃ k, k = min (r p) (r q) := ⟨_, rfl⟩
  have kg : k ≤ g := by omega
  have gn : g < n := by omega
  rw [← hg] at rg
  rw [← hk] at rk
  have rm : ∀ z, rf_m r p q z = if r z = g then k else r z := fun z => by
    unfold rf_m rf_s
    rw [← hg, ← hk]
  have hdk : hd k = k := by
    have := (hh k (by omega)).2.2.1
    rw [rk] at this
    exact this
  refine ⟨bs_up mu (m + 15) g (.int (nI k)), ?_, ⟨bs_fn hd g k, fun z hz => ?_⟩, fun a ha => bs_up_f ha⟩
  · unfold FX12_joinTo
    rw [f1, fg_bd_s, f2, fg_bd_s, (nI_mxmn (a := r p) (b := r q) (by omega) (by omega)).1, (nI_mxmn (a := r p) (b := r q) (by omega) (by omega)).2, ← hg, ← hk, fn_in (show g < 60 by omega) (by decide), fg_gd_t, fn_cl (show g < 2 ^ 31 by omega), fg_wr_s]
  · obtain ⟨k1, k2, k3, k4, k5⟩ := hh z hz
    have up : bs_iv (bs_up mu (m + 15) g (.int (nI k)) (m + 15) z) = nI (bs_fn hd g k z) := by
      by_cases c : z = g
      · subst c
        rw [bs_up_eq, bs_fn_s]
        rfl
      · rw [bs_up_j c, bs_fn_n c]
        exact k1
    refine ⟨up, ?_, ?_, ?_, ?_⟩
    · by_cases c : z = g
      · subst c
        rw [bs_fn_s]
        exact kg
      · rw [bs_fn_n c]
        exact k2
    · rw [rm]
      by_cases c : r z = g
      · rw [if_pos c]
        by_cases d : k = g
        · rw [d, bs_fn_s]
        · rw [bs_fn_n d]
          exact hdk
      · rw [if_neg c, bs_fn_n c]
        exact k3
    · intro w
      rw [rm]
      by_cases c : z = g
      · subst c
        rw [bs_fn_s] at w
        rw [if_pos rg]
        exact w
      · rw [bs_fn_n c] at w
        have := k4 w
        rw [if_neg (by rw [this]; exact c)]
        exact this
    · rw [rm, rm]
      by_cases c : z = g
      · subst c
        rw [bs_fn_s, rk, if_pos rg]
        split <;> rfl
      · rw [bs_fn_n c, k5]
