/-! READING A RULE (own): both sides: a CLAUSE (1) -/
theorem u_y_app (U : bs_U) (q : List Nat × List Nat) : u_y (U ++ [q]) = u_y U + u_l q.1 + u_l q.2 := by
  induction U with
  | nil =>
    show u_l q.1 + u_l q.2 + 0 = 0 + _ + _
    omega
  | cons p U ih =>
    show u_l p.1 + u_l p.2 + u_y (U ++ [q]) = u_l p.1 + u_l p.2 + u_y U + _ + _
    rw [ih]
    omega
theorem u_q_app {cd tt ss : Nat → Int32} (q : List Nat × List Nat) : ∀ (U : bs_U) (k b : Nat), u_q cd tt ss k b U → u_t cd (b + u_y U) q.1 → tt (k + U.length) = nI (b + u_y U + u_l q.1) → u_t cd (b + u_y U + u_l q.1) q.2 → ss (k + U.length) = nI (b + u_y U + u_l q.1 + u_l q.2) → u_q cd tt ss k b (U ++ [q]) := by
  intro U
  induction U with
  | nil => intro k b _ h1 h2 h3 h4; exact ⟨h1, h2, h3, h4, trivial⟩
  | cons p U ih =>
    intro k b h h1 h2 h3 h4
    obtain ⟨g1, g2, g3, g4, g5⟩ := h
    have e1 : b + u_y (p :: U) = b + u_l p.1 + u_l p.2 + u_y U := by
      show b + (u_l p.1 + u_l p.2 + u_y U) = _
      omega
    have e2 : k + (p :: U).length = k + 1 + U.length := by rw [List.length_cons]; omega
    rw [e1] at h1 h2 h3 h4
    rw [e2] at h2 h4
    exact ⟨g1, g2, g3, g4, ih _ _ g5 h1 h2 h3 h4⟩
theorem u_q_cg {cd tt ss cd' tt' ss' : Nat → Int32} : ∀ (U : bs_U) (k b : Nat), u_q cd tt ss k b U → (∀ j, j < b + u_y U → cd' j = cd j) → (∀ i, i < k + U.length → tt' i = tt i ∧ ss' i = ss i) → u_q cd' tt' ss' k b U := by
  intro U
  induction U with
  | nil => intro k b _ _ _; trivial
  | cons p U ih =>
    intro k b h e f
    obtain ⟨g1, g2, g3, g4, g5⟩ := h
    have e : ∀ j, j < b + (u_l p.1 + u_l p.2 + u_y U) → cd' j = cd j := e
    have f : ∀ i, i < k + (U.length + 1) → tt' i = tt i ∧ ss' i = ss i := f
    exact ⟨u_t_cg _ _ g1 fun j _ hj => e j (by omega), by rw [(f k (by omega)).1]; exact g2, u_t_cg _ _ g3 fun j _ hj => e j (by omega), by rw [(f k (by omega)).2]; exact g4, ih _ _ g5 (fun j hj => e j (by omega)) fun i hi => f i (by omega)⟩
/-- what may change while a rule is read into block q -/
def mqR (m q : Nat) (mu mu' : bs_Mm) : Prop := (∀ k, k ≠ 8 → k ≠ 9 → k ≠ 10 → k ≠ 32 → k ≠ 33 → mu' m k = mu m k) ∧ (∀ a, a ≠ m → a ≠ m + 18 → a ≠ m + 19 → a ≠ m + 20 → a ≠ m + 21 → mu' a = mu a) ∧ (∀ j, (j < 400 * q ∨ 400 * q + 400 ≤ j) → mu' (m + 18) j = mu (m + 18) j) ∧ (∀ j, j ≠ q → mu' (m + 19) j = mu (m + 19) j) ∧ ∀ j, (j < 64 * q ∨ 64 * q + 64 ≤ j) → mu' (m + 20) j = mu (m + 20) j ∧ mu' (m + 21) j = mu (m + 21) j
theorem mqR_rfl (m q : Nat) (mu : bs_Mm) : mqR m q mu mu := ⟨fun _ _ _ _ _ _ => rfl, fun _ _ _ _ _ _ => rfl, fun _ _ => rfl, fun _ _ => rfl, fun _ _ => ⟨rfl, rfl⟩⟩
theorem mqR_tr {m q : Nat} {mu mu1 mu2 : bs_Mm} (h : mqR m q mu mu1) (k : mqR m q mu1 mu2) : mqR m q mu mu2 := ⟨fun j h1 h2 h3 h4 h5 => (k.1 j h1 h2 h3 h4 h5).trans (h.1 j h1 h2 h3 h4 h5), fun a h1 h2 h3 h4 h5 => (k.2.1 a h1 h2 h3 h4 h5).trans (h.2.1 a h1 h2 h3 h4 h5), fun j hj => (k.2.2.1 j hj).trans (h.2.2.1 j hj), fun j hj => (k.2.2.2.1 j hj).trans (h.2.2.2.1 j hj), fun j hj => ⟨(k.2.2.2.2 j hj).1.trans (h.2.2.2.2 j hj).1, (k.2.2.2.2 j hj).2.trans (h.2.2.2.2 j hj).2⟩⟩
theorem mqR_of {m q s : Nat} {mu mu' : bs_Mm} (h : mqr m q s mu mu') : mqR m q mu mu' := ⟨fun k h1 h2 h3 _ h5 => h.1 k h1 h2 h3 h5, fun a h1 h2 _ _ _ => h.2.1 a h1 h2, fun j hj => h.2.2 j (by omega), fun j _ => by rw [h.2.1 _ (by omega) (by omega)], fun j _ => by rw [h.2.1 _ (by omega) (by omega), h.2.1 _ (by omega) (by omega)]; exact ⟨rfl, rfl⟩⟩
theorem mqR_tt {m q k : Nat} {v : Value} {mu : bs_Mm} (hk : k < 64) : mqR m q mu (bs_up mu (m + 20) (64 * q + k) v) ∧ mqR m q mu (bs_up mu (m + 21) (64 * q + k) v) :=
  ⟨⟨fun _ _ _ _ _ _ => by rw [bs_up_f (by omega)], fun a _ _ _ h _ => bs_up_f h, fun _ _ => by rw [bs_up_f (by omega)], fun _ _ => by rw [bs_up_f (by omega)], fun j hj => ⟨bs_up_j (by omega), by rw [bs_up_f (by omega)]⟩⟩, ⟨fun _ _ _ _ _ _ => by rw [bs_up_f (by omega)], fun a _ _ _ _ h => bs_up_f h, fun _ _ => by rw [bs_up_f (by omega)], fun _ _ => by rw [bs_up_f (by omega)], fun j hj => ⟨by rw [bs_up_f (by omega)], bs_up_j (by omega)⟩⟩⟩
/-- the clauses that are read, in block q -/
def gB (m q : Nat) (U : bs_U) (mu : bs_Mm) : Prop := u_q (qcd m q mu) (fun k => bs_iv (mu (m + 20) (64 * q + k))) (fun k => bs_iv (mu (m + 21) (64 * q + k))) 0 0 U
theorem gB_r {m q s : Nat} {U : bs_U} {mu mu' : bs_Mm} (h : gB m q U mu) (k : mqr m q s mu mu') (hs : u_y U ≤ s) : gB m q U mu' := u_q_cg _ _ _ h (fun j hj => qcd_fr k (by omega)) fun i _ => ⟨by show bs_iv (mu' (m + 20) _) = _; rw [k.2.1 _ (by omega) (by omega)], by show bs_iv (mu' (m + 21) _) = _; rw [k.2.1 _ (by omega) (by omega)]⟩
theorem gB_t {m q k : Nat} {v : Value} {U : bs_U} {mu : bs_Mm} (h : gB m q U mu) (hk : U.length ≤ k) : gB m q U (bs_up mu (m + 20) (64 * q + k) v) ∧ gB m q U (bs_up mu (m + 21) (64 * q + k) v) := by
  refine ⟨u_q_cg _ _ _ h (fun j _ => ?_) fun i hi => ⟨?_, ?_⟩, u_q_cg _ _ _ h (fun j _ => ?_) fun i hi => ⟨?_, ?_⟩⟩
  · unfold qcd
    rw [bs_up_f (by omega)]
  · show bs_iv (bs_up mu (m + 20) _ _ (m + 20) _) = _
    rw [bs_up_j (by omega)]
  · show bs_iv (bs_up mu (m + 20) _ _ (m + 21) _) = _
    rw [bs_up_f (by omega)]
  · unfold qcd
    rw [bs_up_f (by omega)]
  · show bs_iv (bs_up mu (m + 21) _ _ (m + 20) _) = _
    rw [bs_up_f (by omega)]
  · show bs_iv (bs_up mu (m + 21) _ _ (m + 21) _) = _
    rw [bs_up_j (by omega)]
theorem gM_t {m n q ne a s i j : Nat} {v : Value} {T : Nat → Nat} {mu : bs_Mm} (h : gM m n q ne a s T mu) (hi : m + 19 ≤ i) : gM m n q ne a s T (bs_up mu i j v) := by
  obtain ⟨i1, i2, i3, i4, i5, i6, i7, i8, i9, i10⟩ := h
  have e : bs_up mu i j v m = mu m := bs_up_f (by omega)
  exact ⟨mT_of i1 (by rw [e]) (bs_up_f (by omega)), by rw [e]; exact i2, by rw [e]; exact i3, by rw [e]; exact i4, by rw [e]; exact i5, by rw [e]; exact i6, i7, i8, i9, i10⟩
def gW (m q : Nat) (U : bs_U) (mu : bs_Mm) : Prop := bs_iv (mu (m + 19) q) = nI U.length ∧ gB m q U mu
/-- the clause's end: how far its sum goes is written down -/
theorem cl_end {m n q a : Nat} {T : Nat → Nat} {U : bs_U} {te d : List Nat} {mu : bs_Mm} (hM : gM m n q 0 a (u_y U + u_l te + u_l d) T mu) (hB : gB m q U mu) (h1 : u_t (qcd m q mu) (u_y U) te) (h2 : u_t (qcd m q mu) (u_y U + u_l te) d) (h3 : bs_iv (mu (m + 19) q) = nI (U.length + 1)) (h4 : bs_iv (mu (m + 20) (64 * q + U.length)) = nI (u_y U + u_l te)) (hl : U.length < 64) : ∃ mu', (fg_gd (fg_in (nI (64 * q + U.length)) 448) (fg_wr mu (m + 21) (nI (64 * q + U.length)).toNatClampNeg (.int (bs_iv (mu m 33))) (fun mu23 => some mu23))) = some mu' ∧ gM m n q 0 a (u_y (U ++ [(te, d)])) T mu' ∧ gW m q (U ++ [(te, d)]) mu' ∧ mqR m q mu mu' := by
  have q6 := hM.2.2.2.2.2.2.2.1
  have cdE : ∀ j, qcd m q (bs_up mu (m + 21) (64 * q + U.length) (.int (nI (u_y U + u_l te + u_l d)))) j = qcd m q mu j := fun j => by
    unfold qcd
    rw [bs_up_f (by omega)]
  refine ⟨bs_up mu (m + 21) (64 * q + U.length) (.int (nI (u_y U + u_l te + u_l d))), ?_, by rw [u_y_app]; exact gM_t hM (by omega), ⟨by rw [bs_up_f (by omega), List.length_append]; exact h3, u_q_app _ _ _ _ (gB_t hB (Nat.le_refl _)).2 ?_ ?_ ?_ ?_⟩, (mqR_tt hl).2⟩
  · rw [fn_in (show 64 * q + U.length < 448 by omega) (by decide), fg_gd_t, fn_cl (by omega), hM.2.2.2.2.2.1, fg_wr_s]
  · rw [Nat.zero_add]
    exact u_t_cg _ _ h1 fun j _ _ => cdE j
  · rw [Nat.zero_add, Nat.zero_add]
    show bs_iv (bs_up mu (m + 21) _ _ (m + 20) _) = _
    rw [bs_up_f (by omega)]
    exact h4
  · rw [Nat.zero_add]
    exact u_t_cg _ _ h2 fun j _ _ => cdE j
  · rw [Nat.zero_add, Nat.zero_add]
    show bs_iv (bs_up mu (m + 21) (64 * q + U.length) _ (m + 21) (64 * q + U.length)) = _
    rw [bs_up_eq]
    rfl
/-- a condition whose first sum is read -/
theorem sim_cond1 {x m n q : Nat} {T : Nat → Nat} {U : bs_U} {tj : Option (List Nat)} {c : List Nat} {kd pa a s a1 : Nat} {mc mm mm1 : bs_Mm} (hM : gM m n q 0 a s T mm) (hpa : pa = 0) (h : gYa 5 false x m n q 0 T U tj c [] kd pa a s mc mm a1 kd mm1) (h5 : q_s5 n T a1) (hk : kd = 0 ∧ a1 < n ∧ q_cm (T a1)) : ∃ mm', FX12_condition m (fg_rU m 8) mm1 (nI 1) = some mm' ∧ gLe 1 true (q_sC n T) x m n q 0 T U tj c [] kd pa a s mc mm mm' := by
  have hrU : q_SIU x m n q 0 T U tj (fg_rU m 8) := sim_rU 8 0 (by decide) (by decide)
  obtain ⟨mm2, l1, l2⟩ := gYa_lookN h h5.1
  obtain ⟨d1, e1, e2⟩ := gYa_M h
  obtain ⟨mm3, y1, y2⟩ := sim_cmp (rU := fg_rU m 7) hM (by omega) l2 h5 (Or.inr hk) (fun w W e => by cases e)
  have un : fg_rU m 8 mm1 (nI 1) = some mm3 := by
    show FX12_unit m (fg_rU m 7) mm1 (nI 1) = some mm3
    unfold FX12_unit
    rw [e1.2.2.1, if_pos rfl, l1, fg_b2_s]
    unfold FX12_unit_j16
    rw [if_neg (by decide)]
    unfold FX12_unit_j88
    rw [if_neg (by decide)]
    exact y1
  obtain ⟨mm4, t1, t2⟩ := truth_tail (p1 := nI 1) hrU hM (by omega) (fun w W e => by cases e) y2
  obtain ⟨mm5, s1, s2⟩ := cond_tail (p1 := nI 1) hrU hM (by omega) (fun w W e => by cases e) t2
  refine ⟨mm5, ?_, s2⟩
  unfold FX12_condition FX12_truth
  rw [un, fg_bd_s, t1, fg_bd_s]
  exact s1
