/-! READING A RULE (own): the model's side: saying, looking, faults -/
theorem u_l_app (c d : List Nat) : u_l (c ++ d) = u_l c + u_l d := by
  induction c with
  | nil => exact (Nat.zero_add _).symm
  | cons i c ih =>
    show (if i < 20000 then 2 else 1) + u_l (c ++ d) = (if i < 20000 then 2 else 1) + u_l c + u_l d
    rw [ih]
    omega
theorem u_t_app {cd : Nat → Int32} : ∀ (c d : List Nat) (b : Nat), u_t cd b (c ++ d) ↔ u_t cd b c ∧ u_t cd (b + u_l c) d := by
  intro c
  induction c with
  | nil =>
    intro d b
    exact ⟨fun h => ⟨trivial, h⟩, fun h => h.2⟩
  | cons i c ih =>
    intro d b
    show (if i < 20000 then _ else _) ↔ (if i < 20000 then _ else _) ∧ u_t cd (b + ((if i < 20000 then 2 else 1) + u_l c)) d
    by_cases h : i < 20000
    · have := ih d (b + 2)
      rw [if_pos h, if_pos h, if_pos h, show b + (2 + u_l c) = b + 2 + u_l c by omega]
      exact ⟨fun k => ⟨⟨k.1, k.2.1, (this.mp k.2.2).1⟩, (this.mp k.2.2).2⟩, fun k => ⟨k.1.1, k.1.2.1, this.mpr ⟨k.1.2.2, k.2⟩⟩⟩
    · have := ih d (b + 1)
      rw [if_neg h, if_neg h, if_neg h, show b + (1 + u_l c) = b + 1 + u_l c by omega]
      exact ⟨fun k => ⟨⟨k.1, (this.mp k.2).1⟩, (this.mp k.2).2⟩, fun k => ⟨k.1.1, this.mpr ⟨k.1.2, k.2⟩⟩⟩
theorem u_t_cg {cd cd' : Nat → Int32} : ∀ (c : List Nat) (b : Nat), u_t cd b c → (∀ j, b ≤ j → j < b + u_l c → cd' j = cd j) → u_t cd' b c := by
  intro c
  induction c with
  | nil => intro b _ _; trivial
  | cons i c ih =>
    intro b h e
    have e : ∀ j, b ≤ j → j < b + ((if i < 20000 then 2 else 1) + u_l c) → cd' j = cd j := e
    by_cases k : i < 20000
    · have h := (if_pos k).mp h
      rw [if_pos k] at e
      exact (if_pos k).mpr ⟨by rw [e b (by omega) (by omega)]; exact h.1, by rw [e (b + 1) (by omega) (by omega)]; exact h.2.1, ih _ h.2.2 fun j h1 h2 => e j (by omega) (by omega)⟩
    · have h := (if_neg k).mp h
      rw [if_neg k] at e
      exact (if_neg k).mpr ⟨by rw [e b (by omega) (by omega)]; exact h.1, ih _ h.2 fun j h1 h2 => e j (by omega) (by omega)⟩
/-- what is said, in block q -/
def qcd (m q : Nat) (mu : bs_Mm) : Nat → Int32 := fun j => bs_iv (mu (m + 18) (400 * q + j))
/-- what may change: below s all that is said stays -/
def mqr (m q s : Nat) (mu mu' : bs_Mm) : Prop := (∀ k, k ≠ 8 → k ≠ 9 → k ≠ 10 → k ≠ 33 → mu' m k = mu m k) ∧ (∀ a, a ≠ m → a ≠ m + 18 → mu' a = mu a) ∧ ∀ j, (j < 400 * q + s ∨ 400 * q + 400 ≤ j) → mu' (m + 18) j = mu (m + 18) j
theorem mqr_rfl (m q s : Nat) (mu : bs_Mm) : mqr m q s mu mu := ⟨fun _ _ _ _ _ => rfl, fun _ _ _ => rfl, fun _ _ => rfl⟩
theorem mqr_le {m q s s' : Nat} {mu mu' : bs_Mm} (h : mqr m q s' mu mu') (hs : s ≤ s') : mqr m q s mu mu' := ⟨h.1, h.2.1, fun j hj => h.2.2 j (by omega)⟩
theorem mqr_tr {m q s s' : Nat} {mu mu1 mu2 : bs_Mm} (h : mqr m q s mu mu1) (k : mqr m q s' mu1 mu2) (hs : s ≤ s') : mqr m q s mu mu2 := ⟨fun j h1 h2 h3 h4 => (k.1 j h1 h2 h3 h4).trans (h.1 j h1 h2 h3 h4), fun a h1 h2 => (k.2.1 a h1 h2).trans (h.2.1 a h1 h2), fun j hj => (k.2.2 j (by omega)).trans (h.2.2 j hj)⟩
/-- only fields of the model change -/
theorem mqr_m {m q s : Nat} {mu mu' : bs_Mm} (h : ∀ k, k ≠ 8 → k ≠ 9 → k ≠ 10 → k ≠ 33 → mu' m k = mu m k) (f : ∀ a, a ≠ m → mu' a = mu a) : mqr m q s mu mu' := ⟨h, fun a ha _ => f a ha, fun j _ => by rw [f _ (by omega)]⟩
theorem qcd_fr {m q s j : Nat} {mu mu' : bs_Mm} (h : mqr m q s mu mu') (hj : j < s) : qcd m q mu' j = qcd m q mu j := by
  unfold qcd
  rw [h.2.2 _ (Or.inl (by omega))]
theorem tf_say {m q s : Nat} {v : Int32} {mu : bs_Mm} (h32 : bs_iv (mu m 32) = nI q) (hq : q ≤ 6) (h33 : bs_iv (mu m 33) = nI s) (hs : s < 400) : ∃ mu', FX12_say m mu v = some mu' ∧ qcd m q mu' s = v ∧ (∀ j, j ≠ s → qcd m q mu' j = qcd m q mu j) ∧ bs_iv (mu' m 33) = nI (s + 1) ∧ (∀ k, k ≠ 33 → mu' m k = mu m k) ∧ mqr m q s mu mu' := by
  obtain ⟨m1, hm1⟩ : ∃ y, y = bs_up mu (m + 18) (400 * q + s) (.int v) := ⟨_, rfl⟩
  have e33 : bs_iv (m1 m 33) = nI s := by rw [hm1, bs_up_f (by omega)]; exact h33
  refine ⟨bs_up m1 m 33 (.int (nI (s + 1))), ?_, ?_, fun j hj => ?_, by rw [bs_up_eq]; rfl, fun k hk => by rw [bs_up_j hk, hm1, bs_up_f (by omega)], fun k _ _ _ k33 => by rw [bs_up_j k33, hm1, bs_up_f (by omega)], fun a h1 h2 => by rw [bs_up_f h1, hm1, bs_up_f h2], fun j hj => by rw [bs_up_f (by omega), hm1, bs_up_j (by omega)]⟩
  · unfold FX12_say
    rw [h32, h33, fn_mul, fn_add, fn_in (show 400 * q + s < 2800 by omega) (by decide), fg_gd_t, fn_cl (by omega), fg_wr_s, ← hm1, e33, fn_add, fg_wr_s]
  · unfold qcd
    rw [bs_up_f (by omega), hm1, bs_up_eq]
    rfl
  · unfold qcd
    rw [bs_up_f (by omega), hm1, bs_up_j (by omega)]
/-- the model's state: at a, deep ne, s said in block q -/
def gM (m n q ne a s : Nat) (T : Nat → Nat) (mu : bs_Mm) : Prop := mT m n T mu ∧ bs_iv (mu m 8) = nI a ∧ bs_iv (mu m 9) = -1 ∧ bs_iv (mu m 10) = nI ne ∧ bs_iv (mu m 32) = nI q ∧ bs_iv (mu m 33) = nI s ∧ a ≤ n ∧ q ≤ 6 ∧ ne ≤ 6 ∧ s + 4 ≤ 2 * a
theorem gM_say {m n q ne a s : Nat} {T : Nat → Nat} {v : Int32} {mu : bs_Mm} (h : gM m n q ne a s T mu) (h2 : s + 1 + 4 ≤ 2 * a) : ∃ mu', FX12_say m mu v = some mu' ∧ gM m n q ne a (s + 1) T mu' ∧ qcd m q mu' s = v ∧ mqr m q s mu mu' := by
  obtain ⟨i1, i2, i3, i4, i5, i6, i7, i8, i9, i10⟩ := h
  have := i1.2.1
  obtain ⟨mu', k1, k2, k3, k4, k5, k6⟩ := tf_say (v := v) i5 i8 i6 (by omega)
  exact ⟨mu', k1, ⟨mT_of i1 (k5 7 (by decide)) (k6.2.1 _ (by omega) (by omega)), by rw [k5 8 (by decide)]; exact i2, by rw [k5 9 (by decide)]; exact i3, by rw [k5 10 (by decide)]; exact i4, by rw [k5 32 (by decide)]; exact i5, k4, i7, i8, i9, h2⟩, k2, k6⟩
/-- one step on -/
theorem gM_go {m n q ne a s : Nat} {T : Nat → Nat} {mu : bs_Mm} (h : gM m n q ne a s T mu) (ha : a < n) : gM m n q ne (a + 1) s T (bs_up mu m 8 (.int (nI (a + 1)))) ∧ mqr m q 400 mu (bs_up mu m 8 (.int (nI (a + 1)))) := by
  obtain ⟨i1, i2, i3, i4, i5, i6, i7, i8, i9, i10⟩ := h
  exact ⟨⟨mT_of i1 (bs_up_j (by decide)) (bs_up_f (by omega)), by rw [bs_up_eq]; rfl, by rw [bs_up_j (by decide)]; exact i3, by rw [bs_up_j (by decide)]; exact i4, by rw [bs_up_j (by decide)]; exact i5, by rw [bs_up_j (by decide)]; exact i6, ha, i8, i9, by omega⟩, mqr_m (fun k k8 _ _ _ => bs_up_j k8) fun a ha => bs_up_f ha⟩
def gD (n : Nat) (T : Nat → Nat) (a dg : Nat) : Prop := dg = 0 ∨ ¬ tdg n T a
/-- both look on -/
theorem rg_look {x m n q a s dg nm : Nat} {T : Nat → Nat} {U : bs_U} {tj : Option (List Nat)} {c : List Nat} {W : List (Nat × Nat)} {kd ne pa pl : Nat} {mc mm : bs_Mm} (hS : qS x U tj c W kd ne pa pl dg mc) (hC : cT x n T mc) (hg : gD n T a dg) (hM : gM m n q nm a s T mm) : ∃ a2 mc2 mm2 dg2, FX12_look m mm = some (tch n T a2, mm2) ∧ qS x U tj c W kd ne pa pl dg2 mc2 ∧ cT x n T mc2 ∧ gD n T a2 dg2 ∧ gM m n q nm a2 s T mm2 ∧ a ≤ a2 ∧ ¬ (a2 < n ∧ T a2 = 32) ∧ rq_go x n a mc = rq_go x n a2 mc2 ∧ qfr x mc mc2 ∧ mqr m q 400 mm mm2 ∧ (dg = 0 → dg2 = 0) ∧ (∀ i, a ≤ i → i < a2 → T i = 32) := by
  obtain ⟨i1, i2, i3, i4, i5, i6, i7, i8, i9, i10⟩ := id hM
  obtain ⟨a2, mm2, k1, k2, k3, k4, k5, k6, k7, k8⟩ := tf_look i1 i2 i7
  obtain ⟨mc2, r1, r2, r3, r4, r5⟩ := rq_skip (x := x) (a2 - a) a a2 mc (by omega) k3 hC k4
  have C2 : cT x n T mc2 := cT_of hC (r5 _ (by omega)) (r5 _ (by omega))
  have M2 : gM m n q nm a2 s T mm2 := ⟨mT_of i1 (k7 7 (by decide)) (k8 _ (by omega)), k6, by rw [k7 9 (by decide)]; exact i3, by rw [k7 10 (by decide)]; exact i4, by rw [k7 32 (by decide)]; exact i5, by rw [k7 33 (by decide)]; exact i6, k3, i8, i9, by omega⟩
  have mf : mqr m q 400 mm mm2 := mqr_m (fun k k8 _ _ _ => k7 k k8) k8
  have cf : qfr x mc mc2 := fun b hb => r5 b (by omega)
  by_cases c : a < a2
  · exact ⟨a2, mc2, mm2, 0, k1, ⟨qc_of hS.1 (fun k _ k9 => r4 k k9) r5, by rw [r4 5 (by decide)]; exact hS.2.1, r3 c⟩, C2, Or.inl rfl, M2, k2, k5, r1, cf, mf, fun _ => rfl, k4⟩
  · have e : a2 = a := by omega
    have e2 := r2 e
    refine ⟨a2, mc2, mm2, dg, k1, by rw [e2]; exact hS, C2, by rw [e]; exact hg, M2, k2, k5, r1, cf, mf, fun h => h, k4⟩
/-- a fault at p: both find it; e is room for what is still said -/
def gN (e x m n q : Nat) (T : Nat → Nat) (a s : Nat) (mc mm mm' : bs_Mm) : Prop := ∃ p s', bs_iv (mm' m 9) = nI p ∧ a ≤ p ∧ p ≤ n ∧ rq_F x n a mc p ∧ bs_iv (mm' m 33) = nI s' ∧ s' + e ≤ s + 2 * (p - a) ∧ mqr m q 0 mm mm'
theorem gN_up {e x m n q a a2 s s2 : Nat} {T : Nat → Nat} {mc mm mc2 mm2 mm' : bs_Mm} (h1 : rq_go x n a mc = rq_go x n a2 mc2) (h2 : qfr x mc mc2) (h3 : mqr m q 0 mm mm2) (h4 : a ≤ a2) (h5 : s2 + e ≤ s + 2 * (a2 - a)) (h : gN 0 x m n q T a2 s2 mc2 mm2 mm') : gN e x m n q T a s mc mm mm' := by
  obtain ⟨p, s', k1, k2, k3, k4, k5, k6, k7⟩ := h
  exact ⟨p, s', k1, by omega, k3, rq_F_go h1 h2 k4, k5, by omega, mqr_tr h3 k7 (Nat.le_refl _)⟩
theorem gN_say {x m n q ne a s : Nat} {T : Nat → Nat} {v : Int32} {mc mm mm' : bs_Mm} (hM : gM m n q ne a s T mm) (h : gN 1 x m n q T a s mc mm mm') : ∃ mm2, FX12_say m mm' v = some mm2 ∧ gN 0 x m n q T a s mc mm mm2 := by
  obtain ⟨p, s', k1, k2, k3, k4, k5, k6, k7⟩ := h
  obtain ⟨i1, i2, i3, i4, i5, i6, i7, i8, i9, i10⟩ := hM
  have := i1.2.1
  obtain ⟨mm2, t1, t2, t3, t4, t5, t6⟩ := tf_say (v := v) (m := m) (q := q) (s := s') (mu := mm') (by rw [k7.1 32 (by decide) (by decide) (by decide) (by decide)]; exact i5) i8 k5 (by omega)
  exact ⟨mm2, t1, p, s' + 1, by rw [t5 9 (by decide)]; exact k1, k2, k3, k4, t4, by omega, mqr_tr k7 t6 (by omega)⟩
theorem gN_0 {e x m n q a s : Nat} {T : Nat → Nat} {mc mm mm' : bs_Mm} (h : gN e x m n q T a s mc mm mm') : gN 0 x m n q T a s mc mm mm' := by
  obtain ⟨p, s', k1, k2, k3, k4, k5, k6, k7⟩ := h
  exact ⟨p, s', k1, k2, k3, k4, k5, by omega, k7⟩
/-- behind a fault only fields change that nobody asks for -/
theorem gN_m {e x m n q a s : Nat} {T : Nat → Nat} {mc mm mm1 mm2 : bs_Mm} (h : gN e x m n q T a s mc mm mm1) (k : ∀ k, k ≠ 8 → k ≠ 10 → mm2 m k = mm1 m k) (f : ∀ a, a ≠ m → mm2 a = mm1 a) : gN e x m n q T a s mc mm mm2 := by
  obtain ⟨p, s', k1, k2, k3, k4, k5, k6, k7⟩ := h
  exact ⟨p, s', by rw [k 9 (by decide) (by decide)]; exact k1, k2, k3, k4, by rw [k 33 (by decide) (by decide)]; exact k5, k6, mqr_tr (s' := 0) k7 (mqr_m (fun j j8 _ j10 _ => k j j8 j10) f) (Nat.le_refl _)⟩
/-- the model refuses here -/
theorem gN_bad {x m n q ne a s : Nat} {T : Nat → Nat} {mc mm : bs_Mm} (hM : gM m n q ne a s T mm) (hF : rq_F x n a mc a) : FX12_bad m mm = some (bs_up mm m 9 (.int (nI a))) ∧ gN 0 x m n q T a s mc mm (bs_up mm m 9 (.int (nI a))) := by
  obtain ⟨i1, i2, i3, i4, i5, i6, i7, i8, i9, i10⟩ := hM
  exact ⟨tf_bad i3 i2, a, s, by rw [bs_up_eq]; rfl, Nat.le_refl _, i7, hF, by rw [bs_up_j (by decide)]; exact i6, by omega, mqr_m (fun k _ k9 _ _ => bs_up_j k9) fun b hb => bs_up_f hb⟩
/-- in a fault: what is wrong -/
theorem gN_9 {e x m n q a s : Nat} {T : Nat → Nat} {mc mm mm' : bs_Mm} (hT : n ≤ 200) (h : gN e x m n q T a s mc mm mm') : ¬ bs_iv (mm' m 9) = -1 ∧ FX12_bad m mm' = some (bs_up mm' m 9 (.int (bs_iv (mm' m 9)))) := by
  obtain ⟨p, s', k1, k2, k3, k4, k5, k6, k7⟩ := h
  rw [k1]
  exact ⟨al_nm (by omega), tf_bad2 (by omega) k1⟩
theorem gN_b2 {e x m n q a s : Nat} {T : Nat → Nat} {mc mm mm' : bs_Mm} (h : gN e x m n q T a s mc mm mm') : gN e x m n q T a s mc mm (bs_up mm' m 9 (.int (bs_iv (mm' m 9)))) := by
  obtain ⟨p, s', k1, k2, k3, k4, k5, k6, k7⟩ := h
  exact ⟨p, s', by rw [bs_up_eq]; exact k1, k2, k3, k4, by rw [bs_up_j (by decide)]; exact k5, k6, mqr_tr (s' := 0) k7 (mqr_m (fun j _ j9 _ _ => bs_up_j j9) fun b hb => bs_up_f hb) (Nat.le_refl _)⟩
