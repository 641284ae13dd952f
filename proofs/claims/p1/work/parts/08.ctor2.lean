/-- the cells of a figure at a, of a rule at a -/
def bs_cF (a : Nat) : List bs_Ce := ((1, 10), bs_li0 [.ref (a + 1), .ref (a + 2), .ref (a + 3), .ref (a + 4), .ref (a + 5), .ref (a + 6), .null, .null, .null, .null]) :: [((14, 6), fun _ => .null), ((14, 24), fun _ => .null), ((14, 24), fun _ => .null), ((14, 24), fun _ => .null), ((14, 24), fun _ => .null), ((14, 30), fun _ => .null)]
def bs_cR (a : Nat) : List bs_Ce := ((6, 2), bs_li0 [.ref (a + 1), .null]) :: [((14, 201), fun _ => .null)]
def bs_fa (h n : Nat) : Nat → Value := fun j => if j < n then .ref (h + 63 + 7 * j) else .null
def bs_ra (h n : Nat) : Nat → Value := fun j => if j < n then .ref (h + 147 + 2 * j) else .null
theorem bs_fa_s (h n : Nat) : bs_fu (bs_fa h n) n (.ref (h + 63 + 7 * n)) = bs_fa h (n + 1) := by
  funext j
  simp only [bs_fu, bs_fa]
  by_cases h1 : j = n
  · subst h1; simp
  · by_cases h2 : j < n
    · simp [h1, h2, show j < n + 1 by omega]
    · simp [h1, h2, show ¬ j < n + 1 by omega]
theorem bs_ra_s (h n : Nat) : bs_fu (bs_ra h n) n (.ref (h + 147 + 2 * n)) = bs_ra h (n + 1) := by
  funext j
  simp only [bs_fu, bs_ra]
  by_cases h1 : j = n
  · subst h1; simp
  · by_cases h2 : j < n
    · simp [h1, h2, show j < n + 1 by omega]
    · simp [h1, h2, show ¬ j < n + 1 by omega]
def bs_cA (h : Nat) : List bs_Ce := [((8, 4), bs_li0 [.ref (h + 2), .ref (h + 3), .ref (h + 4), .null]), ((14, 6), fun _ => .null), ((14, 6), fun _ => .null), ((14, 6), fun _ => .null), ((10, 2), bs_li0 [.ref (h + 6), .null]), ((13, 200), fun _ => .null)]
def bs_cB (h : Nat) : List bs_Ce := [((2, 11), bs_li0 [.ref (h + 10), .ref (h + 17), .ref (h + 18), .ref (h + 19), .null, .null, .null, .null, .null, .null, .null]), ((1, 10), bs_li0 [.ref (h + 11), .ref (h + 12), .ref (h + 13), .ref (h + 14), .ref (h + 15), .ref (h + 16), .null, .null, .null, .null]), ((14, 6), fun _ => .null), ((14, 24), fun _ => .null), ((14, 24), fun _ => .null), ((14, 24), fun _ => .null), ((14, 24), fun _ => .null), ((14, 30), fun _ => .null), ((14, 30), fun _ => .null), ((14, 8), fun _ => .null), ((14, 6), fun _ => .null), ((7, 11), bs_li0 [.ref (h + 21), .ref (h + 23), .ref (h + 24), .ref (h + 25), .null, .null, .null, .null, .null, .null, .null]), ((6, 2), bs_li0 [.ref (h + 22), .null]), ((14, 201), fun _ => .null), ((15, 200), fun _ => .null), ((14, 200), fun _ => .null), ((14, 200), fun _ => .null), ((5, 3), bs_li0 [.ref (h + 27), .ref (h + 28), .ref (h + 29)]), ((14, 30), fun _ => .null), ((14, 30), fun _ => .null), ((14, 30), fun _ => .null), ((4, 10), bs_li0 [.ref (h + 31), .ref (h + 32), .ref (h + 33), .ref (h + 34), .ref (h + 35), .null, .null, .null, .null, .null]), ((14, 8), fun _ => .null), ((14, 64), fun _ => .null), ((14, 64), fun _ => .null), ((14, 48), fun _ => .null), ((14, 48), fun _ => .null), ((3, 8), bs_li0 [.ref (h + 37), .ref (h + 38), .ref (h + 39), .ref (h + 40), .ref (h + 41), .ref (h + 42), .ref (h + 43), .ref (h + 44)]), ((14, 1024), fun _ => .null), ((14, 1024), fun _ => .null), ((14, 1024), fun _ => .null), ((14, 1024), fun _ => .null), ((16, 1024), fun _ => .null), ((16, 1024), fun _ => .null), ((14, 72), fun j => if j < 72 then .int (-2) else .null), ((14, 720), fun _ => .null), ((0, 7), bs_li0 [.ref (h + 46), .ref (h + 47), .ref (h + 48), .ref (h + 49), .null, .null, .null]), ((14, 61), fun _ => .null), ((14, 1464), fun _ => .null), ((14, 5), fun _ => .null), ((15, 200), fun _ => .null), ((9, 15), bs_li0 [.ref (h + 51), .int 1, .null, .null, .null, .ref (h + 52), .ref (h + 53), .ref (h + 54), .ref (h + 55), .ref (h + 56), .ref (h + 57), .ref (h + 58), .ref (h + 59), .ref (h + 60), .null]), ((14, 6), fun _ => .null), ((14, 30), fun _ => .null), ((14, 30), fun _ => .null), ((14, 30), fun _ => .null), ((14, 30), fun _ => .null), ((14, 30), fun _ => .null), ((14, 30), fun _ => .null), ((14, 30), fun _ => .null), ((14, 6), fun _ => .null), ((14, 6), fun _ => .null), ((14, 5), fun _ => .null), ((14, 30), fun _ => .null)]
def bs_gS (h : Nat) : List Value := [.ref (h + 1), .ref (h + 5), .ref (h + 7), .ref (h + 8), .ref (h + 9), .ref (h + 20), .ref (h + 26), .ref (h + 30), .ref (h + 36), .ref (h + 45), .ref (h + 50), .ref (h + 61), .ref (h + 62), .null, .null]
/-- the cells behind a BalloonStall at h, with nf figures and nr rules made -/
def bs_cS (h n r : Nat) : List bs_Ce := bs_cA h ++ ((17, 12), bs_fa h n) :: ((18, 6), bs_ra h r) :: (bs_cB h ++ ((List.range n).flatMap (fun j => bs_cF (h + 63 + 7 * j)) ++ (List.range r).flatMap (fun j => bs_cR (h + 147 + 2 * j))))
theorem bs_cFl (h n : Nat) : ((List.range n).flatMap (fun j => bs_cF (h + 63 + 7 * j))).length = 7 * n := by
  induction n with
  | zero => rfl
  | succ n ih => rw [List.range_succ, List.flatMap_append, List.length_append, ih]; simp [bs_cF]; omega
theorem bs_cRl (h n : Nat) : ((List.range n).flatMap (fun j => bs_cR (h + 147 + 2 * j))).length = 2 * n := by
  induction n with
  | zero => rfl
  | succ n ih => rw [List.range_succ, List.flatMap_append, List.length_append, ih]; simp [bs_cR]; omega
theorem bs_cSl (h n r : Nat) : (bs_cS h n r).length = 62 + 7 * n + 2 * r := by
  simp only [bs_cS, List.length_append, List.length_cons, bs_cFl, bs_cRl]
  simp only [bs_cA, bs_cB, List.length_cons, List.length_nil]
  omega
theorem bs_cSf (h n : Nat) : (bs_cS h n 0 ++ bs_cF (h + 63 + 7 * n)).set 6 ((17, 12), bs_fu (bs_fa h n) n (.ref (h + 63 + 7 * n))) = bs_cS h (n + 1) 0 := by
  rw [bs_fa_s]
  simp only [bs_cS, List.range_succ, List.flatMap_append, List.flatMap_cons, List.flatMap_nil, List.range_zero, List.append_nil]
  simp only [bs_cA, List.cons_append, List.nil_append, List.append_assoc, List.set_cons_succ, List.set_cons_zero]
theorem bs_cSr (h r : Nat) : (bs_cS h 12 r ++ bs_cR (h + 147 + 2 * r)).set 7 ((18, 6), bs_fu (bs_ra h r) r (.ref (h + 147 + 2 * r))) = bs_cS h 12 (r + 1) := by
  rw [bs_ra_s]
  simp only [bs_cS, List.range_succ (n := r), List.flatMap_append, List.flatMap_cons, List.flatMap_nil, List.append_nil]
  simp only [bs_cA, List.cons_append, List.nil_append, List.append_assoc, List.set_cons_succ, List.set_cons_zero]
theorem bs_cS0 (h : Nat) : bs_cS h 0 0 = bs_cA h ++ ((17, 12), fun _ => .null) :: ((18, 6), fun _ => .null) :: (bs_cB h ++ []) := by
  have e1 : bs_fa h 0 = fun _ => .null := by funext j; simp [bs_fa]
  have e2 : bs_ra h 0 = fun _ => .null := by funext j; simp [bs_ra]
  simp only [bs_cS, e1, e2, List.range_zero, List.flatMap_nil, List.append_nil]
set_option maxHeartbeats 4000000 in
set_option maxRecDepth 100000 in
theorem s_X11_loop2 {h : Nat} {sh0 : bs_Sh} {mu0 : bs_Mm} : ∀ (k i : Nat), i + k = 6 → ∀ (sh : bs_Sh) (mu : bs_Mm), bs_cr1 h (11, 15) (bs_li0 (bs_gS h)) (bs_cS h 12 i) sh mu sh0 mu0 → bs_W (fun r nx' sh' mu' => r = none ∧ nx' = h + 159 ∧ bs_cr1 h (11, 15) (bs_li0 (bs_gS h)) (bs_cS h 12 6) sh' mu' sh0 mu0) mX11_init (bs_rm 4 158 13469) 165 (bs_mk [(0, .ref h), (1, .int (nI i))]) [] (146 + 2 * i) (12251 + 203 * i) (h + 147 + 2 * i) sh mu := by
  intro k
  induction k with
  | zero =>
    intro i hi sh mu H
    have : i = 6 := by omega
    subst this
    refine bs_iload_n dX11_init_165 rfl ?_
    refine bs_bipush (v := 6) dX11_init_166 (by decide) ?_
    refine bs_icmp_ge (tgt := 190) dX11_init_168 (by decide) (fun c => ?_) (fun c => ?_)
    · exact bs_vret dX11_init_190 rfl (by decide) (by decide) ⟨rfl, rfl, H⟩
    · exact absurd (by decide) c
  | succ k ih =>
    intro i hi sh mu H
    refine bs_iload_n dX11_init_165 rfl ?_
    refine bs_bipush (v := nI 6) dX11_init_166 (by decide) ?_
    refine bs_icmp_ge (tgt := 190) dX11_init_168 (by decide) (fun c => ?_) (fun c => ?_)
    · exact absurd c (nI_ge (by omega) (by omega))
    · refine bs_aload_n dX11_init_171 rfl ?_
      refine bs_getR (b := h + 8) dX11_init_172 fX11_31 (congrArg Prod.fst H.1) (by rw [H.2.1]; rfl) ?_
      refine bs_iload_n dX11_init_175 rfl ?_
      refine bs_new dX11_init_176 nX11_29 (by show 146 + 2 * i + 1 ≤ 158; omega) (by show 12251 + 203 * i + 2 ≤ 13469; omega) ?_
      refine bs_dup dX11_init_179 rfl ?_
      refine bs_callIN dX11_init_180 qX11_92 rfl (s_X6_init (h := h + 147 + 2 * i) bs_ns_s bs_nm_s rfl) rfl rfl (Nat.le_of_ble_eq_true rfl) ⟨⟨by decide, by decide⟩, by show 146 + 2 * i + 1 + 1 ≤ 158; omega, by show 12251 + 203 * i + 2 + 201 ≤ 13469; omega⟩ (fun v0 nx0 sh1 mu1 hp0 => ?_)
      obtain ⟨rfl, rfl, H0⟩ := hp0
      have H1 := H.obj (nx := h + 147 + 2 * i) (by rw [bs_cSl]; omega) H0
      have hr : (bs_cS h 12 i ++ bs_cR (h + 147 + 2 * i))[7]? = some ((18, 6), bs_ra h i) := rfl
      refine bs_aast dX11_init_183 (k := 18) (ci := 6) (n := 6) (by exact (H1.2.2.1 7 _ hr).1) (by decide) (bs_ix_n (j := i) (by omega) (by decide)) (congrArg Prod.fst H0.1) ?_
      have H2 := (H1.set hr (a := h + 8) rfl i (.ref (h + 147 + 2 * i))).eqc (bs_cSr h i)
      refine bs_iinc dX11_init_184 rfl rfl ?_
      refine bs_goto (tgt := 165) dX11_init_187 (by decide) ?_
      refine bs_W.mk [(0, .ref h), (1, .int (nI (i + 1)))] ?_ ?_
      · intro q hq
        simp only [List.mem_cons, List.not_mem_nil, or_false] at hq
        rcases hq with rfl | rfl
        · rfl
        · show some (Value.int (nI i + 1)) = _
          rw [nI_1]
      · have := ih (i + 1) (by omega) _ _ H2
        rw [show 146 + 2 * i + 1 + (bs_rm 1 1 201).cells = 146 + 2 * (i + 1) by show 146 + 2 * i + 1 + 1 = _; omega, show 12251 + 203 * i + bs_nf 6 + (bs_rm 1 1 201).slots = 12251 + 203 * (i + 1) by show 12251 + 203 * i + 2 + 201 = _; omega, show h + 147 + 2 * i + 2 = h + 147 + 2 * (i + 1) by omega]
        exact this
set_option maxHeartbeats 4000000 in
set_option maxRecDepth 100000 in
theorem s_X11_loop1 {h : Nat} {sh0 : bs_Sh} {mu0 : bs_Mm} : ∀ (k i : Nat), i + k = 12 → ∀ (sh : bs_Sh) (mu : bs_Mm), bs_cr1 h (11, 15) (bs_li0 (bs_gS h)) (bs_cS h i 0) sh mu sh0 mu0 → bs_W (fun r nx' sh' mu' => r = none ∧ nx' = h + 159 ∧ bs_cr1 h (11, 15) (bs_li0 (bs_gS h)) (bs_cS h 12 6) sh' mu' sh0 mu0) mX11_init (bs_rm 4 158 13469) 138 (bs_mk [(0, .ref h), (1, .int (nI i))]) [] (62 + 7 * i) (10547 + 142 * i) (h + 63 + 7 * i) sh mu := by
  intro k
  induction k with
  | zero =>
    intro i hi sh mu H
    have : i = 12 := by omega
    subst this
    refine bs_iload_n dX11_init_138 rfl ?_
    refine bs_bipush (v := 12) dX11_init_139 (by decide) ?_
    refine bs_icmp_ge (tgt := 163) dX11_init_141 (by decide) (fun c => ?_) (fun c => ?_)
    · refine bs_iconst (v := 0) dX11_init_163 (by decide) ?_
      refine bs_istore_n dX11_init_164 rfl (by decide) ?_
      refine bs_W.mk [(0, .ref h), (1, .int (nI 0))] ?_ ?_
      · intro q hq
        simp only [List.mem_cons, List.not_mem_nil, or_false] at hq
        rcases hq with rfl | rfl <;> rfl
      · exact s_X11_loop2 6 0 rfl _ _ H
    · exact absurd (by decide) c
  | succ k ih =>
    intro i hi sh mu H
    refine bs_iload_n dX11_init_138 rfl ?_
    refine bs_bipush (v := nI 12) dX11_init_139 (by decide) ?_
    refine bs_icmp_ge (tgt := 163) dX11_init_141 (by decide) (fun c => ?_) (fun c => ?_)
    · exact absurd c (nI_ge (by omega) (by omega))
    · refine bs_aload_n dX11_init_144 rfl ?_
      refine bs_getR (b := h + 7) dX11_init_145 fX11_25 (congrArg Prod.fst H.1) (by rw [H.2.1]; rfl) ?_
      refine bs_iload_n dX11_init_148 rfl ?_
      refine bs_new dX11_init_149 nX11_23 (by show 62 + 7 * i + 1 ≤ 158; omega) (by show 10547 + 142 * i + 10 ≤ 13469; omega) ?_
      refine bs_dup dX11_init_152 rfl ?_
      refine bs_callIN dX11_init_153 qX11_91 rfl (s_X1_init (h := h + 63 + 7 * i) bs_ns_s bs_nm_s rfl) rfl rfl (Nat.le_of_ble_eq_true rfl) ⟨⟨by decide, by decide⟩, by show 62 + 7 * i + 1 + 6 ≤ 158; omega, by show 10547 + 142 * i + 10 + 132 ≤ 13469; omega⟩ (fun v0 nx0 sh1 mu1 hp0 => ?_)
      obtain ⟨rfl, rfl, H0⟩ := hp0
      have H1 := H.obj (nx := h + 63 + 7 * i) (by rw [bs_cSl]; omega) H0
      have hr : (bs_cS h i 0 ++ bs_cF (h + 63 + 7 * i))[6]? = some ((17, 12), bs_fa h i) := rfl
      refine bs_aast dX11_init_156 (k := 17) (ci := 1) (n := 12) (by exact (H1.2.2.1 6 _ hr).1) (by decide) (bs_ix_n (j := i) (by omega) (by decide)) (congrArg Prod.fst H0.1) ?_
      have H2 := (H1.set hr (a := h + 7) rfl i (.ref (h + 63 + 7 * i))).eqc (bs_cSf h i)
      refine bs_iinc dX11_init_157 rfl rfl ?_
      refine bs_goto (tgt := 138) dX11_init_160 (by decide) ?_
      refine bs_W.mk [(0, .ref h), (1, .int (nI (i + 1)))] ?_ ?_
      · intro q hq
        simp only [List.mem_cons, List.not_mem_nil, or_false] at hq
        rcases hq with rfl | rfl
        · rfl
        · show some (Value.int (nI i + 1)) = _
          rw [nI_1]
      · have := ih (i + 1) (by omega) _ _ H2
        rw [show 62 + 7 * i + 1 + (bs_rm 1 6 132).cells = 62 + 7 * (i + 1) by show 62 + 7 * i + 1 + 6 = _; omega, show 10547 + 142 * i + bs_nf 1 + (bs_rm 1 6 132).slots = 10547 + 142 * (i + 1) by show 10547 + 142 * i + 10 + 132 = _; omega, show h + 63 + 7 * i + 7 = h + 63 + 7 * (i + 1) by omega]
        exact this
set_option maxHeartbeats 4000000 in
set_option maxRecDepth 100000 in
theorem s_X11_init {h nx : Nat} {sh : bs_Sh} {mu : bs_Mm} (hs : sh h = (11, 15)) (hm : mu h = fun _ => .null) (hn : nx = h + 1) : bs_C mX11_init (bs_rm 4 158 13469) [.ref h] nx sh mu (fun r nx' sh' mu' => r = none ∧ nx' = h + 159 ∧ bs_cr1 h (11, 15) (bs_li0 (bs_gS h)) (bs_cS h 12 6) sh' mu' sh mu) := by
  subst hn
  refine bs_ct (by decide +kernel) (Nat.le_of_ble_eq_true rfl) ?_
  refine bs_aload_n dX11_init_0 rfl ?_
  refine bs_oinit dX11_init_1 oX11_3 (by decide) (Nat.le_of_ble_eq_true rfl) ?_
  have c0 : bs_cr1 h (11, 15) (bs_li0 [.null, .null, .null, .null, .null, .null, .null, .null, .null, .null, .null, .null, .null, .null, .null]) [] _ _ sh mu := bs_cr1_0 (h := h) (ob := (11, 15)) hs (hm.trans (bs_li0_0 15).symm)
  refine bs_aload_n dX11_init_4 rfl ?_
  refine bs_new dX11_init_5 nX11_9 (by decide) (by decide) ?_
  refine bs_dup dX11_init_8 rfl ?_
  refine bs_callIN dX11_init_9 qX11_11 rfl (s_X8_init (h := h + 1) bs_ns_s bs_nm_s rfl) rfl rfl (Nat.le_of_ble_eq_true rfl) ⟨⟨by decide, by decide⟩, by decide, by decide⟩ (fun v0 nx0 sh0 mu0 hp0 => ?_)
  obtain ⟨rfl, rfl, H0⟩ := hp0
  refine bs_putF dX11_init_12 pX11_12 rfl (by rw [(H0.2.2.2 h (by omega)).1, bs_ns_f (by omega)]; exact (congrArg Prod.fst c0.1)) ?_
  have c1 : bs_cr1 h (11, 15) (bs_li0 [.ref (h + 1), .null, .null, .null, .null, .null, .null, .null, .null, .null, .null, .null, .null, .null, .null]) [((8, 4), bs_li0 [.ref (h + 2), .ref (h + 3), .ref (h + 4), .null]), ((14, 6), fun _ => .null), ((14, 6), fun _ => .null), ((14, 6), fun _ => .null)] _ _ sh mu := (c0.obj (nx := h + 1) rfl H0).putl 0 (.ref (h + 1)) (Nat.le_of_ble_eq_true rfl)
  refine bs_aload_n dX11_init_15 rfl ?_
  refine bs_new dX11_init_16 nX11_16 (by decide) (by decide) ?_
  refine bs_dup dX11_init_19 rfl ?_
  refine bs_callIN dX11_init_20 qX11_18 rfl (s_X10_init (h := h + 5) bs_ns_s bs_nm_s rfl) rfl rfl (Nat.le_of_ble_eq_true rfl) ⟨⟨by decide, by decide⟩, by decide, by decide⟩ (fun v1 nx1 sh1 mu1 hp1 => ?_)
  obtain ⟨rfl, rfl, H1⟩ := hp1
  refine bs_putF dX11_init_23 pX11_19 rfl (by rw [(H1.2.2.2 h (by omega)).1, bs_ns_f (by omega)]; exact (congrArg Prod.fst c1.1)) ?_
  have c2 : bs_cr1 h (11, 15) (bs_li0 [.ref (h + 1), .ref (h + 5), .null, .null, .null, .null, .null, .null, .null, .null, .null, .null, .null, .null, .null]) [((8, 4), bs_li0 [.ref (h + 2), .ref (h + 3), .ref (h + 4), .null]), ((14, 6), fun _ => .null), ((14, 6), fun _ => .null), ((14, 6), fun _ => .null), ((10, 2), bs_li0 [.ref (h + 6), .null]), ((13, 200), fun _ => .null)] _ _ sh mu := (c1.obj (nx := h + 5) rfl H1).putl 1 (.ref (h + 5)) (Nat.le_of_ble_eq_true rfl)
  refine bs_aload_n dX11_init_26 rfl ?_
  refine bs_bipush (v := nI 12) dX11_init_27 (by decide) ?_
  refine bs_newq (k := 17) (N := 12) (tk := 4) (C := "BalloonStall$Figure") dX11_init_29 aX11_23 (by decide) rfl (by decide) (by decide) (by decide) ?_
  refine bs_putF dX11_init_32 pX11_25 rfl (by rw [bs_ns_f (by omega)]; exact (congrArg Prod.fst c2.1)) ?_
  have c3 : bs_cr1 h (11, 15) (bs_li0 [.ref (h + 1), .ref (h + 5), .ref (h + 7), .null, .null, .null, .null, .null, .null, .null, .null, .null, .null, .null, .null]) [((8, 4), bs_li0 [.ref (h + 2), .ref (h + 3), .ref (h + 4), .null]), ((14, 6), fun _ => .null), ((14, 6), fun _ => .null), ((14, 6), fun _ => .null), ((10, 2), bs_li0 [.ref (h + 6), .null]), ((13, 200), fun _ => .null), ((17, 12), fun _ => .null)] _ _ sh mu := c2.rowl (nx := h + 7) rfl 2 17 12 (Nat.le_of_ble_eq_true rfl)
  refine bs_aload_n dX11_init_35 rfl ?_
  refine bs_bipush (v := nI 6) dX11_init_36 (by decide) ?_
  refine bs_newq (k := 18) (N := 6) (tk := 5) (C := "BalloonStall$Rule") dX11_init_38 aX11_29 (by decide) rfl (by decide) (by decide) (by decide) ?_
  refine bs_putF dX11_init_41 pX11_31 rfl (by rw [bs_ns_f (by omega)]; exact (congrArg Prod.fst c3.1)) ?_
  have c4 : bs_cr1 h (11, 15) (bs_li0 [.ref (h + 1), .ref (h + 5), .ref (h + 7), .ref (h + 8), .null, .null, .null, .null, .null, .null, .null, .null, .null, .null, .null]) [((8, 4), bs_li0 [.ref (h + 2), .ref (h + 3), .ref (h + 4), .null]), ((14, 6), fun _ => .null), ((14, 6), fun _ => .null), ((14, 6), fun _ => .null), ((10, 2), bs_li0 [.ref (h + 6), .null]), ((13, 200), fun _ => .null), ((17, 12), fun _ => .null), ((18, 6), fun _ => .null)] _ _ sh mu := c3.rowl (nx := h + 8) rfl 3 18 6 (Nat.le_of_ble_eq_true rfl)
  refine bs_aload_n dX11_init_44 rfl ?_
  refine bs_new dX11_init_45 nX11_35 (by decide) (by decide) ?_
  refine bs_dup dX11_init_48 rfl ?_
  refine bs_callIN dX11_init_49 qX11_37 rfl (s_X2_init (h := h + 9) bs_ns_s bs_nm_s rfl) rfl rfl (Nat.le_of_ble_eq_true rfl) ⟨⟨by decide, by decide⟩, by decide, by decide⟩ (fun v4 nx4 sh4 mu4 hp4 => ?_)
  obtain ⟨rfl, rfl, H4⟩ := hp4
  refine bs_putF dX11_init_52 pX11_38 rfl (by rw [(H4.2.2.2 h (by omega)).1, bs_ns_f (by omega)]; exact (congrArg Prod.fst c4.1)) ?_
  have c5 : bs_cr1 h (11, 15) (bs_li0 [.ref (h + 1), .ref (h + 5), .ref (h + 7), .ref (h + 8), .ref (h + 9), .null, .null, .null, .null, .null, .null, .null, .null, .null, .null]) [((8, 4), bs_li0 [.ref (h + 2), .ref (h + 3), .ref (h + 4), .null]), ((14, 6), fun _ => .null), ((14, 6), fun _ => .null), ((14, 6), fun _ => .null), ((10, 2), bs_li0 [.ref (h + 6), .null]), ((13, 200), fun _ => .null), ((17, 12), fun _ => .null), ((18, 6), fun _ => .null), ((2, 11), bs_li0 [.ref (h + 10), .ref (h + 17), .ref (h + 18), .ref (h + 19), .null, .null, .null, .null, .null, .null, .null]), ((1, 10), bs_li0 [.ref (h + 11), .ref (h + 12), .ref (h + 13), .ref (h + 14), .ref (h + 15), .ref (h + 16), .null, .null, .null, .null]), ((14, 6), fun _ => .null), ((14, 24), fun _ => .null), ((14, 24), fun _ => .null), ((14, 24), fun _ => .null), ((14, 24), fun _ => .null), ((14, 30), fun _ => .null), ((14, 30), fun _ => .null), ((14, 8), fun _ => .null), ((14, 6), fun _ => .null)] _ _ sh mu := (c4.obj (nx := h + 9) rfl H4).putl 4 (.ref (h + 9)) (Nat.le_of_ble_eq_true rfl)
  refine bs_aload_n dX11_init_55 rfl ?_
  refine bs_new dX11_init_56 nX11_42 (by decide) (by decide) ?_
  refine bs_dup dX11_init_59 rfl ?_
  refine bs_callIN dX11_init_60 qX11_44 rfl (s_X7_init (h := h + 20) bs_ns_s bs_nm_s rfl) rfl rfl (Nat.le_of_ble_eq_true rfl) ⟨⟨by decide, by decide⟩, by decide, by decide⟩ (fun v5 nx5 sh5 mu5 hp5 => ?_)
  obtain ⟨rfl, rfl, H5⟩ := hp5
  refine bs_putF dX11_init_63 pX11_45 rfl (by rw [(H5.2.2.2 h (by omega)).1, bs_ns_f (by omega)]; exact (congrArg Prod.fst c5.1)) ?_
  have c6 : bs_cr1 h (11, 15) (bs_li0 [.ref (h + 1), .ref (h + 5), .ref (h + 7), .ref (h + 8), .ref (h + 9), .ref (h + 20), .null, .null, .null, .null, .null, .null, .null, .null, .null]) [((8, 4), bs_li0 [.ref (h + 2), .ref (h + 3), .ref (h + 4), .null]), ((14, 6), fun _ => .null), ((14, 6), fun _ => .null), ((14, 6), fun _ => .null), ((10, 2), bs_li0 [.ref (h + 6), .null]), ((13, 200), fun _ => .null), ((17, 12), fun _ => .null), ((18, 6), fun _ => .null), ((2, 11), bs_li0 [.ref (h + 10), .ref (h + 17), .ref (h + 18), .ref (h + 19), .null, .null, .null, .null, .null, .null, .null]), ((1, 10), bs_li0 [.ref (h + 11), .ref (h + 12), .ref (h + 13), .ref (h + 14), .ref (h + 15), .ref (h + 16), .null, .null, .null, .null]), ((14, 6), fun _ => .null), ((14, 24), fun _ => .null), ((14, 24), fun _ => .null), ((14, 24), fun _ => .null), ((14, 24), fun _ => .null), ((14, 30), fun _ => .null), ((14, 30), fun _ => .null), ((14, 8), fun _ => .null), ((14, 6), fun _ => .null), ((7, 11), bs_li0 [.ref (h + 21), .ref (h + 23), .ref (h + 24), .ref (h + 25), .null, .null, .null, .null, .null, .null, .null]), ((6, 2), bs_li0 [.ref (h + 22), .null]), ((14, 201), fun _ => .null), ((15, 200), fun _ => .null), ((14, 200), fun _ => .null), ((14, 200), fun _ => .null)] _ _ sh mu := (c5.obj (nx := h + 20) rfl H5).putl 5 (.ref (h + 20)) (Nat.le_of_ble_eq_true rfl)
  refine bs_aload_n dX11_init_66 rfl ?_
  refine bs_new dX11_init_67 nX11_49 (by decide) (by decide) ?_
  refine bs_dup dX11_init_70 rfl ?_
  refine bs_callIN dX11_init_71 qX11_51 rfl (s_X5_init (h := h + 26) bs_ns_s bs_nm_s rfl) rfl rfl (Nat.le_of_ble_eq_true rfl) ⟨⟨by decide, by decide⟩, by decide, by decide⟩ (fun v6 nx6 sh6 mu6 hp6 => ?_)
  obtain ⟨rfl, rfl, H6⟩ := hp6
  refine bs_putF dX11_init_74 pX11_52 rfl (by rw [(H6.2.2.2 h (by omega)).1, bs_ns_f (by omega)]; exact (congrArg Prod.fst c6.1)) ?_
  have c7 : bs_cr1 h (11, 15) (bs_li0 [.ref (h + 1), .ref (h + 5), .ref (h + 7), .ref (h + 8), .ref (h + 9), .ref (h + 20), .ref (h + 26), .null, .null, .null, .null, .null, .null, .null, .null]) [((8, 4), bs_li0 [.ref (h + 2), .ref (h + 3), .ref (h + 4), .null]), ((14, 6), fun _ => .null), ((14, 6), fun _ => .null), ((14, 6), fun _ => .null), ((10, 2), bs_li0 [.ref (h + 6), .null]), ((13, 200), fun _ => .null), ((17, 12), fun _ => .null), ((18, 6), fun _ => .null), ((2, 11), bs_li0 [.ref (h + 10), .ref (h + 17), .ref (h + 18), .ref (h + 19), .null, .null, .null, .null, .null, .null, .null]), ((1, 10), bs_li0 [.ref (h + 11), .ref (h + 12), .ref (h + 13), .ref (h + 14), .ref (h + 15), .ref (h + 16), .null, .null, .null, .null]), ((14, 6), fun _ => .null), ((14, 24), fun _ => .null), ((14, 24), fun _ => .null), ((14, 24), fun _ => .null), ((14, 24), fun _ => .null), ((14, 30), fun _ => .null), ((14, 30), fun _ => .null), ((14, 8), fun _ => .null), ((14, 6), fun _ => .null), ((7, 11), bs_li0 [.ref (h + 21), .ref (h + 23), .ref (h + 24), .ref (h + 25), .null, .null, .null, .null, .null, .null, .null]), ((6, 2), bs_li0 [.ref (h + 22), .null]), ((14, 201), fun _ => .null), ((15, 200), fun _ => .null), ((14, 200), fun _ => .null), ((14, 200), fun _ => .null), ((5, 3), bs_li0 [.ref (h + 27), .ref (h + 28), .ref (h + 29)]), ((14, 30), fun _ => .null), ((14, 30), fun _ => .null), ((14, 30), fun _ => .null)] _ _ sh mu := (c6.obj (nx := h + 26) rfl H6).putl 6 (.ref (h + 26)) (Nat.le_of_ble_eq_true rfl)
  refine bs_aload_n dX11_init_77 rfl ?_
  refine bs_new dX11_init_78 nX11_56 (by decide) (by decide) ?_
  refine bs_dup dX11_init_81 rfl ?_
  refine bs_callIN dX11_init_82 qX11_58 rfl (s_X4_init (h := h + 30) bs_ns_s bs_nm_s rfl) rfl rfl (Nat.le_of_ble_eq_true rfl) ⟨⟨by decide, by decide⟩, by decide, by decide⟩ (fun v7 nx7 sh7 mu7 hp7 => ?_)
  obtain ⟨rfl, rfl, H7⟩ := hp7
  refine bs_putF dX11_init_85 pX11_59 rfl (by rw [(H7.2.2.2 h (by omega)).1, bs_ns_f (by omega)]; exact (congrArg Prod.fst c7.1)) ?_
  have c8 : bs_cr1 h (11, 15) (bs_li0 [.ref (h + 1), .ref (h + 5), .ref (h + 7), .ref (h + 8), .ref (h + 9), .ref (h + 20), .ref (h + 26), .ref (h + 30), .null, .null, .null, .null, .null, .null, .null]) [((8, 4), bs_li0 [.ref (h + 2), .ref (h + 3), .ref (h + 4), .null]), ((14, 6), fun _ => .null), ((14, 6), fun _ => .null), ((14, 6), fun _ => .null), ((10, 2), bs_li0 [.ref (h + 6), .null]), ((13, 200), fun _ => .null), ((17, 12), fun _ => .null), ((18, 6), fun _ => .null), ((2, 11), bs_li0 [.ref (h + 10), .ref (h + 17), .ref (h + 18), .ref (h + 19), .null, .null, .null, .null, .null, .null, .null]), ((1, 10), bs_li0 [.ref (h + 11), .ref (h + 12), .ref (h + 13), .ref (h + 14), .ref (h + 15), .ref (h + 16), .null, .null, .null, .null]), ((14, 6), fun _ => .null), ((14, 24), fun _ => .null), ((14, 24), fun _ => .null), ((14, 24), fun _ => .null), ((14, 24), fun _ => .null), ((14, 30), fun _ => .null), ((14, 30), fun _ => .null), ((14, 8), fun _ => .null), ((14, 6), fun _ => .null), ((7, 11), bs_li0 [.ref (h + 21), .ref (h + 23), .ref (h + 24), .ref (h + 25), .null, .null, .null, .null, .null, .null, .null]), ((6, 2), bs_li0 [.ref (h + 22), .null]), ((14, 201), fun _ => .null), ((15, 200), fun _ => .null), ((14, 200), fun _ => .null), ((14, 200), fun _ => .null), ((5, 3), bs_li0 [.ref (h + 27), .ref (h + 28), .ref (h + 29)]), ((14, 30), fun _ => .null), ((14, 30), fun _ => .null), ((14, 30), fun _ => .null), ((4, 10), bs_li0 [.ref (h + 31), .ref (h + 32), .ref (h + 33), .ref (h + 34), .ref (h + 35), .null, .null, .null, .null, .null]), ((14, 8), fun _ => .null), ((14, 64), fun _ => .null), ((14, 64), fun _ => .null), ((14, 48), fun _ => .null), ((14, 48), fun _ => .null)] _ _ sh mu := (c7.obj (nx := h + 30) rfl H7).putl 7 (.ref (h + 30)) (Nat.le_of_ble_eq_true rfl)
  refine bs_aload_n dX11_init_88 rfl ?_
  refine bs_new dX11_init_89 nX11_63 (by decide) (by decide) ?_
  refine bs_dup dX11_init_92 rfl ?_
  refine bs_callI dX11_init_93 qX11_65 rfl (s_X3_init (h := h + 36) bs_ns_s bs_nm_s rfl) rfl rfl (Nat.le_of_ble_eq_true rfl) ⟨⟨by decide, by decide⟩, by decide, by decide⟩ (fun v8 nx8 sh8 mu8 hp8 => ?_)
  obtain ⟨rfl, rfl, H8⟩ := hp8
  refine bs_putF dX11_init_96 pX11_66 rfl (by rw [(H8.2.2.2 h (by omega)).1, bs_ns_f (by omega)]; exact (congrArg Prod.fst c8.1)) ?_
  have c9 : bs_cr1 h (11, 15) (bs_li0 [.ref (h + 1), .ref (h + 5), .ref (h + 7), .ref (h + 8), .ref (h + 9), .ref (h + 20), .ref (h + 26), .ref (h + 30), .ref (h + 36), .null, .null, .null, .null, .null, .null]) [((8, 4), bs_li0 [.ref (h + 2), .ref (h + 3), .ref (h + 4), .null]), ((14, 6), fun _ => .null), ((14, 6), fun _ => .null), ((14, 6), fun _ => .null), ((10, 2), bs_li0 [.ref (h + 6), .null]), ((13, 200), fun _ => .null), ((17, 12), fun _ => .null), ((18, 6), fun _ => .null), ((2, 11), bs_li0 [.ref (h + 10), .ref (h + 17), .ref (h + 18), .ref (h + 19), .null, .null, .null, .null, .null, .null, .null]), ((1, 10), bs_li0 [.ref (h + 11), .ref (h + 12), .ref (h + 13), .ref (h + 14), .ref (h + 15), .ref (h + 16), .null, .null, .null, .null]), ((14, 6), fun _ => .null), ((14, 24), fun _ => .null), ((14, 24), fun _ => .null), ((14, 24), fun _ => .null), ((14, 24), fun _ => .null), ((14, 30), fun _ => .null), ((14, 30), fun _ => .null), ((14, 8), fun _ => .null), ((14, 6), fun _ => .null), ((7, 11), bs_li0 [.ref (h + 21), .ref (h + 23), .ref (h + 24), .ref (h + 25), .null, .null, .null, .null, .null, .null, .null]), ((6, 2), bs_li0 [.ref (h + 22), .null]), ((14, 201), fun _ => .null), ((15, 200), fun _ => .null), ((14, 200), fun _ => .null), ((14, 200), fun _ => .null), ((5, 3), bs_li0 [.ref (h + 27), .ref (h + 28), .ref (h + 29)]), ((14, 30), fun _ => .null), ((14, 30), fun _ => .null), ((14, 30), fun _ => .null), ((4, 10), bs_li0 [.ref (h + 31), .ref (h + 32), .ref (h + 33), .ref (h + 34), .ref (h + 35), .null, .null, .null, .null, .null]), ((14, 8), fun _ => .null), ((14, 64), fun _ => .null), ((14, 64), fun _ => .null), ((14, 48), fun _ => .null), ((14, 48), fun _ => .null), ((3, 8), bs_li0 [.ref (h + 37), .ref (h + 38), .ref (h + 39), .ref (h + 40), .ref (h + 41), .ref (h + 42), .ref (h + 43), .ref (h + 44)]), ((14, 1024), fun _ => .null), ((14, 1024), fun _ => .null), ((14, 1024), fun _ => .null), ((14, 1024), fun _ => .null), ((16, 1024), fun _ => .null), ((16, 1024), fun _ => .null), ((14, 72), fun j => if j < 72 then .int (-2) else .null), ((14, 720), fun _ => .null)] _ _ sh mu := (c8.obj (nx := h + 36) rfl H8).putl 8 (.ref (h + 36)) (Nat.le_of_ble_eq_true rfl)
  refine bs_aload_n dX11_init_99 rfl ?_
  refine bs_new dX11_init_100 nX11_70 (by decide) (by decide) ?_
  refine bs_dup dX11_init_103 rfl ?_
  refine bs_callIN dX11_init_104 qX11_72 rfl (s_X0_init (h := h + 45) bs_ns_s bs_nm_s rfl) rfl rfl (Nat.le_of_ble_eq_true rfl) ⟨⟨by decide, by decide⟩, by decide, by decide⟩ (fun v9 nx9 sh9 mu9 hp9 => ?_)
  obtain ⟨rfl, rfl, H9⟩ := hp9
  refine bs_putF dX11_init_107 pX11_73 rfl (by rw [(H9.2.2.2 h (by omega)).1, bs_ns_f (by omega)]; exact (congrArg Prod.fst c9.1)) ?_
  have c10 : bs_cr1 h (11, 15) (bs_li0 [.ref (h + 1), .ref (h + 5), .ref (h + 7), .ref (h + 8), .ref (h + 9), .ref (h + 20), .ref (h + 26), .ref (h + 30), .ref (h + 36), .ref (h + 45), .null, .null, .null, .null, .null]) [((8, 4), bs_li0 [.ref (h + 2), .ref (h + 3), .ref (h + 4), .null]), ((14, 6), fun _ => .null), ((14, 6), fun _ => .null), ((14, 6), fun _ => .null), ((10, 2), bs_li0 [.ref (h + 6), .null]), ((13, 200), fun _ => .null), ((17, 12), fun _ => .null), ((18, 6), fun _ => .null), ((2, 11), bs_li0 [.ref (h + 10), .ref (h + 17), .ref (h + 18), .ref (h + 19), .null, .null, .null, .null, .null, .null, .null]), ((1, 10), bs_li0 [.ref (h + 11), .ref (h + 12), .ref (h + 13), .ref (h + 14), .ref (h + 15), .ref (h + 16), .null, .null, .null, .null]), ((14, 6), fun _ => .null), ((14, 24), fun _ => .null), ((14, 24), fun _ => .null), ((14, 24), fun _ => .null), ((14, 24), fun _ => .null), ((14, 30), fun _ => .null), ((14, 30), fun _ => .null), ((14, 8), fun _ => .null), ((14, 6), fun _ => .null), ((7, 11), bs_li0 [.ref (h + 21), .ref (h + 23), .ref (h + 24), .ref (h + 25), .null, .null, .null, .null, .null, .null, .null]), ((6, 2), bs_li0 [.ref (h + 22), .null]), ((14, 201), fun _ => .null), ((15, 200), fun _ => .null), ((14, 200), fun _ => .null), ((14, 200), fun _ => .null), ((5, 3), bs_li0 [.ref (h + 27), .ref (h + 28), .ref (h + 29)]), ((14, 30), fun _ => .null), ((14, 30), fun _ => .null), ((14, 30), fun _ => .null), ((4, 10), bs_li0 [.ref (h + 31), .ref (h + 32), .ref (h + 33), .ref (h + 34), .ref (h + 35), .null, .null, .null, .null, .null]), ((14, 8), fun _ => .null), ((14, 64), fun _ => .null), ((14, 64), fun _ => .null), ((14, 48), fun _ => .null), ((14, 48), fun _ => .null), ((3, 8), bs_li0 [.ref (h + 37), .ref (h + 38), .ref (h + 39), .ref (h + 40), .ref (h + 41), .ref (h + 42), .ref (h + 43), .ref (h + 44)]), ((14, 1024), fun _ => .null), ((14, 1024), fun _ => .null), ((14, 1024), fun _ => .null), ((14, 1024), fun _ => .null), ((16, 1024), fun _ => .null), ((16, 1024), fun _ => .null), ((14, 72), fun j => if j < 72 then .int (-2) else .null), ((14, 720), fun _ => .null), ((0, 7), bs_li0 [.ref (h + 46), .ref (h + 47), .ref (h + 48), .ref (h + 49), .null, .null, .null]), ((14, 61), fun _ => .null), ((14, 1464), fun _ => .null), ((14, 5), fun _ => .null), ((15, 200), fun _ => .null)] _ _ sh mu := (c9.obj (nx := h + 45) rfl H9).putl 9 (.ref (h + 45)) (Nat.le_of_ble_eq_true rfl)
  refine bs_aload_n dX11_init_110 rfl ?_
  refine bs_new dX11_init_111 nX11_77 (by decide) (by decide) ?_
  refine bs_dup dX11_init_114 rfl ?_
  refine bs_callIN dX11_init_115 qX11_79 rfl (s_X9_init (h := h + 50) bs_ns_s bs_nm_s rfl) rfl rfl (Nat.le_of_ble_eq_true rfl) ⟨⟨by decide, by decide⟩, by decide, by decide⟩ (fun v10 nx10 sh10 mu10 hp10 => ?_)
  obtain ⟨rfl, rfl, H10⟩ := hp10
  refine bs_putF dX11_init_118 pX11_80 rfl (by rw [(H10.2.2.2 h (by omega)).1, bs_ns_f (by omega)]; exact (congrArg Prod.fst c10.1)) ?_
  have c11 : bs_cr1 h (11, 15) (bs_li0 [.ref (h + 1), .ref (h + 5), .ref (h + 7), .ref (h + 8), .ref (h + 9), .ref (h + 20), .ref (h + 26), .ref (h + 30), .ref (h + 36), .ref (h + 45), .ref (h + 50), .null, .null, .null, .null]) [((8, 4), bs_li0 [.ref (h + 2), .ref (h + 3), .ref (h + 4), .null]), ((14, 6), fun _ => .null), ((14, 6), fun _ => .null), ((14, 6), fun _ => .null), ((10, 2), bs_li0 [.ref (h + 6), .null]), ((13, 200), fun _ => .null), ((17, 12), fun _ => .null), ((18, 6), fun _ => .null), ((2, 11), bs_li0 [.ref (h + 10), .ref (h + 17), .ref (h + 18), .ref (h + 19), .null, .null, .null, .null, .null, .null, .null]), ((1, 10), bs_li0 [.ref (h + 11), .ref (h + 12), .ref (h + 13), .ref (h + 14), .ref (h + 15), .ref (h + 16), .null, .null, .null, .null]), ((14, 6), fun _ => .null), ((14, 24), fun _ => .null), ((14, 24), fun _ => .null), ((14, 24), fun _ => .null), ((14, 24), fun _ => .null), ((14, 30), fun _ => .null), ((14, 30), fun _ => .null), ((14, 8), fun _ => .null), ((14, 6), fun _ => .null), ((7, 11), bs_li0 [.ref (h + 21), .ref (h + 23), .ref (h + 24), .ref (h + 25), .null, .null, .null, .null, .null, .null, .null]), ((6, 2), bs_li0 [.ref (h + 22), .null]), ((14, 201), fun _ => .null), ((15, 200), fun _ => .null), ((14, 200), fun _ => .null), ((14, 200), fun _ => .null), ((5, 3), bs_li0 [.ref (h + 27), .ref (h + 28), .ref (h + 29)]), ((14, 30), fun _ => .null), ((14, 30), fun _ => .null), ((14, 30), fun _ => .null), ((4, 10), bs_li0 [.ref (h + 31), .ref (h + 32), .ref (h + 33), .ref (h + 34), .ref (h + 35), .null, .null, .null, .null, .null]), ((14, 8), fun _ => .null), ((14, 64), fun _ => .null), ((14, 64), fun _ => .null), ((14, 48), fun _ => .null), ((14, 48), fun _ => .null), ((3, 8), bs_li0 [.ref (h + 37), .ref (h + 38), .ref (h + 39), .ref (h + 40), .ref (h + 41), .ref (h + 42), .ref (h + 43), .ref (h + 44)]), ((14, 1024), fun _ => .null), ((14, 1024), fun _ => .null), ((14, 1024), fun _ => .null), ((14, 1024), fun _ => .null), ((16, 1024), fun _ => .null), ((16, 1024), fun _ => .null), ((14, 72), fun j => if j < 72 then .int (-2) else .null), ((14, 720), fun _ => .null), ((0, 7), bs_li0 [.ref (h + 46), .ref (h + 47), .ref (h + 48), .ref (h + 49), .null, .null, .null]), ((14, 61), fun _ => .null), ((14, 1464), fun _ => .null), ((14, 5), fun _ => .null), ((15, 200), fun _ => .null), ((9, 15), bs_li0 [.ref (h + 51), .int 1, .null, .null, .null, .ref (h + 52), .ref (h + 53), .ref (h + 54), .ref (h + 55), .ref (h + 56), .ref (h + 57), .ref (h + 58), .ref (h + 59), .ref (h + 60), .null]), ((14, 6), fun _ => .null), ((14, 30), fun _ => .null), ((14, 30), fun _ => .null), ((14, 30), fun _ => .null), ((14, 30), fun _ => .null), ((14, 30), fun _ => .null), ((14, 30), fun _ => .null), ((14, 30), fun _ => .null), ((14, 6), fun _ => .null), ((14, 6), fun _ => .null)] _ _ sh mu := (c10.obj (nx := h + 50) rfl H10).putl 10 (.ref (h + 50)) (Nat.le_of_ble_eq_true rfl)
  refine bs_aload_n dX11_init_121 rfl ?_
  refine bs_iconst (v := nI 5) dX11_init_122 (by decide) ?_
  refine bs_newa (ty := .int) (k := 14) (N := 5) (tk := 1) dX11_init_123 w_arr_int rfl (by decide) rfl (by decide) (by decide) (by decide) ?_
  refine bs_putF dX11_init_125 pX11_84 rfl (by rw [bs_ns_f (by omega)]; exact (congrArg Prod.fst c11.1)) ?_
  have c12 : bs_cr1 h (11, 15) (bs_li0 [.ref (h + 1), .ref (h + 5), .ref (h + 7), .ref (h + 8), .ref (h + 9), .ref (h + 20), .ref (h + 26), .ref (h + 30), .ref (h + 36), .ref (h + 45), .ref (h + 50), .ref (h + 61), .null, .null, .null]) [((8, 4), bs_li0 [.ref (h + 2), .ref (h + 3), .ref (h + 4), .null]), ((14, 6), fun _ => .null), ((14, 6), fun _ => .null), ((14, 6), fun _ => .null), ((10, 2), bs_li0 [.ref (h + 6), .null]), ((13, 200), fun _ => .null), ((17, 12), fun _ => .null), ((18, 6), fun _ => .null), ((2, 11), bs_li0 [.ref (h + 10), .ref (h + 17), .ref (h + 18), .ref (h + 19), .null, .null, .null, .null, .null, .null, .null]), ((1, 10), bs_li0 [.ref (h + 11), .ref (h + 12), .ref (h + 13), .ref (h + 14), .ref (h + 15), .ref (h + 16), .null, .null, .null, .null]), ((14, 6), fun _ => .null), ((14, 24), fun _ => .null), ((14, 24), fun _ => .null), ((14, 24), fun _ => .null), ((14, 24), fun _ => .null), ((14, 30), fun _ => .null), ((14, 30), fun _ => .null), ((14, 8), fun _ => .null), ((14, 6), fun _ => .null), ((7, 11), bs_li0 [.ref (h + 21), .ref (h + 23), .ref (h + 24), .ref (h + 25), .null, .null, .null, .null, .null, .null, .null]), ((6, 2), bs_li0 [.ref (h + 22), .null]), ((14, 201), fun _ => .null), ((15, 200), fun _ => .null), ((14, 200), fun _ => .null), ((14, 200), fun _ => .null), ((5, 3), bs_li0 [.ref (h + 27), .ref (h + 28), .ref (h + 29)]), ((14, 30), fun _ => .null), ((14, 30), fun _ => .null), ((14, 30), fun _ => .null), ((4, 10), bs_li0 [.ref (h + 31), .ref (h + 32), .ref (h + 33), .ref (h + 34), .ref (h + 35), .null, .null, .null, .null, .null]), ((14, 8), fun _ => .null), ((14, 64), fun _ => .null), ((14, 64), fun _ => .null), ((14, 48), fun _ => .null), ((14, 48), fun _ => .null), ((3, 8), bs_li0 [.ref (h + 37), .ref (h + 38), .ref (h + 39), .ref (h + 40), .ref (h + 41), .ref (h + 42), .ref (h + 43), .ref (h + 44)]), ((14, 1024), fun _ => .null), ((14, 1024), fun _ => .null), ((14, 1024), fun _ => .null), ((14, 1024), fun _ => .null), ((16, 1024), fun _ => .null), ((16, 1024), fun _ => .null), ((14, 72), fun j => if j < 72 then .int (-2) else .null), ((14, 720), fun _ => .null), ((0, 7), bs_li0 [.ref (h + 46), .ref (h + 47), .ref (h + 48), .ref (h + 49), .null, .null, .null]), ((14, 61), fun _ => .null), ((14, 1464), fun _ => .null), ((14, 5), fun _ => .null), ((15, 200), fun _ => .null), ((9, 15), bs_li0 [.ref (h + 51), .int 1, .null, .null, .null, .ref (h + 52), .ref (h + 53), .ref (h + 54), .ref (h + 55), .ref (h + 56), .ref (h + 57), .ref (h + 58), .ref (h + 59), .ref (h + 60), .null]), ((14, 6), fun _ => .null), ((14, 30), fun _ => .null), ((14, 30), fun _ => .null), ((14, 30), fun _ => .null), ((14, 30), fun _ => .null), ((14, 30), fun _ => .null), ((14, 30), fun _ => .null), ((14, 30), fun _ => .null), ((14, 6), fun _ => .null), ((14, 6), fun _ => .null), ((14, 5), fun _ => .null)] _ _ sh mu := c11.rowl (nx := h + 61) rfl 11 14 5 (Nat.le_of_ble_eq_true rfl)
  refine bs_aload_n dX11_init_128 rfl ?_
  refine bs_bipush (v := nI 30) dX11_init_129 (by decide) ?_
  refine bs_newa (ty := .int) (k := 14) (N := 30) (tk := 1) dX11_init_131 w_arr_int rfl (by decide) rfl (by decide) (by decide) (by decide) ?_
  refine bs_putF dX11_init_133 pX11_88 rfl (by rw [bs_ns_f (by omega)]; exact (congrArg Prod.fst c12.1)) ?_
  have c13 : bs_cr1 h (11, 15) (bs_li0 [.ref (h + 1), .ref (h + 5), .ref (h + 7), .ref (h + 8), .ref (h + 9), .ref (h + 20), .ref (h + 26), .ref (h + 30), .ref (h + 36), .ref (h + 45), .ref (h + 50), .ref (h + 61), .ref (h + 62), .null, .null]) [((8, 4), bs_li0 [.ref (h + 2), .ref (h + 3), .ref (h + 4), .null]), ((14, 6), fun _ => .null), ((14, 6), fun _ => .null), ((14, 6), fun _ => .null), ((10, 2), bs_li0 [.ref (h + 6), .null]), ((13, 200), fun _ => .null), ((17, 12), fun _ => .null), ((18, 6), fun _ => .null), ((2, 11), bs_li0 [.ref (h + 10), .ref (h + 17), .ref (h + 18), .ref (h + 19), .null, .null, .null, .null, .null, .null, .null]), ((1, 10), bs_li0 [.ref (h + 11), .ref (h + 12), .ref (h + 13), .ref (h + 14), .ref (h + 15), .ref (h + 16), .null, .null, .null, .null]), ((14, 6), fun _ => .null), ((14, 24), fun _ => .null), ((14, 24), fun _ => .null), ((14, 24), fun _ => .null), ((14, 24), fun _ => .null), ((14, 30), fun _ => .null), ((14, 30), fun _ => .null), ((14, 8), fun _ => .null), ((14, 6), fun _ => .null), ((7, 11), bs_li0 [.ref (h + 21), .ref (h + 23), .ref (h + 24), .ref (h + 25), .null, .null, .null, .null, .null, .null, .null]), ((6, 2), bs_li0 [.ref (h + 22), .null]), ((14, 201), fun _ => .null), ((15, 200), fun _ => .null), ((14, 200), fun _ => .null), ((14, 200), fun _ => .null), ((5, 3), bs_li0 [.ref (h + 27), .ref (h + 28), .ref (h + 29)]), ((14, 30), fun _ => .null), ((14, 30), fun _ => .null), ((14, 30), fun _ => .null), ((4, 10), bs_li0 [.ref (h + 31), .ref (h + 32), .ref (h + 33), .ref (h + 34), .ref (h + 35), .null, .null, .null, .null, .null]), ((14, 8), fun _ => .null), ((14, 64), fun _ => .null), ((14, 64), fun _ => .null), ((14, 48), fun _ => .null), ((14, 48), fun _ => .null), ((3, 8), bs_li0 [.ref (h + 37), .ref (h + 38), .ref (h + 39), .ref (h + 40), .ref (h + 41), .ref (h + 42), .ref (h + 43), .ref (h + 44)]), ((14, 1024), fun _ => .null), ((14, 1024), fun _ => .null), ((14, 1024), fun _ => .null), ((14, 1024), fun _ => .null), ((16, 1024), fun _ => .null), ((16, 1024), fun _ => .null), ((14, 72), fun j => if j < 72 then .int (-2) else .null), ((14, 720), fun _ => .null), ((0, 7), bs_li0 [.ref (h + 46), .ref (h + 47), .ref (h + 48), .ref (h + 49), .null, .null, .null]), ((14, 61), fun _ => .null), ((14, 1464), fun _ => .null), ((14, 5), fun _ => .null), ((15, 200), fun _ => .null), ((9, 15), bs_li0 [.ref (h + 51), .int 1, .null, .null, .null, .ref (h + 52), .ref (h + 53), .ref (h + 54), .ref (h + 55), .ref (h + 56), .ref (h + 57), .ref (h + 58), .ref (h + 59), .ref (h + 60), .null]), ((14, 6), fun _ => .null), ((14, 30), fun _ => .null), ((14, 30), fun _ => .null), ((14, 30), fun _ => .null), ((14, 30), fun _ => .null), ((14, 30), fun _ => .null), ((14, 30), fun _ => .null), ((14, 30), fun _ => .null), ((14, 6), fun _ => .null), ((14, 6), fun _ => .null), ((14, 5), fun _ => .null), ((14, 30), fun _ => .null)] _ _ sh mu := c12.rowl (nx := h + 62) rfl 12 14 30 (Nat.le_of_ble_eq_true rfl)
  refine bs_iconst (v := 0) dX11_init_136 (by decide) ?_
  refine bs_istore_n dX11_init_137 rfl (by decide) ?_
  refine bs_W.mk [(0, .ref h), (1, .int (nI 0))] ?_ ?_
  · intro q hq
    simp only [List.mem_cons, List.not_mem_nil, or_false] at hq
    rcases hq with rfl | rfl <;> rfl
  · exact s_X11_loop1 12 0 rfl _ _ (c13.eqc (by rw [bs_cS0]; rfl))
